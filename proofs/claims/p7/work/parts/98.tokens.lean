theorem wd_2 : ((Jvm.Cond.initialized "TripleDesk$Tokens")) ∈ lw_gd := lw_gd_in (i := 2) (by decide +kernel) rfl
theorem wd_41 : ((Jvm.Cond.fieldLink "TripleDesk$Tokens" (15 : Nat) "TripleDesk$Tokens" "tokens" "[I")) ∈ lw_gd := lw_gd_in (i := 41) (by decide +kernel) rfl
theorem wd_44 : ((Jvm.Cond.fieldLink "TripleDesk$Tokens" (36 : Nat) "TripleDesk$Tokens" "at" "I")) ∈ lw_gd := lw_gd_in (i := 44) (by decide +kernel) rfl
theorem wd_45 : ((Jvm.Cond.fieldLink "TripleDesk$Tokens" (19 : Nat) "TripleDesk$Tokens" "fault" "I")) ∈ lw_gd := lw_gd_in (i := 45) (by decide +kernel) rfl
theorem wd_46 : ((Jvm.Cond.fieldLink "TripleDesk$Tokens" (42 : Nat) "TripleDesk$Tokens" "next" "I")) ∈ lw_gd := lw_gd_in (i := 46) (by decide +kernel) rfl
theorem wd_48 : ((Jvm.Cond.fieldLink "TripleDesk$Tokens" (29 : Nat) "TripleDesk$Tokens" "amount" "I")) ∈ lw_gd := lw_gd_in (i := 48) (by decide +kernel) rfl
theorem wd_528 : ((Jvm.Cond.methodLink "TripleDesk$Tokens" (39 : Nat) ({ cls := "TripleDesk$Tokens", name := "pass", desc := "()V" } : Jvm.MethodName))) ∈ lw_gd := lw_gd_in (i := 528) (by decide +kernel) rfl
theorem wd_529 : ((Jvm.Cond.instanceMethod ({ cls := "TripleDesk$Tokens", name := "pass", desc := "()V" } : Jvm.MethodName))) ∈ lw_gd := lw_gd_in (i := 529) (by decide +kernel) rfl
theorem wd_530 : ((Jvm.Cond.selects "TripleDesk$Tokens" ({ cls := "TripleDesk$Tokens", name := "pass", desc := "()V" } : Jvm.MethodName) ({ cls := "TripleDesk$Tokens", name := "pass", desc := "()V" } : Jvm.MethodName))) ∈ lw_gd := lw_gd_in (i := 530) (by decide +kernel) rfl
theorem wd_531 : ((Jvm.Cond.code ({ cls := "TripleDesk$Tokens", name := "pass", desc := "()V" } : Jvm.MethodName) prog_11_method_7_code (1 : Nat) (Option.none : Option Jvm.ClassFile.FieldType))) ∈ lw_gd := lw_gd_in (i := 531) (by decide +kernel) rfl
theorem wd_557 : ((Jvm.Cond.instanceMethod ({ cls := "TripleDesk$Tokens", name := "refuse", desc := "()V" } : Jvm.MethodName))) ∈ lw_gd := lw_gd_in (i := 557) (by decide +kernel) rfl
theorem wd_558 : ((Jvm.Cond.selects "TripleDesk$Tokens" ({ cls := "TripleDesk$Tokens", name := "refuse", desc := "()V" } : Jvm.MethodName) ({ cls := "TripleDesk$Tokens", name := "refuse", desc := "()V" } : Jvm.MethodName))) ∈ lw_gd := lw_gd_in (i := 558) (by decide +kernel) rfl
theorem wd_559 : ((Jvm.Cond.code ({ cls := "TripleDesk$Tokens", name := "refuse", desc := "()V" } : Jvm.MethodName) prog_11_method_6_code (1 : Nat) (Option.none : Option Jvm.ClassFile.FieldType))) ∈ lw_gd := lw_gd_in (i := 559) (by decide +kernel) rfl
theorem wd_572 : ((Jvm.Cond.methodLink "TripleDesk$Tokens" (45 : Nat) ({ cls := "TripleDesk$Tokens", name := "refuse", desc := "()V" } : Jvm.MethodName))) ∈ lw_gd := lw_gd_in (i := 572) (by decide +kernel) rfl
/-- a small number, or none -/
def smn (a : Nat) : Prop := a < 128 ∨ a = 4294967295
def smk (a : Nat) : Prop := a < 32768 ∨ a = 4294967295
/-- a token, packed -/
def tkw (v : Nat) : Prop := v < 2 ^ 31 ∧ (v % 128 = 2 → v / 128 % 1024 < 6) ∧ (v % 128 = 3 → v / 128 % 1024 < 10) ∧ (v % 128 = 5 → v / 128 % 1024 < 6)
/-- the tokens of a text: the last is its end -/
def tkz (tk : Nat → Nat) (cn : Nat) : Prop := cn ≤ 400 ∧ tk cn % 128 = 0 ∧ ∀ j, j ≤ cn → tkw (tk j)
/-- the token that is looked at -/
def tst (nx am a cn : Nat) : Prop := (nx = 0 ∨ a < cn) ∧ (nx = 2 → am < 6) ∧ (nx = 3 → am < 10) ∧ (nx = 5 → am < 6)
theorem tst_of {tk : Nat → Nat} {cn a : Nat} (h : tkz tk cn) (ha : a ≤ cn) : tst (tk a % 128) (tk a / 128 % 1024) a cn := by
  obtain ⟨h1, h2, h3⟩ := h
  obtain ⟨b1, b2, b3, b4⟩ := h3 a ha
  refine ⟨?_, b2, b3, b4⟩
  by_cases e : a = cn
  · subst e; exact Or.inl h2
  · exact Or.inr (by omega)
/-- the reader's place: no fault yet (its number is 4294967295, which is -1), or one -/
def rst (tk : Nat → Nat) (tf nx am a cn : Nat) : Prop := (tf = 4294967295 ∧ tst nx am a cn ∧ nx = tk a % 128 ∧ am = tk a / 128 % 1024) ∨ (tf < 2 ^ 31 ∧ nx = 1 ∧ tf = tk a / 131072)
def okf (tf : Nat) (P : Prop) : Prop := tf = 4294967295 → P
def ftf (tf : Nat) : Nat := if tf = 4294967295 then 0 else 1
theorem ftf_ok : ftf 4294967295 = 0 := rfl
theorem ftf_le (tf : Nat) : ftf tf ≤ 1 := by unfold ftf; split <;> omega
theorem ftf_bad {tf : Nat} (h : tf < 2 ^ 31) : ftf tf = 1 := if_neg (by omega)
theorem rst.ok {tk : Nat → Nat} {nx am a cn : Nat} (h : rst tk 4294967295 nx am a cn) : tst nx am a cn := by
  rcases h with h | h
  · exact h.2.1
  · exact absurd h.1 (by decide)
theorem rst.bad {tk : Nat → Nat} {tf nx am a cn : Nat} (h : rst tk tf nx am a cn) (hf : ¬ tf = 4294967295) : tf < 2 ^ 31 ∧ nx = 1 := by
  rcases h with h | h
  · exact absurd h.1 hf
  · exact ⟨h.1, h.2.1⟩
theorem rst.go {tk : Nat → Nat} {tf nx am a cn : Nat} (h : rst tk tf nx am a cn) (h0 : nx ≠ 0) (h1 : nx ≠ 1) : tf = 4294967295 ∧ tst nx am a cn := by
  rcases h with h | h
  · exact ⟨h.1, h.2.1⟩
  · exact absurd h.2.1 h1
/-- no fault: the token's sort; a fault: its place -/
theorem rst.srt {tk : Nat → Nat} {tf nx am a cn : Nat} (h : rst tk tf nx am a cn) (hf : tf = 4294967295) : nx = tk a % 128 := by
  rcases h with h | h
  · exact h.2.2.1
  · exact absurd h.1 (by omega)
theorem rst.plc {tk : Nat → Nat} {tf nx am a cn : Nat} (h : rst tk tf nx am a cn) (hf : ¬ tf = 4294967295) : tf = tk a / 131072 := by
  rcases h with h | h
  · exact absurd h.1 hf
  · exact h.2.2
theorem ftf_0 {tf : Nat} (h : ftf tf = 0) : tf = 4294967295 := by
  unfold ftf at h
  split at h <;> omega
theorem ftf_1 {tf : Nat} (h : ftf tf = 1) : ¬ tf = 4294967295 := by
  unfold ftf at h
  split at h <;> omega
theorem ftf_n {tf : Nat} (h : ¬ tf = 4294967295) : ftf tf = 1 := if_neg h
/-- no fault, or it is as it was -/
def stq (tf a b : Nat) : Prop := tf = 4294967295 ∨ a = b
theorem stq.res {tf a b : Nat} (h : stq tf a b) (q : ¬ tf = 4294967295) : a = b := Or.resolve_left h q
/-- what need and answer do -/
def ndS (tf ta nx q tf2 ta2 : Nat) : Prop := (¬ tf = 4294967295 → tf2 = tf ∧ ta2 = ta) ∧ (tf = 4294967295 → (nx = q → tf2 = 4294967295 ∧ ta2 = ta + 1) ∧ (¬ nx = q → ftf tf2 = 1 ∧ ta2 = ta))
def anS (tf ta nx tf2 ta2 : Nat) : Prop := (¬ tf = 4294967295 → tf2 = tf ∧ ta2 = ta) ∧ (tf = 4294967295 → (nx = 0 → tf2 = 4294967295 ∧ ta2 = ta) ∧ (¬ nx = 0 → ftf tf2 = 1 ∧ ta2 = ta))
theorem nIm : nI 4294967295 = -1 := by decide
abbrev b_Tokens_isLetter : ByteArray := prog_11_method_15_code
def y_Tokens_isLetter : MethodName := ⟨R_Tokens, "isLetter", "(I)Z"⟩
theorem d_Tokens_isLetter_0 : decode b_Tokens_isLetter 0 = .ok (.iload_n 0, 1) := by decide +kernel
theorem d_Tokens_isLetter_1 : decode b_Tokens_isLetter 1 = .ok (.bipush 97, 2) := by decide +kernel
theorem d_Tokens_isLetter_3 : decode b_Tokens_isLetter 3 = .ok (.if_icmp .lt 13, 3) := by decide +kernel
theorem d_Tokens_isLetter_6 : decode b_Tokens_isLetter 6 = .ok (.iload_n 0, 1) := by decide +kernel
theorem d_Tokens_isLetter_7 : decode b_Tokens_isLetter 7 = .ok (.bipush 122, 2) := by decide +kernel
theorem d_Tokens_isLetter_9 : decode b_Tokens_isLetter 9 = .ok (.if_icmp .gt 7, 3) := by decide +kernel
theorem d_Tokens_isLetter_12 : decode b_Tokens_isLetter 12 = .ok (.iconst 1, 1) := by decide +kernel
theorem d_Tokens_isLetter_13 : decode b_Tokens_isLetter 13 = .ok (.goto 4, 3) := by decide +kernel
theorem d_Tokens_isLetter_16 : decode b_Tokens_isLetter 16 = .ok (.iconst 0, 1) := by decide +kernel
theorem d_Tokens_isLetter_17 : decode b_Tokens_isLetter 17 = .ok (.ireturn, 1) := by decide +kernel
set_option maxHeartbeats 40000000 in
set_option maxRecDepth 100000 in
theorem c_K_isLetter_yes (l : Launch) (D : va_G) (ax : Nat → ClassId) (q1 : Nat) (sz : Nat) (h1 : 97 ≤ q1) (h2 : q1 ≤ 122) : Met l y_Tokens_isLetter (xws (.code y_Tokens_isLetter b_Tokens_isLetter 1 (some .boolean))) ({ frames := 10, cells := 0, slots := 0, locals := 400 }) (va_Pc [.int (nI q1)] (xo D ax [] sz)) ((va_Qi (fun (r : Int32) (u : Nat → Nat) => r = 1) (xb D (va_A [] sz) (fun u => [])) (va_A [] sz))) 0 0 (va_A [] sz) := by
  refine Met.ofW (cc := b_Tokens_isLetter) (maxL := 1) (ret := (some .boolean)) (by decide) rfl ?_
  intro p e s m args below meth c s₁ B hml hv
  obtain ⟨rfl, hsz, hP, hK, hD0⟩ := hv
  have hx := B.exec
  have hb := B.bytes
  have hr := B.returns
  have hts := xw_hts B.pre
  have hown : s.vm.findClass R_Tokens = some m.cls := findClass_of_methodNamed B.named
  have hlocks := B.notSynchronized
  subst hsz
  have hD := hD0.self (sz := s.heap.size)
  have hN := xz_entry hP
  generalize hAe : va_A [] s.heap.size = A at hD hN ⊢
  have hA : ∀ q : Nat, s.heap.size ≤ q → A q := fun q h => by rw [← hAe]; exact Or.inr h
  have hS : va_S A s.heap s.heap [] := va_S.rf
  have hl0 := lv_entry ([.int (nI q1)]) (n := 1) (Nat.le_of_ble_eq_true rfl)
  rw [lg_entry_eq]
  generalize (lg_sl ([.int (nI q1)]) ++ List.replicate (1 - (lg_sl ([.int (nI q1)])).length) Slot.unset).toArray = ls at hl0 ⊢
  have hl1 : lv_has ls 1 [(0, .int (nI q1))] := hl0
  refine xw_gen (fun Z9 hQe => ?_)
  refine lv_iload_n hx hb d_Tokens_isLetter_0 rfl (lv_at hl1 0 rfl) ?_
  refine lv_bipush (v := 97) hx hb d_Tokens_isLetter_1 (by decide) ?_
  refine lv_icmp_lt (tgt := 16) hx hb d_Tokens_isLetter_3 (by decide) (fun c_1 => ?_) (fun c_1 => ?_)
  · exfalso
    replace c_1 : q1 < 97 := (nI_ltI (a := q1) (b := 97) (by first | exact Nat.lt_of_lt_of_le (by assumption) (by decide) | exact Nat.lt_of_le_of_lt (by assumption) (by decide) | omega) (by decide)).mp c_1
    omega
  replace c_1 : ¬ q1 < 97 := fun hq9 => c_1 ((nI_ltI (a := q1) (b := 97) (by first | exact Nat.lt_of_lt_of_le (by assumption) (by decide) | exact Nat.lt_of_le_of_lt (by assumption) (by decide) | omega) (by decide)).mpr hq9)
  refine lv_iload_n hx hb d_Tokens_isLetter_6 rfl (lv_at hl1 0 rfl) ?_
  refine lv_bipush (v := 122) hx hb d_Tokens_isLetter_7 (by decide) ?_
  refine lv_icmp_gt (tgt := 16) hx hb d_Tokens_isLetter_9 (by decide) (fun c_2 => ?_) (fun c_2 => ?_)
  · exfalso
    replace c_2 : 122 < q1 := (nI_ltI (a := 122) (b := q1) (by decide) (by first | exact Nat.lt_of_lt_of_le (by assumption) (by decide) | exact Nat.lt_of_le_of_lt (by assumption) (by decide) | omega)).mp c_2
    omega
  replace c_2 : ¬ 122 < q1 := fun hq9 => c_2 ((nI_ltI (a := 122) (b := q1) (by decide) (by first | exact Nat.lt_of_lt_of_le (by assumption) (by decide) | exact Nat.lt_of_le_of_lt (by assumption) (by decide) | omega)).mpr hq9)
  refine lv_iconst (v := 1) hx hb d_Tokens_isLetter_12 (by decide) ?_
  refine lv_goto (tgt := 17) hx hb d_Tokens_isLetter_13 (by decide) ?_
  rw [← hQe]
  obtain ⟨hP9, hD9⟩ := xw_sub2 (wc := (fun u : Nat → Nat => []) (ixn [])) hP hD [] (by decide) rfl
  exact W.zret (v := 1) hx hb hr rfl (fun t ht hW => ⟨⟨1, ixn [], rfl, rfl, ⟨by rw [ht]; exact hP9, hD9⟩⟩, hS.F ht⟩) hS.2.2 d_Tokens_isLetter_17
set_option maxHeartbeats 40000000 in
set_option maxRecDepth 100000 in
theorem c_K_isLetter_no (l : Launch) (D : va_G) (ax : Nat → ClassId) (x1 : Int32) (sz : Nat) (hno : ∀ j : Nat, 97 ≤ j → j ≤ 122 → x1 ≠ nI j) : Met l y_Tokens_isLetter (xws (.code y_Tokens_isLetter b_Tokens_isLetter 1 (some .boolean))) ({ frames := 10, cells := 0, slots := 0, locals := 400 }) (va_Pc [.int x1] (xo D ax [] sz)) ((va_Qi (fun (r : Int32) (u : Nat → Nat) => r = 0) (xb D (va_A [] sz) (fun u => [])) (va_A [] sz))) 0 0 (va_A [] sz) := by
  refine Met.ofW (cc := b_Tokens_isLetter) (maxL := 1) (ret := (some .boolean)) (by decide) rfl ?_
  intro p e s m args below meth c s₁ B hml hv
  obtain ⟨rfl, hsz, hP, hK, hD0⟩ := hv
  have hx := B.exec
  have hb := B.bytes
  have hr := B.returns
  have hts := xw_hts B.pre
  have hown : s.vm.findClass R_Tokens = some m.cls := findClass_of_methodNamed B.named
  have hlocks := B.notSynchronized
  subst hsz
  have hD := hD0.self (sz := s.heap.size)
  have hN := xz_entry hP
  generalize hAe : va_A [] s.heap.size = A at hD hN ⊢
  have hA : ∀ q : Nat, s.heap.size ≤ q → A q := fun q h => by rw [← hAe]; exact Or.inr h
  have hS : va_S A s.heap s.heap [] := va_S.rf
  have hl0 := lv_entry ([.int x1]) (n := 1) (Nat.le_of_ble_eq_true rfl)
  rw [lg_entry_eq]
  generalize (lg_sl ([.int x1]) ++ List.replicate (1 - (lg_sl ([.int x1])).length) Slot.unset).toArray = ls at hl0 ⊢
  have hl1 : lv_has ls 1 [(0, .int x1)] := hl0
  refine xw_gen (fun Z9 hQe => ?_)
  refine lv_iload_n hx hb d_Tokens_isLetter_0 rfl (lv_at hl1 0 rfl) ?_
  refine lv_bipush (v := 97) hx hb d_Tokens_isLetter_1 (by decide) ?_
  refine lv_icmp_lt (tgt := 16) hx hb d_Tokens_isLetter_3 (by decide) (fun c_1 => ?_) (fun c_1 => ?_)
  · refine lv_iconst (v := 0) hx hb d_Tokens_isLetter_16 (by decide) ?_
    rw [← hQe]
    obtain ⟨hP9, hD9⟩ := xw_sub2 (wc := (fun u : Nat → Nat => []) (ixn [])) hP hD [] (by decide) rfl
    exact W.zret (v := 0) hx hb hr rfl (fun t ht hW => ⟨⟨0, ixn [], rfl, rfl, ⟨by rw [ht]; exact hP9, hD9⟩⟩, hS.F ht⟩) hS.2.2 d_Tokens_isLetter_17
  · refine lv_iload_n hx hb d_Tokens_isLetter_6 rfl (lv_at hl1 0 rfl) ?_
    refine lv_bipush (v := 122) hx hb d_Tokens_isLetter_7 (by decide) ?_
    refine lv_icmp_gt (tgt := 16) hx hb d_Tokens_isLetter_9 (by decide) (fun c_2 => ?_) (fun c_2 => ?_)
    · refine lv_iconst (v := 0) hx hb d_Tokens_isLetter_16 (by decide) ?_
      rw [← hQe]
      obtain ⟨hP9, hD9⟩ := xw_sub2 (wc := (fun u : Nat → Nat => []) (ixn [])) hP hD [] (by decide) rfl
      exact W.zret (v := 0) hx hb hr rfl (fun t ht hW => ⟨⟨0, ixn [], rfl, rfl, ⟨by rw [ht]; exact hP9, hD9⟩⟩, hS.F ht⟩) hS.2.2 d_Tokens_isLetter_17
    · obtain ⟨j, a1, a2, e9⟩ := rng (a := 97) (b := 122) rfl rfl (by assumption) (by first | assumption | exact nle (by assumption))
      exact absurd e9 (hno j a1 a2)
abbrev b_Tokens_isDigit : ByteArray := prog_11_method_16_code
def y_Tokens_isDigit : MethodName := ⟨R_Tokens, "isDigit", "(I)Z"⟩
theorem d_Tokens_isDigit_0 : decode b_Tokens_isDigit 0 = .ok (.iload_n 0, 1) := by decide +kernel
theorem d_Tokens_isDigit_1 : decode b_Tokens_isDigit 1 = .ok (.bipush 48, 2) := by decide +kernel
theorem d_Tokens_isDigit_3 : decode b_Tokens_isDigit 3 = .ok (.if_icmp .lt 13, 3) := by decide +kernel
theorem d_Tokens_isDigit_6 : decode b_Tokens_isDigit 6 = .ok (.iload_n 0, 1) := by decide +kernel
theorem d_Tokens_isDigit_7 : decode b_Tokens_isDigit 7 = .ok (.bipush 57, 2) := by decide +kernel
theorem d_Tokens_isDigit_9 : decode b_Tokens_isDigit 9 = .ok (.if_icmp .gt 7, 3) := by decide +kernel
theorem d_Tokens_isDigit_12 : decode b_Tokens_isDigit 12 = .ok (.iconst 1, 1) := by decide +kernel
theorem d_Tokens_isDigit_13 : decode b_Tokens_isDigit 13 = .ok (.goto 4, 3) := by decide +kernel
theorem d_Tokens_isDigit_16 : decode b_Tokens_isDigit 16 = .ok (.iconst 0, 1) := by decide +kernel
theorem d_Tokens_isDigit_17 : decode b_Tokens_isDigit 17 = .ok (.ireturn, 1) := by decide +kernel
set_option maxHeartbeats 40000000 in
set_option maxRecDepth 100000 in
theorem c_K_isDigit_yes (l : Launch) (D : va_G) (ax : Nat → ClassId) (q1 : Nat) (sz : Nat) (h1 : 48 ≤ q1) (h2 : q1 ≤ 57) : Met l y_Tokens_isDigit (xws (.code y_Tokens_isDigit b_Tokens_isDigit 1 (some .boolean))) ({ frames := 10, cells := 0, slots := 0, locals := 400 }) (va_Pc [.int (nI q1)] (xo D ax [] sz)) ((va_Qi (fun (r : Int32) (u : Nat → Nat) => r = 1) (xb D (va_A [] sz) (fun u => [])) (va_A [] sz))) 0 0 (va_A [] sz) := by
  refine Met.ofW (cc := b_Tokens_isDigit) (maxL := 1) (ret := (some .boolean)) (by decide) rfl ?_
  intro p e s m args below meth c s₁ B hml hv
  obtain ⟨rfl, hsz, hP, hK, hD0⟩ := hv
  have hx := B.exec
  have hb := B.bytes
  have hr := B.returns
  have hts := xw_hts B.pre
  have hown : s.vm.findClass R_Tokens = some m.cls := findClass_of_methodNamed B.named
  have hlocks := B.notSynchronized
  subst hsz
  have hD := hD0.self (sz := s.heap.size)
  have hN := xz_entry hP
  generalize hAe : va_A [] s.heap.size = A at hD hN ⊢
  have hA : ∀ q : Nat, s.heap.size ≤ q → A q := fun q h => by rw [← hAe]; exact Or.inr h
  have hS : va_S A s.heap s.heap [] := va_S.rf
  have hl0 := lv_entry ([.int (nI q1)]) (n := 1) (Nat.le_of_ble_eq_true rfl)
  rw [lg_entry_eq]
  generalize (lg_sl ([.int (nI q1)]) ++ List.replicate (1 - (lg_sl ([.int (nI q1)])).length) Slot.unset).toArray = ls at hl0 ⊢
  have hl1 : lv_has ls 1 [(0, .int (nI q1))] := hl0
  refine xw_gen (fun Z9 hQe => ?_)
  refine lv_iload_n hx hb d_Tokens_isDigit_0 rfl (lv_at hl1 0 rfl) ?_
  refine lv_bipush (v := 48) hx hb d_Tokens_isDigit_1 (by decide) ?_
  refine lv_icmp_lt (tgt := 16) hx hb d_Tokens_isDigit_3 (by decide) (fun c_1 => ?_) (fun c_1 => ?_)
  · exfalso
    replace c_1 : q1 < 48 := (nI_ltI (a := q1) (b := 48) (by first | exact Nat.lt_of_lt_of_le (by assumption) (by decide) | exact Nat.lt_of_le_of_lt (by assumption) (by decide) | omega) (by decide)).mp c_1
    omega
  replace c_1 : ¬ q1 < 48 := fun hq9 => c_1 ((nI_ltI (a := q1) (b := 48) (by first | exact Nat.lt_of_lt_of_le (by assumption) (by decide) | exact Nat.lt_of_le_of_lt (by assumption) (by decide) | omega) (by decide)).mpr hq9)
  refine lv_iload_n hx hb d_Tokens_isDigit_6 rfl (lv_at hl1 0 rfl) ?_
  refine lv_bipush (v := 57) hx hb d_Tokens_isDigit_7 (by decide) ?_
  refine lv_icmp_gt (tgt := 16) hx hb d_Tokens_isDigit_9 (by decide) (fun c_2 => ?_) (fun c_2 => ?_)
  · exfalso
    replace c_2 : 57 < q1 := (nI_ltI (a := 57) (b := q1) (by decide) (by first | exact Nat.lt_of_lt_of_le (by assumption) (by decide) | exact Nat.lt_of_le_of_lt (by assumption) (by decide) | omega)).mp c_2
    omega
  replace c_2 : ¬ 57 < q1 := fun hq9 => c_2 ((nI_ltI (a := 57) (b := q1) (by decide) (by first | exact Nat.lt_of_lt_of_le (by assumption) (by decide) | exact Nat.lt_of_le_of_lt (by assumption) (by decide) | omega)).mpr hq9)
  refine lv_iconst (v := 1) hx hb d_Tokens_isDigit_12 (by decide) ?_
  refine lv_goto (tgt := 17) hx hb d_Tokens_isDigit_13 (by decide) ?_
  rw [← hQe]
  obtain ⟨hP9, hD9⟩ := xw_sub2 (wc := (fun u : Nat → Nat => []) (ixn [])) hP hD [] (by decide) rfl
  exact W.zret (v := 1) hx hb hr rfl (fun t ht hW => ⟨⟨1, ixn [], rfl, rfl, ⟨by rw [ht]; exact hP9, hD9⟩⟩, hS.F ht⟩) hS.2.2 d_Tokens_isDigit_17
set_option maxHeartbeats 40000000 in
set_option maxRecDepth 100000 in
theorem c_K_isDigit_no (l : Launch) (D : va_G) (ax : Nat → ClassId) (x1 : Int32) (sz : Nat) (hno : ∀ j : Nat, 48 ≤ j → j ≤ 57 → x1 ≠ nI j) : Met l y_Tokens_isDigit (xws (.code y_Tokens_isDigit b_Tokens_isDigit 1 (some .boolean))) ({ frames := 10, cells := 0, slots := 0, locals := 400 }) (va_Pc [.int x1] (xo D ax [] sz)) ((va_Qi (fun (r : Int32) (u : Nat → Nat) => r = 0) (xb D (va_A [] sz) (fun u => [])) (va_A [] sz))) 0 0 (va_A [] sz) := by
  refine Met.ofW (cc := b_Tokens_isDigit) (maxL := 1) (ret := (some .boolean)) (by decide) rfl ?_
  intro p e s m args below meth c s₁ B hml hv
  obtain ⟨rfl, hsz, hP, hK, hD0⟩ := hv
  have hx := B.exec
  have hb := B.bytes
  have hr := B.returns
  have hts := xw_hts B.pre
  have hown : s.vm.findClass R_Tokens = some m.cls := findClass_of_methodNamed B.named
  have hlocks := B.notSynchronized
  subst hsz
  have hD := hD0.self (sz := s.heap.size)
  have hN := xz_entry hP
  generalize hAe : va_A [] s.heap.size = A at hD hN ⊢
  have hA : ∀ q : Nat, s.heap.size ≤ q → A q := fun q h => by rw [← hAe]; exact Or.inr h
  have hS : va_S A s.heap s.heap [] := va_S.rf
  have hl0 := lv_entry ([.int x1]) (n := 1) (Nat.le_of_ble_eq_true rfl)
  rw [lg_entry_eq]
  generalize (lg_sl ([.int x1]) ++ List.replicate (1 - (lg_sl ([.int x1])).length) Slot.unset).toArray = ls at hl0 ⊢
  have hl1 : lv_has ls 1 [(0, .int x1)] := hl0
  refine xw_gen (fun Z9 hQe => ?_)
  refine lv_iload_n hx hb d_Tokens_isDigit_0 rfl (lv_at hl1 0 rfl) ?_
  refine lv_bipush (v := 48) hx hb d_Tokens_isDigit_1 (by decide) ?_
  refine lv_icmp_lt (tgt := 16) hx hb d_Tokens_isDigit_3 (by decide) (fun c_1 => ?_) (fun c_1 => ?_)
  · refine lv_iconst (v := 0) hx hb d_Tokens_isDigit_16 (by decide) ?_
    rw [← hQe]
    obtain ⟨hP9, hD9⟩ := xw_sub2 (wc := (fun u : Nat → Nat => []) (ixn [])) hP hD [] (by decide) rfl
    exact W.zret (v := 0) hx hb hr rfl (fun t ht hW => ⟨⟨0, ixn [], rfl, rfl, ⟨by rw [ht]; exact hP9, hD9⟩⟩, hS.F ht⟩) hS.2.2 d_Tokens_isDigit_17
  · refine lv_iload_n hx hb d_Tokens_isDigit_6 rfl (lv_at hl1 0 rfl) ?_
    refine lv_bipush (v := 57) hx hb d_Tokens_isDigit_7 (by decide) ?_
    refine lv_icmp_gt (tgt := 16) hx hb d_Tokens_isDigit_9 (by decide) (fun c_2 => ?_) (fun c_2 => ?_)
    · refine lv_iconst (v := 0) hx hb d_Tokens_isDigit_16 (by decide) ?_
      rw [← hQe]
      obtain ⟨hP9, hD9⟩ := xw_sub2 (wc := (fun u : Nat → Nat => []) (ixn [])) hP hD [] (by decide) rfl
      exact W.zret (v := 0) hx hb hr rfl (fun t ht hW => ⟨⟨0, ixn [], rfl, rfl, ⟨by rw [ht]; exact hP9, hD9⟩⟩, hS.F ht⟩) hS.2.2 d_Tokens_isDigit_17
    · obtain ⟨j, a1, a2, e9⟩ := rng (a := 48) (b := 57) rfl rfl (by assumption) (by first | assumption | exact nle (by assumption))
      exact absurd e9 (hno j a1 a2)
abbrev b_Tokens_pass : ByteArray := prog_11_method_7_code
def y_Tokens_pass : MethodName := ⟨R_Tokens, "pass", "()V"⟩
theorem d_Tokens_pass_0 : decode b_Tokens_pass 0 = .ok (.aload_n 0, 1) := by decide +kernel
theorem d_Tokens_pass_1 : decode b_Tokens_pass 1 = .ok (.getfield 19, 3) := by decide +kernel
theorem d_Tokens_pass_4 : decode b_Tokens_pass 4 = .ok (.iconst (-1), 1) := by decide +kernel
theorem d_Tokens_pass_5 : decode b_Tokens_pass 5 = .ok (.if_icmp .ne 59, 3) := by decide +kernel
theorem d_Tokens_pass_8 : decode b_Tokens_pass 8 = .ok (.aload_n 0, 1) := by decide +kernel
theorem d_Tokens_pass_9 : decode b_Tokens_pass 9 = .ok (.getfield 36, 3) := by decide +kernel
theorem d_Tokens_pass_12 : decode b_Tokens_pass 12 = .ok (.sipush 400, 3) := by decide +kernel
theorem d_Tokens_pass_15 : decode b_Tokens_pass 15 = .ok (.if_icmp .ge 49, 3) := by decide +kernel
theorem d_Tokens_pass_18 : decode b_Tokens_pass 18 = .ok (.aload_n 0, 1) := by decide +kernel
theorem d_Tokens_pass_19 : decode b_Tokens_pass 19 = .ok (.dup, 1) := by decide +kernel
theorem d_Tokens_pass_20 : decode b_Tokens_pass 20 = .ok (.getfield 36, 3) := by decide +kernel
theorem d_Tokens_pass_23 : decode b_Tokens_pass 23 = .ok (.iconst 1, 1) := by decide +kernel
theorem d_Tokens_pass_24 : decode b_Tokens_pass 24 = .ok (.iadd, 1) := by decide +kernel
theorem d_Tokens_pass_25 : decode b_Tokens_pass 25 = .ok (.putfield 36, 3) := by decide +kernel
theorem d_Tokens_pass_28 : decode b_Tokens_pass 28 = .ok (.aload_n 0, 1) := by decide +kernel
theorem d_Tokens_pass_29 : decode b_Tokens_pass 29 = .ok (.aload_n 0, 1) := by decide +kernel
theorem d_Tokens_pass_30 : decode b_Tokens_pass 30 = .ok (.getfield 15, 3) := by decide +kernel
theorem d_Tokens_pass_33 : decode b_Tokens_pass 33 = .ok (.aload_n 0, 1) := by decide +kernel
theorem d_Tokens_pass_34 : decode b_Tokens_pass 34 = .ok (.getfield 36, 3) := by decide +kernel
theorem d_Tokens_pass_37 : decode b_Tokens_pass 37 = .ok (.iaload, 1) := by decide +kernel
theorem d_Tokens_pass_38 : decode b_Tokens_pass 38 = .ok (.bipush 127, 2) := by decide +kernel
theorem d_Tokens_pass_40 : decode b_Tokens_pass 40 = .ok (.iand, 1) := by decide +kernel
theorem d_Tokens_pass_41 : decode b_Tokens_pass 41 = .ok (.putfield 42, 3) := by decide +kernel
theorem d_Tokens_pass_44 : decode b_Tokens_pass 44 = .ok (.aload_n 0, 1) := by decide +kernel
theorem d_Tokens_pass_45 : decode b_Tokens_pass 45 = .ok (.aload_n 0, 1) := by decide +kernel
theorem d_Tokens_pass_46 : decode b_Tokens_pass 46 = .ok (.getfield 15, 3) := by decide +kernel
theorem d_Tokens_pass_49 : decode b_Tokens_pass 49 = .ok (.aload_n 0, 1) := by decide +kernel
theorem d_Tokens_pass_50 : decode b_Tokens_pass 50 = .ok (.getfield 36, 3) := by decide +kernel
theorem d_Tokens_pass_53 : decode b_Tokens_pass 53 = .ok (.iaload, 1) := by decide +kernel
theorem d_Tokens_pass_54 : decode b_Tokens_pass 54 = .ok (.bipush 7, 2) := by decide +kernel
theorem d_Tokens_pass_56 : decode b_Tokens_pass 56 = .ok (.ishr, 1) := by decide +kernel
theorem d_Tokens_pass_57 : decode b_Tokens_pass 57 = .ok (.sipush 1023, 3) := by decide +kernel
theorem d_Tokens_pass_60 : decode b_Tokens_pass 60 = .ok (.iand, 1) := by decide +kernel
theorem d_Tokens_pass_61 : decode b_Tokens_pass 61 = .ok (.putfield 29, 3) := by decide +kernel
theorem d_Tokens_pass_64 : decode b_Tokens_pass 64 = .ok (.return_, 1) := by decide +kernel
set_option maxHeartbeats 40000000 in
set_option maxRecDepth 100000 in
theorem c_K_pass (l : Launch) (D : va_G) (ax : Nat → ClassId) (k0 k1 k2 : Nat) (tb : Nat → Int32) (tk : Nat → Nat) (ta tf nx am cn ts th : Nat) (sz : Nat) (hkz : tkz tk cn) (hrs : rst tk tf nx am ta cn) (hta : ta ≤ cn) (hnx : nx < 128) (ham : am < 1024) (hn0 : ¬ nx = 0) : Met l y_Tokens_pass (xws (.code y_Tokens_pass b_Tokens_pass 1 none)) ({ frames := 10, cells := 0, slots := 0, locals := 400 }) (va_Pc [.ref k0] (xo D ax [(k0, .inr (9, [.ref k1, .ref k2, .int (nI ts), .int (nI th), .int (nI ta), .int (nI tf), .int (nI nx), .int (nI am)])), (k1, .inl (ax 1, 400, .inl tb)), (k2, .inl (ax 0, 401, .inl (fun j => nI (tk j))))] sz)) ((va_Qv (fun (u : Nat → Nat) => (rst tk (u 1) (u 2) (u 3) (u 0) cn ∧ u 0 ≤ cn ∧ u 2 < 128 ∧ u 3 < 1024 ∧ ta ≤ u 0 ∧ ftf tf ≤ ftf (u 1) ∧ u 0 ≤ ta + 1 ∧ okf tf (u 0 = ta + 1) ∧ u 1 = tf ∧ stq tf (u 0) ta)) (xb D (va_A [(k0, .inr (9, [.ref k1, .ref k2, .int (nI ts), .int (nI th), .int (nI ta), .int (nI tf), .int (nI nx), .int (nI am)])), (k1, .inl (ax 1, 400, .inl tb)), (k2, .inl (ax 0, 401, .inl (fun j => nI (tk j))))] sz) (fun u => [(k0, .inr (9, [.ref k1, .ref k2, .int (nI ts), .int (nI th), .int (nI (u 0)), .int (nI (u 1)), .int (nI (u 2)), .int (nI (u 3))])), (k1, .inl (ax 1, 400, .inl tb)), (k2, .inl (ax 0, 401, .inl (fun j => nI (tk j))))])) (va_A [(k0, .inr (9, [.ref k1, .ref k2, .int (nI ts), .int (nI th), .int (nI ta), .int (nI tf), .int (nI nx), .int (nI am)])), (k1, .inl (ax 1, 400, .inl tb)), (k2, .inl (ax 0, 401, .inl (fun j => nI (tk j))))] sz))) 0 0 (va_A [(k0, .inr (9, [.ref k1, .ref k2, .int (nI ts), .int (nI th), .int (nI ta), .int (nI tf), .int (nI nx), .int (nI am)])), (k1, .inl (ax 1, 400, .inl tb)), (k2, .inl (ax 0, 401, .inl (fun j => nI (tk j))))] sz) := by
  refine Met.ofW (cc := b_Tokens_pass) (maxL := 1) (ret := none) (by decide) rfl ?_
  intro p e s m args below meth c s₁ B hml hv
  obtain ⟨rfl, hsz, hP, hK, hD0⟩ := hv
  have hx := B.exec
  have hb := B.bytes
  have hr := B.returns
  have hts := xw_hts B.pre
  have hown : s.vm.findClass R_Tokens = some m.cls := findClass_of_methodNamed B.named
  have hlocks := B.notSynchronized
  subst hsz
  have hD := hD0.self (sz := s.heap.size)
  have hN := xz_entry hP
  generalize hAe : va_A [(k0, .inr (9, [.ref k1, .ref k2, .int (nI ts), .int (nI th), .int (nI ta), .int (nI tf), .int (nI nx), .int (nI am)])), (k1, .inl (ax 1, 400, .inl tb)), (k2, .inl (ax 0, 401, .inl (fun j => nI (tk j))))] s.heap.size = A at hD hN ⊢
  have hA : ∀ q : Nat, s.heap.size ≤ q → A q := fun q h => by rw [← hAe]; exact Or.inr h
  have hS : va_S A s.heap s.heap [] := va_S.rf
  have hl0 := lv_entry ([.ref k0]) (n := 1) (Nat.le_of_ble_eq_true rfl)
  rw [lg_entry_eq]
  generalize (lg_sl ([.ref k0]) ++ List.replicate (1 - (lg_sl ([.ref k0])).length) Slot.unset).toArray = ls at hl0 ⊢
  have hl1 : lv_has ls 1 [(0, .ref k0)] := hl0
  refine xw_gen (fun Z9 hQe => ?_)
  by_cases hf0 : tf = 4294967295
  · rw [hf0, nIm] at hP hD
    rw [hf0] at hrs
    have hP7 := hP; have hD7 := hD; clear hP hD
    have hW7 : (fun w9 : va_W => va_P D classes w9 s.heap ∧ va_D A w9) [(k0, .inr (9, [.ref k1, .ref k2, .int (nI ts), .int (nI th), .int (nI ta), .int (-1), .int (nI nx), .int (nI am)])), (k1, .inl (ax 1, 400, .inl tb)), (k2, .inl (ax 0, 401, .inl (fun j => nI (tk j))))] := ⟨hP7, hD7⟩
    obtain ⟨hP, hD⟩ := hW7
    clear hP7 hD7
    have hts9 := hrs.ok
    refine lv_aload_n hx hb d_Tokens_pass_0 rfl (lv_at hl1 0 rfl) ?_
    refine va_get (D := D) (ci := 9) (v := .int (-1)) (C := R_Tokens) (T := F_Tokens) (N := 8) hx hb hts i_Tokens hown hK.1 hP 0 rfl rfl 5 (by decide) (hts _ wd_45) (fun _ h9 => h9) rfl d_Tokens_pass_1 ?_
    refine lv_iconst (v := (-1)) hx hb d_Tokens_pass_4 (by decide) ?_
    refine lv_icmp_ne (tgt := 64) hx hb d_Tokens_pass_5 (by decide) (fun c_1 => ?_) (fun c_1 => ?_)
    · first | exact absurd c_1 (by decide) | exact absurd (by decide) c_1
    obtain ⟨hz1, hz2, hz3⟩ := id hkz
    have ht9 : ta < cn := hts9.1.resolve_left hn0
    have hv9 := (hz3 (ta + 1) (by first | assumption | omega)).1
    have hq9 := tst_of hkz (a := ta + 1) (by first | assumption | omega)
    refine lv_aload_n hx hb d_Tokens_pass_8 rfl (lv_at hl1 0 rfl) ?_
    refine va_get (D := D) (ci := 9) (v := .int (nI ta)) (C := R_Tokens) (T := F_Tokens) (N := 8) hx hb hts i_Tokens hown hK.1 hP 0 rfl rfl 4 (by decide) (hts _ wd_44) (fun _ h9 => h9) rfl d_Tokens_pass_9 ?_
    refine lv_sipush (v := 400) hx hb d_Tokens_pass_12 (by decide) ?_
    refine lv_icmp_ge (tgt := 64) hx hb d_Tokens_pass_15 (by decide) (fun c_2 => ?_) (fun c_2 => ?_)
    · exfalso
      replace c_2 : 400 ≤ ta := (nI_leI (a := 400) (b := ta) (by decide) (by first | exact Nat.lt_of_lt_of_le (by assumption) (by decide) | exact Nat.lt_of_le_of_lt (by assumption) (by decide) | omega)).mp c_2
      omega
    replace c_2 : ¬ 400 ≤ ta := fun hq9 => c_2 ((nI_leI (a := 400) (b := ta) (by decide) (by first | exact Nat.lt_of_lt_of_le (by assumption) (by decide) | exact Nat.lt_of_le_of_lt (by assumption) (by decide) | omega)).mpr hq9)
    refine lv_aload_n hx hb d_Tokens_pass_18 rfl (lv_at hl1 0 rfl) ?_
    refine lv_dup hx hb d_Tokens_pass_19 rfl ?_
    refine va_get (D := D) (ci := 9) (v := .int (nI ta)) (C := R_Tokens) (T := F_Tokens) (N := 8) hx hb hts i_Tokens hown hK.1 hP 0 rfl rfl 4 (by decide) (hts _ wd_44) (fun _ h9 => h9) rfl d_Tokens_pass_20 ?_
    refine lv_iconst (v := 1) hx hb d_Tokens_pass_23 (by decide) ?_
    refine lv_iadd hx hb d_Tokens_pass_24 ?_
    refine lv_topi (fun z_3 ez_3 => ?_)
    have ez_3 : z_3 = nI (ta + 1) := ez_3.trans (nI_add ta 1)
    subst ez_3
    refine va_put (D := D) (ci := 9) (v := .int (nI (ta + 1))) (ty := .int) (C := R_Tokens) (T := F_Tokens) (N := 8) hx hb hts i_Tokens t_Tokens t_Tokens_ok n_Tokens hown hK.1 hP hD hS 0 rfl rfl 4 (by decide) (hts _ wd_44) (fun _ h9 => h9) rfl (by decide +kernel) rfl rfl (Nat.le_of_ble_eq_true rfl) d_Tokens_pass_25 (fun H_4 locs hP1 hD1 hS1 => ?_)
    clear hP hD hS
    have hS := hS1
    have hW7 : (fun w9 : va_W => va_P D classes w9 H_4 ∧ va_D A w9) [(k0, .inr (9, [.ref k1, .ref k2, .int (nI ts), .int (nI th), .int (nI (ta + 1)), .int (-1), .int (nI nx), .int (nI am)])), (k1, .inl (ax 1, 400, .inl tb)), (k2, .inl (ax 0, 401, .inl (fun j => nI (tk j))))] := ⟨hP1, hD1⟩
    obtain ⟨hP, hD⟩ := hW7
    clear hP1 hD1 hS1
    refine lv_aload_n hx hb d_Tokens_pass_28 rfl (lv_at hl1 0 rfl) ?_
    refine lv_aload_n hx hb d_Tokens_pass_29 rfl (lv_at hl1 0 rfl) ?_
    refine va_get (D := D) (ci := 9) (v := .ref k2) (C := R_Tokens) (T := F_Tokens) (N := 8) hx hb hts i_Tokens hown hK.1 hP 0 rfl rfl 1 (by decide) (hts _ wd_41) (fun _ h9 => h9) rfl d_Tokens_pass_30 ?_
    refine lv_aload_n hx hb d_Tokens_pass_33 rfl (lv_at hl1 0 rfl) ?_
    refine va_get (D := D) (ci := 9) (v := .int (nI (ta + 1))) (C := R_Tokens) (T := F_Tokens) (N := 8) hx hb hts i_Tokens hown hK.1 hP 0 rfl rfl 4 (by decide) (hts _ wd_44) (fun _ h9 => h9) rfl d_Tokens_pass_34 ?_
    refine va_iald hx hb hK.1 hP 2 0 rfl rfl (vp_in_nI (by first | assumption | omega) (by decide)) d_Tokens_pass_37 ?_
    refine W.eq (g2 := F0 m 38 ls [.int (nI (tk (ta + 1))), .ref k0]) (by rw [nI_clamp (by first | exact Nat.lt_of_lt_of_le (by assumption) (by decide) | exact Nat.lt_of_le_of_lt (by assumption) (by decide) | omega)]) ?_
    refine lv_bipush (v := 127) hx hb d_Tokens_pass_38 (by decide) ?_
    refine lv_iand hx hb d_Tokens_pass_40 ?_
    refine lv_topi (fun z_5 ez_5 => ?_)
    have ez_5 : z_5 = nI ((tk (ta + 1)) % 128) := ez_5.trans (nb_and 7 (tk (ta + 1)))
    subst ez_5
    refine va_put (D := D) (ci := 9) (v := .int (nI ((tk (ta + 1)) % 128))) (ty := .int) (C := R_Tokens) (T := F_Tokens) (N := 8) hx hb hts i_Tokens t_Tokens t_Tokens_ok n_Tokens hown hK.1 hP hD hS 0 rfl rfl 6 (by decide) (hts _ wd_46) (fun _ h9 => h9) rfl (by decide +kernel) rfl rfl (Nat.le_of_ble_eq_true rfl) d_Tokens_pass_41 (fun H_6 locs hP1 hD1 hS1 => ?_)
    clear hP hD hS
    have hS := hS1
    have hW7 : (fun w9 : va_W => va_P D classes w9 H_6 ∧ va_D A w9) [(k0, .inr (9, [.ref k1, .ref k2, .int (nI ts), .int (nI th), .int (nI (ta + 1)), .int (-1), .int (nI ((tk (ta + 1)) % 128)), .int (nI am)])), (k1, .inl (ax 1, 400, .inl tb)), (k2, .inl (ax 0, 401, .inl (fun j => nI (tk j))))] := ⟨hP1, hD1⟩
    obtain ⟨hP, hD⟩ := hW7
    clear hP1 hD1 hS1
    refine lv_aload_n hx hb d_Tokens_pass_44 rfl (lv_at hl1 0 rfl) ?_
    refine lv_aload_n hx hb d_Tokens_pass_45 rfl (lv_at hl1 0 rfl) ?_
    refine va_get (D := D) (ci := 9) (v := .ref k2) (C := R_Tokens) (T := F_Tokens) (N := 8) hx hb hts i_Tokens hown hK.1 hP 0 rfl rfl 1 (by decide) (hts _ wd_41) (fun _ h9 => h9) rfl d_Tokens_pass_46 ?_
    refine lv_aload_n hx hb d_Tokens_pass_49 rfl (lv_at hl1 0 rfl) ?_
    refine va_get (D := D) (ci := 9) (v := .int (nI (ta + 1))) (C := R_Tokens) (T := F_Tokens) (N := 8) hx hb hts i_Tokens hown hK.1 hP 0 rfl rfl 4 (by decide) (hts _ wd_44) (fun _ h9 => h9) rfl d_Tokens_pass_50 ?_
    refine va_iald hx hb hK.1 hP 2 0 rfl rfl (vp_in_nI (by first | assumption | omega) (by decide)) d_Tokens_pass_53 ?_
    refine W.eq (g2 := F0 m 54 ls [.int (nI (tk (ta + 1))), .ref k0]) (by rw [nI_clamp (by first | exact Nat.lt_of_lt_of_le (by assumption) (by decide) | exact Nat.lt_of_le_of_lt (by assumption) (by decide) | omega)]) ?_
    refine lv_bipush (v := 7) hx hb d_Tokens_pass_54 (by decide) ?_
    refine lv_ishr hx hb d_Tokens_pass_56 ?_
    refine lv_topi (fun z_7 ez_7 => ?_)
    have ez_7 : z_7 = nI ((tk (ta + 1)) / 128) := ez_7.trans (nb_shr (k := 7) (a := tk (ta + 1)) (by decide) (by first | assumption | omega))
    subst ez_7
    refine lv_sipush (v := 1023) hx hb d_Tokens_pass_57 (by decide) ?_
    refine lv_iand hx hb d_Tokens_pass_60 ?_
    refine lv_topi (fun z_8 ez_8 => ?_)
    have ez_8 : z_8 = nI (((tk (ta + 1)) / 128) % 1024) := ez_8.trans (nb_and 10 ((tk (ta + 1)) / 128))
    subst ez_8
    refine va_put (D := D) (ci := 9) (v := .int (nI (((tk (ta + 1)) / 128) % 1024))) (ty := .int) (C := R_Tokens) (T := F_Tokens) (N := 8) hx hb hts i_Tokens t_Tokens t_Tokens_ok n_Tokens hown hK.1 hP hD hS 0 rfl rfl 7 (by decide) (hts _ wd_48) (fun _ h9 => h9) rfl (by decide +kernel) rfl rfl (Nat.le_of_ble_eq_true rfl) d_Tokens_pass_61 (fun H_9 locs hP1 hD1 hS1 => ?_)
    clear hP hD hS
    have hS := hS1
    have hW7 : (fun w9 : va_W => va_P D classes w9 H_9 ∧ va_D A w9) [(k0, .inr (9, [.ref k1, .ref k2, .int (nI ts), .int (nI th), .int (nI (ta + 1)), .int (-1), .int (nI ((tk (ta + 1)) % 128)), .int (nI (((tk (ta + 1)) / 128) % 1024))])), (k1, .inl (ax 1, 400, .inl tb)), (k2, .inl (ax 0, 401, .inl (fun j => nI (tk j))))] := ⟨hP1, hD1⟩
    obtain ⟨hP, hD⟩ := hW7
    clear hP1 hD1 hS1
    rw [← hQe]
    obtain ⟨hP9, hD9⟩ := xw_sub2 (wc := (fun u : Nat → Nat => [(k0, .inr (9, [.ref k1, .ref k2, .int (nI ts), .int (nI th), .int (nI (u 0)), .int (nI (u 1)), .int (nI (u 2)), .int (nI (u 3))])), (k1, .inl (ax 1, 400, .inl tb)), (k2, .inl (ax 0, 401, .inl (fun j => nI (tk j))))]) (ixn [(ta + 1), 4294967295, ((tk (ta + 1)) % 128), (((tk (ta + 1)) / 128) % 1024)])) hP hD [0, 1, 2] (by decide) rfl
    have hsp0 : rst tk (4294967295) (((tk (ta + 1)) % 128)) ((((tk (ta + 1)) / 128) % 1024)) ((ta + 1)) cn := (Or.inl ⟨rfl, hq9, rfl, rfl⟩)
    have hsp1 : (ta + 1) ≤ cn := (by first | assumption | omega)
    have hsp2 : ((tk (ta + 1)) % 128) < 128 := (by first | assumption | omega)
    have hsp3 : (((tk (ta + 1)) / 128) % 1024) < 1024 := (by first | assumption | omega)
    have hsp4 : ta ≤ (ta + 1) := (by first | assumption | omega)
    have hsp5 : ftf tf ≤ ftf (4294967295) := (by rw [hf0]; exact Nat.le_refl _)
    have hsp6 : (ta + 1) ≤ ta + 1 := (by first | assumption | omega)
    have hsp7 : okf tf ((ta + 1) = ta + 1) := (fun _ => rfl)
    have hsp8 : 4294967295 = tf := (by first | assumption | omega)
    have hsp9 : stq tf ((ta + 1)) ta := (Or.inl hf0)
    exact W.vret hx hb hr (fun t ht hW => ⟨⟨ixn [(ta + 1), 4294967295, ((tk (ta + 1)) % 128), (((tk (ta + 1)) / 128) % 1024)], rfl, ⟨hsp0, hsp1, hsp2, hsp3, hsp4, hsp5, hsp6, hsp7, hsp8, hsp9⟩, ⟨by rw [ht]; exact hP9, hD9⟩⟩, hS.F ht⟩) hS.2.2 d_Tokens_pass_64
  · obtain ⟨hf1, hf2⟩ := hrs.bad hf0
    refine lv_aload_n hx hb d_Tokens_pass_0 rfl (lv_at hl1 0 rfl) ?_
    refine va_get (D := D) (ci := 9) (v := .int (nI tf)) (C := R_Tokens) (T := F_Tokens) (N := 8) hx hb hts i_Tokens hown hK.1 hP 0 rfl rfl 5 (by decide) (hts _ wd_45) (fun _ h9 => h9) rfl d_Tokens_pass_1 ?_
    refine lv_iconst (v := (-1)) hx hb d_Tokens_pass_4 (by decide) ?_
    refine lv_icmp_ne (tgt := 64) hx hb d_Tokens_pass_5 (by decide) (fun c_10 => ?_) (fun c_10 => ?_)
    rotate_right
    · exact absurd c_10 (nIm1 (by first | assumption | omega))
    rw [← hQe]
    obtain ⟨hP9, hD9⟩ := xw_sub2 (wc := (fun u : Nat → Nat => [(k0, .inr (9, [.ref k1, .ref k2, .int (nI ts), .int (nI th), .int (nI (u 0)), .int (nI (u 1)), .int (nI (u 2)), .int (nI (u 3))])), (k1, .inl (ax 1, 400, .inl tb)), (k2, .inl (ax 0, 401, .inl (fun j => nI (tk j))))]) (ixn [ta, tf, nx, am])) hP hD [0, 1, 2] (by decide) rfl
    have hsp0 : rst tk (tf) (nx) (am) (ta) cn := (Or.inr ⟨hf1, hf2, hrs.plc hf0⟩)
    have hsp1 : ta ≤ cn := (by first | assumption | omega)
    have hsp2 : nx < 128 := (by first | assumption | omega)
    have hsp3 : am < 1024 := (by first | assumption | omega)
    have hsp4 : ta ≤ ta := (by first | assumption | omega)
    have hsp5 : ftf tf ≤ ftf (tf) := (Nat.le_refl _)
    have hsp6 : ta ≤ ta + 1 := (by first | assumption | omega)
    have hsp7 : okf tf (ta = ta + 1) := (fun q => absurd q hf0)
    have hsp8 : tf = tf := (by first | assumption | omega)
    have hsp9 : stq tf (ta) ta := (Or.inr rfl)
    exact W.vret hx hb hr (fun t ht hW => ⟨⟨ixn [ta, tf, nx, am], rfl, ⟨hsp0, hsp1, hsp2, hsp3, hsp4, hsp5, hsp6, hsp7, hsp8, hsp9⟩, ⟨by rw [ht]; exact hP9, hD9⟩⟩, hS.F ht⟩) hS.2.2 d_Tokens_pass_64
abbrev b_Tokens_refuse : ByteArray := prog_11_method_6_code
def y_Tokens_refuse : MethodName := ⟨R_Tokens, "refuse", "()V"⟩
theorem d_Tokens_refuse_0 : decode b_Tokens_refuse 0 = .ok (.aload_n 0, 1) := by decide +kernel
theorem d_Tokens_refuse_1 : decode b_Tokens_refuse 1 = .ok (.getfield 19, 3) := by decide +kernel
theorem d_Tokens_refuse_4 : decode b_Tokens_refuse 4 = .ok (.iconst (-1), 1) := by decide +kernel
theorem d_Tokens_refuse_5 : decode b_Tokens_refuse 5 = .ok (.if_icmp .ne 24, 3) := by decide +kernel
theorem d_Tokens_refuse_8 : decode b_Tokens_refuse 8 = .ok (.aload_n 0, 1) := by decide +kernel
theorem d_Tokens_refuse_9 : decode b_Tokens_refuse 9 = .ok (.aload_n 0, 1) := by decide +kernel
theorem d_Tokens_refuse_10 : decode b_Tokens_refuse 10 = .ok (.getfield 15, 3) := by decide +kernel
theorem d_Tokens_refuse_13 : decode b_Tokens_refuse 13 = .ok (.aload_n 0, 1) := by decide +kernel
theorem d_Tokens_refuse_14 : decode b_Tokens_refuse 14 = .ok (.getfield 36, 3) := by decide +kernel
theorem d_Tokens_refuse_17 : decode b_Tokens_refuse 17 = .ok (.iaload, 1) := by decide +kernel
theorem d_Tokens_refuse_18 : decode b_Tokens_refuse 18 = .ok (.bipush 17, 2) := by decide +kernel
theorem d_Tokens_refuse_20 : decode b_Tokens_refuse 20 = .ok (.ishr, 1) := by decide +kernel
theorem d_Tokens_refuse_21 : decode b_Tokens_refuse 21 = .ok (.putfield 19, 3) := by decide +kernel
theorem d_Tokens_refuse_24 : decode b_Tokens_refuse 24 = .ok (.aload_n 0, 1) := by decide +kernel
theorem d_Tokens_refuse_25 : decode b_Tokens_refuse 25 = .ok (.iconst 1, 1) := by decide +kernel
theorem d_Tokens_refuse_26 : decode b_Tokens_refuse 26 = .ok (.putfield 42, 3) := by decide +kernel
theorem d_Tokens_refuse_29 : decode b_Tokens_refuse 29 = .ok (.return_, 1) := by decide +kernel
set_option maxHeartbeats 40000000 in
set_option maxRecDepth 100000 in
theorem c_K_refuse (l : Launch) (D : va_G) (ax : Nat → ClassId) (k0 k1 k2 : Nat) (tb : Nat → Int32) (tk : Nat → Nat) (ta tf nx am cn ts th : Nat) (sz : Nat) (hkz : tkz tk cn) (hrs : rst tk tf nx am ta cn) (hta : ta ≤ cn) (hnx : nx < 128) (ham : am < 1024) : Met l y_Tokens_refuse (xws (.code y_Tokens_refuse b_Tokens_refuse 1 none)) ({ frames := 10, cells := 0, slots := 0, locals := 400 }) (va_Pc [.ref k0] (xo D ax [(k0, .inr (9, [.ref k1, .ref k2, .int (nI ts), .int (nI th), .int (nI ta), .int (nI tf), .int (nI nx), .int (nI am)])), (k1, .inl (ax 1, 400, .inl tb)), (k2, .inl (ax 0, 401, .inl (fun j => nI (tk j))))] sz)) ((va_Qv (fun (u : Nat → Nat) => (rst tk (u 1) (u 2) (u 3) (u 0) cn ∧ u 0 ≤ cn ∧ u 2 < 128 ∧ u 3 < 1024 ∧ ta ≤ u 0 ∧ ftf tf ≤ ftf (u 1) ∧ u 0 = ta ∧ u 1 < 2 ^ 31 ∧ u 2 = 1 ∧ stq tf (u 1) tf)) (xb D (va_A [(k0, .inr (9, [.ref k1, .ref k2, .int (nI ts), .int (nI th), .int (nI ta), .int (nI tf), .int (nI nx), .int (nI am)])), (k1, .inl (ax 1, 400, .inl tb)), (k2, .inl (ax 0, 401, .inl (fun j => nI (tk j))))] sz) (fun u => [(k0, .inr (9, [.ref k1, .ref k2, .int (nI ts), .int (nI th), .int (nI (u 0)), .int (nI (u 1)), .int (nI (u 2)), .int (nI (u 3))])), (k1, .inl (ax 1, 400, .inl tb)), (k2, .inl (ax 0, 401, .inl (fun j => nI (tk j))))])) (va_A [(k0, .inr (9, [.ref k1, .ref k2, .int (nI ts), .int (nI th), .int (nI ta), .int (nI tf), .int (nI nx), .int (nI am)])), (k1, .inl (ax 1, 400, .inl tb)), (k2, .inl (ax 0, 401, .inl (fun j => nI (tk j))))] sz))) 0 0 (va_A [(k0, .inr (9, [.ref k1, .ref k2, .int (nI ts), .int (nI th), .int (nI ta), .int (nI tf), .int (nI nx), .int (nI am)])), (k1, .inl (ax 1, 400, .inl tb)), (k2, .inl (ax 0, 401, .inl (fun j => nI (tk j))))] sz) := by
  refine Met.ofW (cc := b_Tokens_refuse) (maxL := 1) (ret := none) (by decide) rfl ?_
  intro p e s m args below meth c s₁ B hml hv
  obtain ⟨rfl, hsz, hP, hK, hD0⟩ := hv
  have hx := B.exec
  have hb := B.bytes
  have hr := B.returns
  have hts := xw_hts B.pre
  have hown : s.vm.findClass R_Tokens = some m.cls := findClass_of_methodNamed B.named
  have hlocks := B.notSynchronized
  subst hsz
  have hD := hD0.self (sz := s.heap.size)
  have hN := xz_entry hP
  generalize hAe : va_A [(k0, .inr (9, [.ref k1, .ref k2, .int (nI ts), .int (nI th), .int (nI ta), .int (nI tf), .int (nI nx), .int (nI am)])), (k1, .inl (ax 1, 400, .inl tb)), (k2, .inl (ax 0, 401, .inl (fun j => nI (tk j))))] s.heap.size = A at hD hN ⊢
  have hA : ∀ q : Nat, s.heap.size ≤ q → A q := fun q h => by rw [← hAe]; exact Or.inr h
  have hS : va_S A s.heap s.heap [] := va_S.rf
  have hl0 := lv_entry ([.ref k0]) (n := 1) (Nat.le_of_ble_eq_true rfl)
  rw [lg_entry_eq]
  generalize (lg_sl ([.ref k0]) ++ List.replicate (1 - (lg_sl ([.ref k0])).length) Slot.unset).toArray = ls at hl0 ⊢
  have hl1 : lv_has ls 1 [(0, .ref k0)] := hl0
  refine xw_gen (fun Z9 hQe => ?_)
  by_cases hf0 : tf = 4294967295
  · rw [hf0, nIm] at hP hD
    rw [hf0] at hrs
    have hP7 := hP; have hD7 := hD; clear hP hD
    have hW7 : (fun w9 : va_W => va_P D classes w9 s.heap ∧ va_D A w9) [(k0, .inr (9, [.ref k1, .ref k2, .int (nI ts), .int (nI th), .int (nI ta), .int (-1), .int (nI nx), .int (nI am)])), (k1, .inl (ax 1, 400, .inl tb)), (k2, .inl (ax 0, 401, .inl (fun j => nI (tk j))))] := ⟨hP7, hD7⟩
    obtain ⟨hP, hD⟩ := hW7
    clear hP7 hD7
    have hts9 := hrs.ok
    refine lv_aload_n hx hb d_Tokens_refuse_0 rfl (lv_at hl1 0 rfl) ?_
    refine va_get (D := D) (ci := 9) (v := .int (-1)) (C := R_Tokens) (T := F_Tokens) (N := 8) hx hb hts i_Tokens hown hK.1 hP 0 rfl rfl 5 (by decide) (hts _ wd_45) (fun _ h9 => h9) rfl d_Tokens_refuse_1 ?_
    refine lv_iconst (v := (-1)) hx hb d_Tokens_refuse_4 (by decide) ?_
    refine lv_icmp_ne (tgt := 29) hx hb d_Tokens_refuse_5 (by decide) (fun c_1 => ?_) (fun c_1 => ?_)
    · first | exact absurd c_1 (by decide) | exact absurd (by decide) c_1
    obtain ⟨hz1, hz2, hz3⟩ := id hkz
    have hv9 := (hz3 ta hta).1
    refine lv_aload_n hx hb d_Tokens_refuse_8 rfl (lv_at hl1 0 rfl) ?_
    refine lv_aload_n hx hb d_Tokens_refuse_9 rfl (lv_at hl1 0 rfl) ?_
    refine va_get (D := D) (ci := 9) (v := .ref k2) (C := R_Tokens) (T := F_Tokens) (N := 8) hx hb hts i_Tokens hown hK.1 hP 0 rfl rfl 1 (by decide) (hts _ wd_41) (fun _ h9 => h9) rfl d_Tokens_refuse_10 ?_
    refine lv_aload_n hx hb d_Tokens_refuse_13 rfl (lv_at hl1 0 rfl) ?_
    refine va_get (D := D) (ci := 9) (v := .int (nI ta)) (C := R_Tokens) (T := F_Tokens) (N := 8) hx hb hts i_Tokens hown hK.1 hP 0 rfl rfl 4 (by decide) (hts _ wd_44) (fun _ h9 => h9) rfl d_Tokens_refuse_14 ?_
    refine va_iald hx hb hK.1 hP 2 0 rfl rfl (vp_in_nI (by first | assumption | omega) (by decide)) d_Tokens_refuse_17 ?_
    refine W.eq (g2 := F0 m 18 ls [.int (nI (tk ta)), .ref k0]) (by rw [nI_clamp (by first | exact Nat.lt_of_lt_of_le (by assumption) (by decide) | exact Nat.lt_of_le_of_lt (by assumption) (by decide) | omega)]) ?_
    refine lv_bipush (v := 17) hx hb d_Tokens_refuse_18 (by decide) ?_
    refine lv_ishr hx hb d_Tokens_refuse_20 ?_
    refine lv_topi (fun z_2 ez_2 => ?_)
    have ez_2 : z_2 = nI ((tk ta) / 131072) := ez_2.trans (nb_shr (k := 17) (a := tk ta) (by decide) (by first | assumption | omega))
    subst ez_2
    refine va_put (D := D) (ci := 9) (v := .int (nI ((tk ta) / 131072))) (ty := .int) (C := R_Tokens) (T := F_Tokens) (N := 8) hx hb hts i_Tokens t_Tokens t_Tokens_ok n_Tokens hown hK.1 hP hD hS 0 rfl rfl 5 (by decide) (hts _ wd_45) (fun _ h9 => h9) rfl (by decide +kernel) rfl rfl (Nat.le_of_ble_eq_true rfl) d_Tokens_refuse_21 (fun H_3 locs hP1 hD1 hS1 => ?_)
    clear hP hD hS
    have hS := hS1
    have hW7 : (fun w9 : va_W => va_P D classes w9 H_3 ∧ va_D A w9) [(k0, .inr (9, [.ref k1, .ref k2, .int (nI ts), .int (nI th), .int (nI ta), .int (nI ((tk ta) / 131072)), .int (nI nx), .int (nI am)])), (k1, .inl (ax 1, 400, .inl tb)), (k2, .inl (ax 0, 401, .inl (fun j => nI (tk j))))] := ⟨hP1, hD1⟩
    obtain ⟨hP, hD⟩ := hW7
    clear hP1 hD1 hS1
    refine lv_aload_n hx hb d_Tokens_refuse_24 rfl (lv_at hl1 0 rfl) ?_
    refine lv_iconst (v := 1) hx hb d_Tokens_refuse_25 (by decide) ?_
    refine va_put (D := D) (ci := 9) (v := .int 1) (ty := .int) (C := R_Tokens) (T := F_Tokens) (N := 8) hx hb hts i_Tokens t_Tokens t_Tokens_ok n_Tokens hown hK.1 hP hD hS 0 rfl rfl 6 (by decide) (hts _ wd_46) (fun _ h9 => h9) rfl (by decide +kernel) rfl rfl (Nat.le_of_ble_eq_true rfl) d_Tokens_refuse_26 (fun H_4 locs hP1 hD1 hS1 => ?_)
    clear hP hD hS
    have hS := hS1
    have hW7 : (fun w9 : va_W => va_P D classes w9 H_4 ∧ va_D A w9) [(k0, .inr (9, [.ref k1, .ref k2, .int (nI ts), .int (nI th), .int (nI ta), .int (nI ((tk ta) / 131072)), .int 1, .int (nI am)])), (k1, .inl (ax 1, 400, .inl tb)), (k2, .inl (ax 0, 401, .inl (fun j => nI (tk j))))] := ⟨hP1, hD1⟩
    obtain ⟨hP, hD⟩ := hW7
    clear hP1 hD1 hS1
    rw [← hQe]
    obtain ⟨hP9, hD9⟩ := xw_sub2 (wc := (fun u : Nat → Nat => [(k0, .inr (9, [.ref k1, .ref k2, .int (nI ts), .int (nI th), .int (nI (u 0)), .int (nI (u 1)), .int (nI (u 2)), .int (nI (u 3))])), (k1, .inl (ax 1, 400, .inl tb)), (k2, .inl (ax 0, 401, .inl (fun j => nI (tk j))))]) (ixn [ta, ((tk ta) / 131072), 1, am])) hP hD [0, 1, 2] (by decide) rfl
    have hsp0 : rst tk (((tk ta) / 131072)) (1) (am) (ta) cn := (Or.inr ⟨by omega, rfl, rfl⟩)
    have hsp1 : ta ≤ cn := (by first | assumption | omega)
    have hsp2 : 1 < 128 := (by first | assumption | omega)
    have hsp3 : am < 1024 := (by first | assumption | omega)
    have hsp4 : ta ≤ ta := (by first | assumption | omega)
    have hsp5 : ftf tf ≤ ftf (((tk ta) / 131072)) := (by rw [ftf_bad (tf := tk ta / 131072) (by first | assumption | omega)]; exact ftf_le _)
    have hsp6 : ta = ta := (by first | assumption | omega)
    have hsp7 : ((tk ta) / 131072) < 2 ^ 31 := (by first | assumption | omega)
    have hsp8 : 1 = 1 := (by first | assumption | omega)
    have hsp9 : stq tf (((tk ta) / 131072)) tf := (Or.inl hf0)
    exact W.vret hx hb hr (fun t ht hW => ⟨⟨ixn [ta, ((tk ta) / 131072), 1, am], rfl, ⟨hsp0, hsp1, hsp2, hsp3, hsp4, hsp5, hsp6, hsp7, hsp8, hsp9⟩, ⟨by rw [ht]; exact hP9, hD9⟩⟩, hS.F ht⟩) hS.2.2 d_Tokens_refuse_29
  · obtain ⟨hf1, hf2⟩ := hrs.bad hf0
    refine lv_aload_n hx hb d_Tokens_refuse_0 rfl (lv_at hl1 0 rfl) ?_
    refine va_get (D := D) (ci := 9) (v := .int (nI tf)) (C := R_Tokens) (T := F_Tokens) (N := 8) hx hb hts i_Tokens hown hK.1 hP 0 rfl rfl 5 (by decide) (hts _ wd_45) (fun _ h9 => h9) rfl d_Tokens_refuse_1 ?_
    refine lv_iconst (v := (-1)) hx hb d_Tokens_refuse_4 (by decide) ?_
    refine lv_icmp_ne (tgt := 29) hx hb d_Tokens_refuse_5 (by decide) (fun c_5 => ?_) (fun c_5 => ?_)
    rotate_right
    · exact absurd c_5 (nIm1 (by first | assumption | omega))
    rw [← hQe]
    obtain ⟨hP9, hD9⟩ := xw_sub2 (wc := (fun u : Nat → Nat => [(k0, .inr (9, [.ref k1, .ref k2, .int (nI ts), .int (nI th), .int (nI (u 0)), .int (nI (u 1)), .int (nI (u 2)), .int (nI (u 3))])), (k1, .inl (ax 1, 400, .inl tb)), (k2, .inl (ax 0, 401, .inl (fun j => nI (tk j))))]) (ixn [ta, tf, nx, am])) hP hD [0, 1, 2] (by decide) rfl
    have hsp0 : rst tk (tf) (nx) (am) (ta) cn := (Or.inr ⟨hf1, hf2, hrs.plc hf0⟩)
    have hsp1 : ta ≤ cn := (by first | assumption | omega)
    have hsp2 : nx < 128 := (by first | assumption | omega)
    have hsp3 : am < 1024 := (by first | assumption | omega)
    have hsp4 : ta ≤ ta := (by first | assumption | omega)
    have hsp5 : ftf tf ≤ ftf (tf) := (Nat.le_refl _)
    have hsp6 : ta = ta := (by first | assumption | omega)
    have hsp7 : tf < 2 ^ 31 := (by first | assumption | omega)
    have hsp8 : nx = 1 := (by first | assumption | omega)
    have hsp9 : stq tf (tf) tf := (Or.inr rfl)
    exact W.vret hx hb hr (fun t ht hW => ⟨⟨ixn [ta, tf, nx, am], rfl, ⟨hsp0, hsp1, hsp2, hsp3, hsp4, hsp5, hsp6, hsp7, hsp8, hsp9⟩, ⟨by rw [ht]; exact hP9, hD9⟩⟩, hS.F ht⟩) hS.2.2 d_Tokens_refuse_29
abbrev b_Tokens_need : ByteArray := prog_11_method_5_code
def y_Tokens_need : MethodName := ⟨R_Tokens, "need", "(I)V"⟩
theorem d_Tokens_need_0 : decode b_Tokens_need 0 = .ok (.aload_n 0, 1) := by decide +kernel
theorem d_Tokens_need_1 : decode b_Tokens_need 1 = .ok (.getfield 42, 3) := by decide +kernel
theorem d_Tokens_need_4 : decode b_Tokens_need 4 = .ok (.iload_n 1, 1) := by decide +kernel
theorem d_Tokens_need_5 : decode b_Tokens_need 5 = .ok (.if_icmp .ne 10, 3) := by decide +kernel
theorem d_Tokens_need_8 : decode b_Tokens_need 8 = .ok (.aload_n 0, 1) := by decide +kernel
theorem d_Tokens_need_9 : decode b_Tokens_need 9 = .ok (.invokevirtual 39, 3) := by decide +kernel
theorem d_Tokens_need_12 : decode b_Tokens_need 12 = .ok (.goto 7, 3) := by decide +kernel
theorem d_Tokens_need_15 : decode b_Tokens_need 15 = .ok (.aload_n 0, 1) := by decide +kernel
theorem d_Tokens_need_16 : decode b_Tokens_need 16 = .ok (.invokevirtual 45, 3) := by decide +kernel
theorem d_Tokens_need_19 : decode b_Tokens_need 19 = .ok (.return_, 1) := by decide +kernel
set_option maxHeartbeats 40000000 in
set_option maxRecDepth 100000 in
theorem c_K_need (l : Launch) (D : va_G) (ax : Nat → ClassId) (k0 k1 k2 : Nat) (tb : Nat → Int32) (tk : Nat → Nat) (ta tf nx am cn ts th : Nat) (q1 : Nat) (sz : Nat) (hkz : tkz tk cn) (hrs : rst tk tf nx am ta cn) (hta : ta ≤ cn) (hnx : nx < 128) (ham : am < 1024) (hq0 : 2 ≤ q1) (hq1 : q1 < 128) : Met l y_Tokens_need (xws (.code y_Tokens_need b_Tokens_need 2 none)) ({ frames := 20, cells := 0, slots := 0, locals := 800 }) (va_Pc [.ref k0, .int (nI q1)] (xo D ax [(k0, .inr (9, [.ref k1, .ref k2, .int (nI ts), .int (nI th), .int (nI ta), .int (nI tf), .int (nI nx), .int (nI am)])), (k1, .inl (ax 1, 400, .inl tb)), (k2, .inl (ax 0, 401, .inl (fun j => nI (tk j))))] sz)) ((va_Qv (fun (u : Nat → Nat) => (rst tk (u 1) (u 2) (u 3) (u 0) cn ∧ u 0 ≤ cn ∧ u 2 < 128 ∧ u 3 < 1024 ∧ ta ≤ u 0 ∧ ftf tf ≤ ftf (u 1) ∧ okf (u 1) (ta + 1 ≤ u 0 ∧ nx = q1) ∧ ndS tf ta nx q1 (u 1) (u 0))) (xb D (va_A [(k0, .inr (9, [.ref k1, .ref k2, .int (nI ts), .int (nI th), .int (nI ta), .int (nI tf), .int (nI nx), .int (nI am)])), (k1, .inl (ax 1, 400, .inl tb)), (k2, .inl (ax 0, 401, .inl (fun j => nI (tk j))))] sz) (fun u => [(k0, .inr (9, [.ref k1, .ref k2, .int (nI ts), .int (nI th), .int (nI (u 0)), .int (nI (u 1)), .int (nI (u 2)), .int (nI (u 3))])), (k1, .inl (ax 1, 400, .inl tb)), (k2, .inl (ax 0, 401, .inl (fun j => nI (tk j))))])) (va_A [(k0, .inr (9, [.ref k1, .ref k2, .int (nI ts), .int (nI th), .int (nI ta), .int (nI tf), .int (nI nx), .int (nI am)])), (k1, .inl (ax 1, 400, .inl tb)), (k2, .inl (ax 0, 401, .inl (fun j => nI (tk j))))] sz))) 0 0 (va_A [(k0, .inr (9, [.ref k1, .ref k2, .int (nI ts), .int (nI th), .int (nI ta), .int (nI tf), .int (nI nx), .int (nI am)])), (k1, .inl (ax 1, 400, .inl tb)), (k2, .inl (ax 0, 401, .inl (fun j => nI (tk j))))] sz) := by
  refine Met.ofW (cc := b_Tokens_need) (maxL := 2) (ret := none) (by decide) rfl ?_
  intro p e s m args below meth c s₁ B hml hv
  obtain ⟨rfl, hsz, hP, hK, hD0⟩ := hv
  have hx := B.exec
  have hb := B.bytes
  have hr := B.returns
  have hts := xw_hts B.pre
  have hown : s.vm.findClass R_Tokens = some m.cls := findClass_of_methodNamed B.named
  have hlocks := B.notSynchronized
  subst hsz
  have hD := hD0.self (sz := s.heap.size)
  have hN := xz_entry hP
  generalize hAe : va_A [(k0, .inr (9, [.ref k1, .ref k2, .int (nI ts), .int (nI th), .int (nI ta), .int (nI tf), .int (nI nx), .int (nI am)])), (k1, .inl (ax 1, 400, .inl tb)), (k2, .inl (ax 0, 401, .inl (fun j => nI (tk j))))] s.heap.size = A at hD hN ⊢
  have hA : ∀ q : Nat, s.heap.size ≤ q → A q := fun q h => by rw [← hAe]; exact Or.inr h
  have hS : va_S A s.heap s.heap [] := va_S.rf
  have hl0 := lv_entry ([.ref k0, .int (nI q1)]) (n := 2) (Nat.le_of_ble_eq_true rfl)
  rw [lg_entry_eq]
  generalize (lg_sl ([.ref k0, .int (nI q1)]) ++ List.replicate (2 - (lg_sl ([.ref k0, .int (nI q1)])).length) Slot.unset).toArray = ls at hl0 ⊢
  have hl1 : lv_has ls 2 [(0, .ref k0), (1, .int (nI q1))] := hl0
  refine xw_gen (fun Z9 hQe => ?_)
  refine lv_aload_n hx hb d_Tokens_need_0 rfl (lv_at hl1 0 rfl) ?_
  refine va_get (D := D) (ci := 9) (v := .int (nI nx)) (C := R_Tokens) (T := F_Tokens) (N := 8) hx hb hts i_Tokens hown hK.1 hP 0 rfl rfl 6 (by decide) (hts _ wd_46) (fun _ h9 => h9) rfl d_Tokens_need_1 ?_
  refine lv_iload_n hx hb d_Tokens_need_4 rfl (lv_at hl1 1 rfl) ?_
  refine lv_icmp_ne (tgt := 15) hx hb d_Tokens_need_5 (by decide) (fun c_1 => ?_) (fun c_1 => ?_)
  · replace c_1 : ¬ nx = q1 := fun hq9 => c_1 ((nI_eq (a := nx) (b := q1) (by first | exact Nat.lt_of_lt_of_le (by assumption) (by decide) | exact Nat.lt_of_le_of_lt (by assumption) (by decide) | omega) (by first | exact Nat.lt_of_lt_of_le (by assumption) (by decide) | exact Nat.lt_of_le_of_lt (by assumption) (by decide) | omega)).mpr hq9)
    refine lv_aload_n hx hb d_Tokens_need_15 rfl (lv_at hl1 0 rfl) ?_
    obtain ⟨hPc, hDc, hFc, hCs⟩ := xw_sub3 (wc := [(k0, .inr (9, [.ref k1, .ref k2, .int (nI ts), .int (nI th), .int (nI ta), .int (nI tf), .int (nI nx), .int (nI am)])), (k1, .inl (ax 1, 400, .inl tb)), (k2, .inl (ax 0, 401, .inl (fun j => nI (tk j))))]) hP hD hS hA [0, 1, 2] (by decide) rfl
    have hz := xz_of hN hS
    refine va_callv (va_runV (As := []) (rest := []) ⟨hx, hb, hml, hown, hts⟩ (c_K_refuse l D ax k0 k1 k2 tb tk ta tf nx am cn ts th s.heap.size hkz hrs hta hnx ham) (xcV (n := 0) hts wd_559 wd_2 wd_572 wd_557 wd_558 rfl rfl (by decide +kernel) ⟨Nat.le_of_ble_eq_true rfl, Nat.le_of_ble_eq_true rfl⟩) (xpV (ci := 9) (q0 := 0) (As := []) hPc hK hz hDc rfl rfl) rfl rfl hl1.1 rfl (lv_room (Nat.le_of_ble_eq_true rfl)) d_Tokens_need_16 ⟨Nat.le_of_ble_eq_true rfl, Nat.le_of_ble_eq_true rfl⟩) hS (fun q _ h => hFc q h) hFc (fun u_2 t H_3 locs ht hvm hw hB hz1 hk1 hS1 => ?_)
    try dsimp only at hw
    obtain ⟨hs_5, hs_6, hs_7, hs_8, hs_9, hs_10, hs_11, hs_12, hs_13, hs_14⟩ := hw
    obtain ⟨hP1, hD1⟩ := hB
    rw [ht] at hP1
    have hjn := xw_join3 (wl := [(k0, .inr (9, [.ref k1, .ref k2, .int (nI ts), .int (nI th), .int (nI (u_2 0)), .int (nI (u_2 1)), .int (nI (u_2 2)), .int (nI (u_2 3))])), (k1, .inl (ax 1, 400, .inl tb)), (k2, .inl (ax 0, 401, .inl (fun j => nI (tk j))))]) hP hD [0, 1, 2] [] hCs (by decide) (by decide) hk1 hFc hP1 hD1 rfl
    clear hP1 hD1
    clear hPc hDc hFc hCs hz hz1 hk1 ht hvm
    clear hP hD hS
    have hS := hS1
    obtain ⟨hP, hD⟩ := hjn
    clear hS1
    rw [← hQe]
    obtain ⟨hP9, hD9⟩ := xw_sub2 (wc := (fun u : Nat → Nat => [(k0, .inr (9, [.ref k1, .ref k2, .int (nI ts), .int (nI th), .int (nI (u 0)), .int (nI (u 1)), .int (nI (u 2)), .int (nI (u 3))])), (k1, .inl (ax 1, 400, .inl tb)), (k2, .inl (ax 0, 401, .inl (fun j => nI (tk j))))]) (ixn [(u_2 0), (u_2 1), (u_2 2), (u_2 3)])) hP hD [0, 1, 2] (by decide) rfl
    have hsp0 : rst tk ((u_2 1)) ((u_2 2)) ((u_2 3)) ((u_2 0)) cn := (by first | assumption | omega)
    have hsp1 : (u_2 0) ≤ cn := (by first | assumption | omega)
    have hsp2 : (u_2 2) < 128 := (by first | assumption | omega)
    have hsp3 : (u_2 3) < 1024 := (by first | assumption | omega)
    have hsp4 : ta ≤ (u_2 0) := (by first | assumption | omega)
    have hsp5 : ftf tf ≤ ftf ((u_2 1)) := (by first | assumption | omega)
    have hsp6 : okf ((u_2 1)) (ta + 1 ≤ (u_2 0) ∧ nx = q1) := (fun q => absurd q (by first | assumption | omega))
    have hsp7 : ndS tf ta nx q1 ((u_2 1)) ((u_2 0)) := (show ndS _ _ _ _ _ _ from ⟨fun q => ⟨hs_14.res q, hs_11⟩, fun q => ⟨fun e => absurd e (by first | assumption | omega), fun _ => ⟨ftf_bad hs_12, hs_11⟩⟩⟩)
    exact W.vret hx hb hr (fun t ht hW => ⟨⟨ixn [(u_2 0), (u_2 1), (u_2 2), (u_2 3)], rfl, ⟨hsp0, hsp1, hsp2, hsp3, hsp4, hsp5, hsp6, hsp7⟩, ⟨by rw [ht]; exact hP9, hD9⟩⟩, hS.F ht⟩) hS.2.2 d_Tokens_need_19
  · replace c_1 : nx = q1 := (nI_eq (a := nx) (b := q1) (by first | exact Nat.lt_of_lt_of_le (by assumption) (by decide) | exact Nat.lt_of_le_of_lt (by assumption) (by decide) | omega) (by first | exact Nat.lt_of_lt_of_le (by assumption) (by decide) | exact Nat.lt_of_le_of_lt (by assumption) (by decide) | omega)).mp c_1
    refine lv_aload_n hx hb d_Tokens_need_8 rfl (lv_at hl1 0 rfl) ?_
    obtain ⟨hPc, hDc, hFc, hCs⟩ := xw_sub3 (wc := [(k0, .inr (9, [.ref k1, .ref k2, .int (nI ts), .int (nI th), .int (nI ta), .int (nI tf), .int (nI nx), .int (nI am)])), (k1, .inl (ax 1, 400, .inl tb)), (k2, .inl (ax 0, 401, .inl (fun j => nI (tk j))))]) hP hD hS hA [0, 1, 2] (by decide) rfl
    have hz := xz_of hN hS
    refine va_callv (va_runV (As := []) (rest := []) ⟨hx, hb, hml, hown, hts⟩ (c_K_pass l D ax k0 k1 k2 tb tk ta tf nx am cn ts th s.heap.size hkz hrs hta hnx ham (by first | assumption | omega)) (xcV (n := 0) hts wd_531 wd_2 wd_528 wd_529 wd_530 rfl rfl (by decide +kernel) ⟨Nat.le_of_ble_eq_true rfl, Nat.le_of_ble_eq_true rfl⟩) (xpV (ci := 9) (q0 := 0) (As := []) hPc hK hz hDc rfl rfl) rfl rfl hl1.1 rfl (lv_room (Nat.le_of_ble_eq_true rfl)) d_Tokens_need_9 ⟨Nat.le_of_ble_eq_true rfl, Nat.le_of_ble_eq_true rfl⟩) hS (fun q _ h => hFc q h) hFc (fun u_15 t H_16 locs ht hvm hw hB hz1 hk1 hS1 => ?_)
    try dsimp only at hw
    obtain ⟨hs_18, hs_19, hs_20, hs_21, hs_22, hs_23, hs_24, hs_25, hs_26, hs_27⟩ := hw
    obtain ⟨hP1, hD1⟩ := hB
    rw [ht] at hP1
    have hjn := xw_join3 (wl := [(k0, .inr (9, [.ref k1, .ref k2, .int (nI ts), .int (nI th), .int (nI (u_15 0)), .int (nI (u_15 1)), .int (nI (u_15 2)), .int (nI (u_15 3))])), (k1, .inl (ax 1, 400, .inl tb)), (k2, .inl (ax 0, 401, .inl (fun j => nI (tk j))))]) hP hD [0, 1, 2] [] hCs (by decide) (by decide) hk1 hFc hP1 hD1 rfl
    clear hP1 hD1
    clear hPc hDc hFc hCs hz hz1 hk1 ht hvm
    clear hP hD hS
    have hS := hS1
    obtain ⟨hP, hD⟩ := hjn
    clear hS1
    refine lv_goto (tgt := 19) hx hb d_Tokens_need_12 (by decide) ?_
    rw [← hQe]
    obtain ⟨hP9, hD9⟩ := xw_sub2 (wc := (fun u : Nat → Nat => [(k0, .inr (9, [.ref k1, .ref k2, .int (nI ts), .int (nI th), .int (nI (u 0)), .int (nI (u 1)), .int (nI (u 2)), .int (nI (u 3))])), (k1, .inl (ax 1, 400, .inl tb)), (k2, .inl (ax 0, 401, .inl (fun j => nI (tk j))))]) (ixn [(u_15 0), (u_15 1), (u_15 2), (u_15 3)])) hP hD [0, 1, 2] (by decide) rfl
    have hsp0 : rst tk ((u_15 1)) ((u_15 2)) ((u_15 3)) ((u_15 0)) cn := (by first | assumption | omega)
    have hsp1 : (u_15 0) ≤ cn := (by first | assumption | omega)
    have hsp2 : (u_15 2) < 128 := (by first | assumption | omega)
    have hsp3 : (u_15 3) < 1024 := (by first | assumption | omega)
    have hsp4 : ta ≤ (u_15 0) := (by first | assumption | omega)
    have hsp5 : ftf tf ≤ ftf ((u_15 1)) := (by first | assumption | omega)
    have hsp6 : okf ((u_15 1)) (ta + 1 ≤ (u_15 0) ∧ nx = q1) := (fun q => ⟨by have h9 := hs_25 (by first | assumption | omega); omega, by omega⟩)
    have hsp7 : ndS tf ta nx q1 ((u_15 1)) ((u_15 0)) := (show ndS _ _ _ _ _ _ from ⟨fun q => ⟨hs_26, hs_27.res q⟩, fun q => ⟨fun _ => ⟨hs_26.trans q, hs_25 q⟩, fun e => absurd (show nx = q1 by omega) e⟩⟩)
    exact W.vret hx hb hr (fun t ht hW => ⟨⟨ixn [(u_15 0), (u_15 1), (u_15 2), (u_15 3)], rfl, ⟨hsp0, hsp1, hsp2, hsp3, hsp4, hsp5, hsp6, hsp7⟩, ⟨by rw [ht]; exact hP9, hD9⟩⟩, hS.F ht⟩) hS.2.2 d_Tokens_need_19
abbrev b_Tokens_answer : ByteArray := prog_11_method_4_code
def y_Tokens_answer : MethodName := ⟨R_Tokens, "answer", "()I"⟩
theorem d_Tokens_answer_0 : decode b_Tokens_answer 0 = .ok (.aload_n 0, 1) := by decide +kernel
theorem d_Tokens_answer_1 : decode b_Tokens_answer 1 = .ok (.getfield 42, 3) := by decide +kernel
theorem d_Tokens_answer_4 : decode b_Tokens_answer 4 = .ok (.ifCond .eq 7, 3) := by decide +kernel
theorem d_Tokens_answer_7 : decode b_Tokens_answer 7 = .ok (.aload_n 0, 1) := by decide +kernel
theorem d_Tokens_answer_8 : decode b_Tokens_answer 8 = .ok (.invokevirtual 45, 3) := by decide +kernel
theorem d_Tokens_answer_11 : decode b_Tokens_answer 11 = .ok (.aload_n 0, 1) := by decide +kernel
theorem d_Tokens_answer_12 : decode b_Tokens_answer 12 = .ok (.getfield 19, 3) := by decide +kernel
theorem d_Tokens_answer_15 : decode b_Tokens_answer 15 = .ok (.iconst 1, 1) := by decide +kernel
theorem d_Tokens_answer_16 : decode b_Tokens_answer 16 = .ok (.iadd, 1) := by decide +kernel
theorem d_Tokens_answer_17 : decode b_Tokens_answer 17 = .ok (.ireturn, 1) := by decide +kernel
set_option maxHeartbeats 40000000 in
set_option maxRecDepth 100000 in
theorem c_K_answer (l : Launch) (D : va_G) (ax : Nat → ClassId) (k0 k1 k2 : Nat) (tb : Nat → Int32) (tk : Nat → Nat) (ta tf nx am cn ts th : Nat) (sz : Nat) (hkz : tkz tk cn) (hrs : rst tk tf nx am ta cn) (hta : ta ≤ cn) (hnx : nx < 128) (ham : am < 1024) : Met l y_Tokens_answer (xws (.code y_Tokens_answer b_Tokens_answer 1 (some .int))) ({ frames := 20, cells := 0, slots := 0, locals := 800 }) (va_Pc [.ref k0] (xo D ax [(k0, .inr (9, [.ref k1, .ref k2, .int (nI ts), .int (nI th), .int (nI ta), .int (nI tf), .int (nI nx), .int (nI am)])), (k1, .inl (ax 1, 400, .inl tb)), (k2, .inl (ax 0, 401, .inl (fun j => nI (tk j))))] sz)) ((va_Qi (fun (r : Int32) (u : Nat → Nat) => r = nI (u 1) + 1 ∧ (rst tk (u 1) (u 2) (u 3) (u 0) cn ∧ u 0 ≤ cn ∧ u 2 < 128 ∧ u 3 < 1024 ∧ ta ≤ u 0 ∧ ftf tf ≤ ftf (u 1) ∧ okf (u 1) (u 2 = 0) ∧ anS tf ta nx (u 1) (u 0))) (xb D (va_A [(k0, .inr (9, [.ref k1, .ref k2, .int (nI ts), .int (nI th), .int (nI ta), .int (nI tf), .int (nI nx), .int (nI am)])), (k1, .inl (ax 1, 400, .inl tb)), (k2, .inl (ax 0, 401, .inl (fun j => nI (tk j))))] sz) (fun u => [(k0, .inr (9, [.ref k1, .ref k2, .int (nI ts), .int (nI th), .int (nI (u 0)), .int (nI (u 1)), .int (nI (u 2)), .int (nI (u 3))])), (k1, .inl (ax 1, 400, .inl tb)), (k2, .inl (ax 0, 401, .inl (fun j => nI (tk j))))])) (va_A [(k0, .inr (9, [.ref k1, .ref k2, .int (nI ts), .int (nI th), .int (nI ta), .int (nI tf), .int (nI nx), .int (nI am)])), (k1, .inl (ax 1, 400, .inl tb)), (k2, .inl (ax 0, 401, .inl (fun j => nI (tk j))))] sz))) 0 0 (va_A [(k0, .inr (9, [.ref k1, .ref k2, .int (nI ts), .int (nI th), .int (nI ta), .int (nI tf), .int (nI nx), .int (nI am)])), (k1, .inl (ax 1, 400, .inl tb)), (k2, .inl (ax 0, 401, .inl (fun j => nI (tk j))))] sz) := by
  refine Met.ofW (cc := b_Tokens_answer) (maxL := 1) (ret := (some .int)) (by decide) rfl ?_
  intro p e s m args below meth c s₁ B hml hv
  obtain ⟨rfl, hsz, hP, hK, hD0⟩ := hv
  have hx := B.exec
  have hb := B.bytes
  have hr := B.returns
  have hts := xw_hts B.pre
  have hown : s.vm.findClass R_Tokens = some m.cls := findClass_of_methodNamed B.named
  have hlocks := B.notSynchronized
  subst hsz
  have hD := hD0.self (sz := s.heap.size)
  have hN := xz_entry hP
  generalize hAe : va_A [(k0, .inr (9, [.ref k1, .ref k2, .int (nI ts), .int (nI th), .int (nI ta), .int (nI tf), .int (nI nx), .int (nI am)])), (k1, .inl (ax 1, 400, .inl tb)), (k2, .inl (ax 0, 401, .inl (fun j => nI (tk j))))] s.heap.size = A at hD hN ⊢
  have hA : ∀ q : Nat, s.heap.size ≤ q → A q := fun q h => by rw [← hAe]; exact Or.inr h
  have hS : va_S A s.heap s.heap [] := va_S.rf
  have hl0 := lv_entry ([.ref k0]) (n := 1) (Nat.le_of_ble_eq_true rfl)
  rw [lg_entry_eq]
  generalize (lg_sl ([.ref k0]) ++ List.replicate (1 - (lg_sl ([.ref k0])).length) Slot.unset).toArray = ls at hl0 ⊢
  have hl1 : lv_has ls 1 [(0, .ref k0)] := hl0
  refine xw_gen (fun Z9 hQe => ?_)
  refine lv_aload_n hx hb d_Tokens_answer_0 rfl (lv_at hl1 0 rfl) ?_
  refine va_get (D := D) (ci := 9) (v := .int (nI nx)) (C := R_Tokens) (T := F_Tokens) (N := 8) hx hb hts i_Tokens hown hK.1 hP 0 rfl rfl 6 (by decide) (hts _ wd_46) (fun _ h9 => h9) rfl d_Tokens_answer_1 ?_
  refine lv_if_eq (tgt := 11) hx hb d_Tokens_answer_4 (by decide) (fun c_1 => ?_) (fun c_1 => ?_)
  · replace c_1 : nx = 0 := (nI_eq (a := nx) (b := 0) (by first | exact Nat.lt_of_lt_of_le (by assumption) (by decide) | exact Nat.lt_of_le_of_lt (by assumption) (by decide) | omega) (by decide)).mp c_1
    refine lv_aload_n hx hb d_Tokens_answer_11 rfl (lv_at hl1 0 rfl) ?_
    refine va_get (D := D) (ci := 9) (v := .int (nI tf)) (C := R_Tokens) (T := F_Tokens) (N := 8) hx hb hts i_Tokens hown hK.1 hP 0 rfl rfl 5 (by decide) (hts _ wd_45) (fun _ h9 => h9) rfl d_Tokens_answer_12 ?_
    refine lv_iconst (v := 1) hx hb d_Tokens_answer_15 (by decide) ?_
    refine lv_iadd hx hb d_Tokens_answer_16 ?_
    refine lv_topi (fun z_2 ez_2 => ?_)
    have ez_2 : z_2 = nI (tf + 1) := ez_2.trans (nI_add tf 1)
    subst ez_2
    rw [← hQe]
    obtain ⟨hP9, hD9⟩ := xw_sub2 (wc := (fun u : Nat → Nat => [(k0, .inr (9, [.ref k1, .ref k2, .int (nI ts), .int (nI th), .int (nI (u 0)), .int (nI (u 1)), .int (nI (u 2)), .int (nI (u 3))])), (k1, .inl (ax 1, 400, .inl tb)), (k2, .inl (ax 0, 401, .inl (fun j => nI (tk j))))]) (ixn [ta, tf, nx, am])) hP hD [0, 1, 2] (by decide) rfl
    have hsp0 : rst tk (tf) (nx) (am) (ta) cn := (by first | assumption | omega)
    have hsp1 : ta ≤ cn := (by first | assumption | omega)
    have hsp2 : nx < 128 := (by first | assumption | omega)
    have hsp3 : am < 1024 := (by first | assumption | omega)
    have hsp4 : ta ≤ ta := (by first | assumption | omega)
    have hsp5 : ftf tf ≤ ftf (tf) := (by first | assumption | omega)
    have hsp6 : okf (tf) (nx = 0) := (fun _ => by omega)
    have hsp7 : anS tf ta nx (tf) (ta) := (show anS _ _ _ _ _ from ⟨fun _ => ⟨rfl, rfl⟩, fun q => ⟨fun _ => ⟨q, rfl⟩, fun e => absurd (show nx = 0 by omega) e⟩⟩)
    exact W.iret (v := nI (tf + 1)) hx hb hr (fun t ht hW => ⟨⟨nI (tf + 1), ixn [ta, tf, nx, am], rfl, ⟨(nI_add _ 1).symm, ⟨hsp0, hsp1, hsp2, hsp3, hsp4, hsp5, hsp6, hsp7⟩⟩, ⟨by rw [ht]; exact hP9, hD9⟩⟩, hS.F ht⟩) hS.2.2 d_Tokens_answer_17
  · replace c_1 : ¬ nx = 0 := fun hq9 => c_1 ((nI_eq (a := nx) (b := 0) (by first | exact Nat.lt_of_lt_of_le (by assumption) (by decide) | exact Nat.lt_of_le_of_lt (by assumption) (by decide) | omega) (by decide)).mpr hq9)
    refine lv_aload_n hx hb d_Tokens_answer_7 rfl (lv_at hl1 0 rfl) ?_
    obtain ⟨hPc, hDc, hFc, hCs⟩ := xw_sub3 (wc := [(k0, .inr (9, [.ref k1, .ref k2, .int (nI ts), .int (nI th), .int (nI ta), .int (nI tf), .int (nI nx), .int (nI am)])), (k1, .inl (ax 1, 400, .inl tb)), (k2, .inl (ax 0, 401, .inl (fun j => nI (tk j))))]) hP hD hS hA [0, 1, 2] (by decide) rfl
    have hz := xz_of hN hS
    refine va_callv (va_runV (As := []) (rest := []) ⟨hx, hb, hml, hown, hts⟩ (c_K_refuse l D ax k0 k1 k2 tb tk ta tf nx am cn ts th s.heap.size hkz hrs hta hnx ham) (xcV (n := 0) hts wd_559 wd_2 wd_572 wd_557 wd_558 rfl rfl (by decide +kernel) ⟨Nat.le_of_ble_eq_true rfl, Nat.le_of_ble_eq_true rfl⟩) (xpV (ci := 9) (q0 := 0) (As := []) hPc hK hz hDc rfl rfl) rfl rfl hl1.1 rfl (lv_room (Nat.le_of_ble_eq_true rfl)) d_Tokens_answer_8 ⟨Nat.le_of_ble_eq_true rfl, Nat.le_of_ble_eq_true rfl⟩) hS (fun q _ h => hFc q h) hFc (fun u_3 t H_4 locs ht hvm hw hB hz1 hk1 hS1 => ?_)
    try dsimp only at hw
    obtain ⟨hs_6, hs_7, hs_8, hs_9, hs_10, hs_11, hs_12, hs_13, hs_14, hs_15⟩ := hw
    obtain ⟨hP1, hD1⟩ := hB
    rw [ht] at hP1
    have hjn := xw_join3 (wl := [(k0, .inr (9, [.ref k1, .ref k2, .int (nI ts), .int (nI th), .int (nI (u_3 0)), .int (nI (u_3 1)), .int (nI (u_3 2)), .int (nI (u_3 3))])), (k1, .inl (ax 1, 400, .inl tb)), (k2, .inl (ax 0, 401, .inl (fun j => nI (tk j))))]) hP hD [0, 1, 2] [] hCs (by decide) (by decide) hk1 hFc hP1 hD1 rfl
    clear hP1 hD1
    clear hPc hDc hFc hCs hz hz1 hk1 ht hvm
    clear hP hD hS
    have hS := hS1
    obtain ⟨hP, hD⟩ := hjn
    clear hS1
    refine lv_aload_n hx hb d_Tokens_answer_11 rfl (lv_at hl1 0 rfl) ?_
    refine va_get (D := D) (ci := 9) (v := .int (nI (u_3 1))) (C := R_Tokens) (T := F_Tokens) (N := 8) hx hb hts i_Tokens hown hK.1 hP 0 rfl rfl 5 (by decide) (hts _ wd_45) (fun _ h9 => h9) rfl d_Tokens_answer_12 ?_
    refine lv_iconst (v := 1) hx hb d_Tokens_answer_15 (by decide) ?_
    refine lv_iadd hx hb d_Tokens_answer_16 ?_
    refine lv_topi (fun z_16 ez_16 => ?_)
    have ez_16 : z_16 = nI (u_3 1 + 1) := ez_16.trans (nI_add (u_3 1) 1)
    subst ez_16
    rw [← hQe]
    obtain ⟨hP9, hD9⟩ := xw_sub2 (wc := (fun u : Nat → Nat => [(k0, .inr (9, [.ref k1, .ref k2, .int (nI ts), .int (nI th), .int (nI (u 0)), .int (nI (u 1)), .int (nI (u 2)), .int (nI (u 3))])), (k1, .inl (ax 1, 400, .inl tb)), (k2, .inl (ax 0, 401, .inl (fun j => nI (tk j))))]) (ixn [(u_3 0), (u_3 1), (u_3 2), (u_3 3)])) hP hD [0, 1, 2] (by decide) rfl
    have hsp0 : rst tk ((u_3 1)) ((u_3 2)) ((u_3 3)) ((u_3 0)) cn := (by first | assumption | omega)
    have hsp1 : (u_3 0) ≤ cn := (by first | assumption | omega)
    have hsp2 : (u_3 2) < 128 := (by first | assumption | omega)
    have hsp3 : (u_3 3) < 1024 := (by first | assumption | omega)
    have hsp4 : ta ≤ (u_3 0) := (by first | assumption | omega)
    have hsp5 : ftf tf ≤ ftf ((u_3 1)) := (by first | assumption | omega)
    have hsp6 : okf ((u_3 1)) ((u_3 2) = 0) := (fun q => absurd q (by first | assumption | omega))
    have hsp7 : anS tf ta nx ((u_3 1)) ((u_3 0)) := (show anS _ _ _ _ _ from ⟨fun q => ⟨hs_15.res q, hs_12⟩, fun q => ⟨fun e => absurd e (by first | assumption | omega), fun _ => ⟨ftf_bad hs_13, hs_12⟩⟩⟩)
    exact W.iret (v := nI (u_3 1 + 1)) hx hb hr (fun t ht hW => ⟨⟨nI (u_3 1 + 1), ixn [(u_3 0), (u_3 1), (u_3 2), (u_3 3)], rfl, ⟨(nI_add _ 1).symm, ⟨hsp0, hsp1, hsp2, hsp3, hsp4, hsp5, hsp6, hsp7⟩⟩, ⟨by rw [ht]; exact hP9, hD9⟩⟩, hS.F ht⟩) hS.2.2 d_Tokens_answer_17
