theorem ps_36 : Cond.selects "TripleDesk$Bounds" ⟨"TripleDesk$Bounds", "bind", "(III)Z"⟩ ⟨"TripleDesk$Bounds", "bind", "(III)Z"⟩ ∈ lw_gd := ps_in (q := (⟨"TripleDesk$Bounds", "bind", "(III)Z"⟩, 4)) (i := 36) (by decide +kernel)
theorem ps_37 : Cond.selects "TripleDesk$Bounds" ⟨"TripleDesk$Bounds", "settle", "(II)Z"⟩ ⟨"TripleDesk$Bounds", "settle", "(II)Z"⟩ ∈ lw_gd := ps_in (q := (⟨"TripleDesk$Bounds", "settle", "(II)Z"⟩, 4)) (i := 37) (by decide +kernel)
theorem ps_38 : Cond.selects "TripleDesk$Bounds" ⟨"TripleDesk$Bounds", "lowerFrom", "(I)I"⟩ ⟨"TripleDesk$Bounds", "lowerFrom", "(I)I"⟩ ∈ lw_gd := ps_in (q := (⟨"TripleDesk$Bounds", "lowerFrom", "(I)I"⟩, 4)) (i := 38) (by decide +kernel)
theorem wd_7 : ((Jvm.Cond.initialized "TripleDesk$Bounds")) ∈ lw_gd := lw_gd_in (i := 7) (by decide +kernel) rfl
theorem wd_158 : ((Jvm.Cond.constant "TripleDesk$Bounds" (21 : Nat) (268435456 : Int32))) ∈ lw_gd := lw_gd_in (i := 158) (by decide +kernel) rfl
theorem wd_159 : ((Jvm.Cond.methodLink "TripleDesk$Bounds" (22 : Nat) ({ cls := "java/util/Arrays", name := "fill", desc := "([II)V" } : Jvm.MethodName))) ∈ lw_gd := lw_gd_in (i := 159) (by decide +kernel) rfl
theorem wd_160 : ((Jvm.Cond.static ({ cls := "java/util/Arrays", name := "fill", desc := "([II)V" } : Jvm.MethodName))) ∈ lw_gd := lw_gd_in (i := 160) (by decide +kernel) rfl
theorem wd_161 : ((Jvm.Cond.code ({ cls := "java/util/Arrays", name := "fill", desc := "([II)V" } : Jvm.MethodName) prog_26_method_103_code (4 : Nat) (Option.none : Option Jvm.ClassFile.FieldType))) ∈ lw_gd := lw_gd_in (i := 161) (by decide +kernel) rfl
theorem wd_162 : ((Jvm.Cond.fieldLink "TripleDesk$Bounds" (9 : Nat) "TripleDesk$Bounds" "level" "[I")) ∈ lw_gd := lw_gd_in (i := 162) (by decide +kernel) rfl
theorem wd_163 : ((Jvm.Cond.fieldLink "TripleDesk$Bounds" (15 : Nat) "TripleDesk$Bounds" "most" "[I")) ∈ lw_gd := lw_gd_in (i := 163) (by decide +kernel) rfl
theorem wd_164 : ((Jvm.Cond.fieldLink "TripleDesk$Bounds" (18 : Nat) "TripleDesk$Bounds" "bound" "[I")) ∈ lw_gd := lw_gd_in (i := 164) (by decide +kernel) rfl
theorem wd_165 : ((Jvm.Cond.fieldLink "TripleDesk$Bounds" (28 : Nat) "TripleDesk$Bounds" "bounds" "I")) ∈ lw_gd := lw_gd_in (i := 165) (by decide +kernel) rfl
theorem wd_851 : ((Jvm.Cond.methodLink "TripleDesk$Bounds" (32 : Nat) ({ cls := "TripleDesk$Bounds", name := "bind", desc := "(III)Z" } : Jvm.MethodName))) ∈ lw_gd := lw_gd_in (i := 851) (by decide +kernel) rfl
theorem wd_853 : ((Jvm.Cond.instanceMethod ({ cls := "TripleDesk$Bounds", name := "bind", desc := "(III)Z" } : Jvm.MethodName))) ∈ lw_gd := lw_gd_in (i := 853) (by decide +kernel) rfl
theorem wd_854 : ((Jvm.Cond.code ({ cls := "TripleDesk$Bounds", name := "bind", desc := "(III)Z" } : Jvm.MethodName) prog_2_method_5_code (5 : Nat) (Option.some Jvm.ClassFile.FieldType.boolean))) ∈ lw_gd := lw_gd_in (i := 854) (by decide +kernel) rfl
theorem wd_855 : ((Jvm.Cond.methodLink "TripleDesk$Bounds" (36 : Nat) ({ cls := "TripleDesk$Bounds", name := "settle", desc := "(II)Z" } : Jvm.MethodName))) ∈ lw_gd := lw_gd_in (i := 855) (by decide +kernel) rfl
theorem wd_857 : ((Jvm.Cond.instanceMethod ({ cls := "TripleDesk$Bounds", name := "settle", desc := "(II)Z" } : Jvm.MethodName))) ∈ lw_gd := lw_gd_in (i := 857) (by decide +kernel) rfl
theorem wd_858 : ((Jvm.Cond.code ({ cls := "TripleDesk$Bounds", name := "settle", desc := "(II)Z" } : Jvm.MethodName) prog_2_method_6_code (7 : Nat) (Option.some Jvm.ClassFile.FieldType.boolean))) ∈ lw_gd := lw_gd_in (i := 858) (by decide +kernel) rfl
theorem wd_859 : ((Jvm.Cond.methodLink "TripleDesk$Bounds" (40 : Nat) ({ cls := "TripleDesk$Bounds", name := "lowerFrom", desc := "(I)I" } : Jvm.MethodName))) ∈ lw_gd := lw_gd_in (i := 859) (by decide +kernel) rfl
theorem wd_861 : ((Jvm.Cond.instanceMethod ({ cls := "TripleDesk$Bounds", name := "lowerFrom", desc := "(I)I" } : Jvm.MethodName))) ∈ lw_gd := lw_gd_in (i := 861) (by decide +kernel) rfl
theorem wd_862 : ((Jvm.Cond.code ({ cls := "TripleDesk$Bounds", name := "lowerFrom", desc := "(I)I" } : Jvm.MethodName) prog_2_method_7_code (6 : Nat) (Option.some Jvm.ClassFile.FieldType.int))) ∈ lw_gd := lw_gd_in (i := 862) (by decide +kernel) rfl
def cnf (f : Nat → Int32) : Nat → Nat
  | 0 => 0
  | k + 1 => cnf f k + (if f k = 268435456 then 0 else 1)
theorem cnf_le (f : Nat → Int32) : ∀ n, cnf f n ≤ n
  | 0 => Nat.le_refl _
  | n + 1 => by
    have h := cnf_le f n
    show cnf f n + _ ≤ n + 1
    split <;> omega
theorem cnf_lt {f : Nat → Int32} {i : Nat} (hf : f i = 268435456) : ∀ {n}, i < n → cnf f n < n
  | 0, h => absurd h (Nat.not_lt_zero _)
  | n + 1, h => by
    have h1 := cnf_le f n
    show cnf f n + (if f n = 268435456 then 0 else 1) < n + 1
    by_cases e : i = n
    · subst e; rw [if_pos hf]; omega
    · have := cnf_lt hf (n := n) (by omega)
      split <;> omega
theorem cnf_same {f g : Nat → Int32} : ∀ {n}, (∀ j, j < n → g j = f j) → cnf g n = cnf f n
  | 0, _ => rfl
  | n + 1, h => by
    show cnf g n + _ = cnf f n + _
    rw [cnf_same (fun j hj => h j (by omega)), h n (by omega)]
theorem cnf_new {f : Nat → Int32} {i : Nat} {v : Int32} (hf : f i = 268435456) (hv : ¬ v = 268435456) : ∀ {n}, i < n → cnf (upd f i v) n = cnf f n + 1
  | 0, h => absurd h (Nat.not_lt_zero _)
  | n + 1, h => by
    show cnf (upd f i v) n + (if upd f i v n = 268435456 then 0 else 1) = cnf f n + (if f n = 268435456 then 0 else 1) + 1
    by_cases e : i = n
    · subst e
      rw [upd_eq, if_neg hv, if_pos hf, cnf_same (fun j hj => upd_ne (by omega))]
    · rw [upd_ne (by omega), cnf_new hf hv (n := n) (by omega)]; omega
theorem cnf_old {f : Nat → Int32} {i : Nat} {v : Int32} (hf : ¬ f i = 268435456) (hv : ¬ v = 268435456) : ∀ {n}, cnf (upd f i v) n = cnf f n
  | 0 => rfl
  | n + 1 => by
    show cnf (upd f i v) n + (if upd f i v n = 268435456 then 0 else 1) = cnf f n + (if f n = 268435456 then 0 else 1)
    rw [cnf_old hf hv (n := n)]
    by_cases e : n = i
    · subst e; rw [upd_eq, if_neg hv, if_neg hf]
    · rw [upd_ne e]
/-- the bounds that there are: no more than entries that are bounds, none above the free one -/
def bnv (mo : Nat → Int32) (bo : Nat → Nat) (bn : Nat) : Prop := bn ≤ cnf mo 121 ∧ (∀ k, mo k ≤ 268435456) ∧ ∀ k, bo k ≤ 120
theorem lt_ne {x y : Int32} (h : x < y) (hy : y ≤ 268435456) : ¬ x = 268435456 := fun e => by
  subst e
  rw [Int32.lt_iff_toInt_lt] at h; rw [Int32.le_iff_toInt_le] at hy
  omega
theorem lt_le {x y : Int32} (h : x < y) (hy : y ≤ 268435456) : x ≤ 268435456 := by
  rw [Int32.lt_iff_toInt_lt] at h; rw [Int32.le_iff_toInt_le] at *
  omega
theorem bnv_up {mo : Nat → Int32} {i : Nat} {v : Int32} (h : ∀ k, mo k ≤ 268435456) (hv : v ≤ 268435456) : ∀ k, upd mo i v k ≤ 268435456 := fun k => by
  by_cases e : k = i
  · subst e; rw [upd_eq]; exact hv
  · rw [upd_ne e]; exact h k
theorem bnv.lt {mo : Nat → Int32} {bo : Nat → Nat} {bn i : Nat} (h : bnv mo bo bn) (hi : i < 121) (hf : mo i = 268435456) : bn < 121 := by
  have := cnf_lt hf hi
  have := h.1; omega
theorem bnv.nw {mo : Nat → Int32} {bo : Nat → Nat} {bn i : Nat} {v : Int32} (h : bnv mo bo bn) (hi : i < 121) (hf : mo i = 268435456) (hv : v < mo i) : bnv (upd mo i v) (sup bo bn i) (bn + 1) := by
  obtain ⟨a1, a2, a3⟩ := h
  refine ⟨by rw [cnf_new hf (lt_ne hv (a2 i)) hi]; omega, bnv_up a2 (lt_le hv (a2 i)), fun k => ?_⟩
  unfold sup; split
  · omega
  · exact a3 k
theorem bnv.od {mo : Nat → Int32} {bo : Nat → Nat} {bn i : Nat} {v : Int32} (h : bnv mo bo bn) (hf : ¬ mo i = 268435456) (hv : v < mo i) : bnv (upd mo i v) bo bn := by
  obtain ⟨a1, a2, a3⟩ := h
  exact ⟨by rw [cnf_old hf (lt_ne hv (a2 i))]; exact a1, bnv_up a2 (lt_le hv (a2 i)), a3⟩
theorem trm.le {x : Int32} (h : trm x) : i2n x % 16 ≤ 10 := by
  obtain ⟨b, hb, e⟩ := h
  rw [and15] at e
  have := (nI_eq (by omega) (by omega)).mp e
  omega
abbrev b_Bounds_clear : ByteArray := prog_2_method_2_code
def y_Bounds_clear : MethodName := ⟨R_Bounds, "clear", "()V"⟩
theorem d_Bounds_clear_0 : decode b_Bounds_clear 0 = .ok (.iconst 0, 1) := by decide +kernel
theorem d_Bounds_clear_1 : decode b_Bounds_clear 1 = .ok (.istore_n 1, 1) := by decide +kernel
theorem d_Bounds_clear_2 : decode b_Bounds_clear 2 = .ok (.iload_n 1, 1) := by decide +kernel
theorem d_Bounds_clear_3 : decode b_Bounds_clear 3 = .ok (.aload_n 0, 1) := by decide +kernel
theorem d_Bounds_clear_4 : decode b_Bounds_clear 4 = .ok (.getfield 28, 3) := by decide +kernel
theorem d_Bounds_clear_7 : decode b_Bounds_clear 7 = .ok (.if_icmp .ge 22, 3) := by decide +kernel
theorem d_Bounds_clear_10 : decode b_Bounds_clear 10 = .ok (.aload_n 0, 1) := by decide +kernel
theorem d_Bounds_clear_11 : decode b_Bounds_clear 11 = .ok (.getfield 15, 3) := by decide +kernel
theorem d_Bounds_clear_14 : decode b_Bounds_clear 14 = .ok (.aload_n 0, 1) := by decide +kernel
theorem d_Bounds_clear_15 : decode b_Bounds_clear 15 = .ok (.getfield 18, 3) := by decide +kernel
theorem d_Bounds_clear_18 : decode b_Bounds_clear 18 = .ok (.iload_n 1, 1) := by decide +kernel
theorem d_Bounds_clear_19 : decode b_Bounds_clear 19 = .ok (.iaload, 1) := by decide +kernel
theorem d_Bounds_clear_20 : decode b_Bounds_clear 20 = .ok (.ldc 21, 2) := by decide +kernel
theorem d_Bounds_clear_22 : decode b_Bounds_clear 22 = .ok (.iastore, 1) := by decide +kernel
theorem d_Bounds_clear_23 : decode b_Bounds_clear 23 = .ok (.iinc 1 1, 3) := by decide +kernel
theorem d_Bounds_clear_26 : decode b_Bounds_clear 26 = .ok (.goto (-24), 3) := by decide +kernel
theorem d_Bounds_clear_29 : decode b_Bounds_clear 29 = .ok (.aload_n 0, 1) := by decide +kernel
theorem d_Bounds_clear_30 : decode b_Bounds_clear 30 = .ok (.iconst 0, 1) := by decide +kernel
theorem d_Bounds_clear_31 : decode b_Bounds_clear 31 = .ok (.putfield 28, 3) := by decide +kernel
theorem d_Bounds_clear_34 : decode b_Bounds_clear 34 = .ok (.aload_n 0, 1) := by decide +kernel
theorem d_Bounds_clear_35 : decode b_Bounds_clear 35 = .ok (.getfield 9, 3) := by decide +kernel
theorem d_Bounds_clear_38 : decode b_Bounds_clear 38 = .ok (.iconst 0, 1) := by decide +kernel
theorem d_Bounds_clear_39 : decode b_Bounds_clear 39 = .ok (.invokestatic 22, 3) := by decide +kernel
theorem d_Bounds_clear_42 : decode b_Bounds_clear 42 = .ok (.return_, 1) := by decide +kernel
set_option maxHeartbeats 40000000 in
set_option maxRecDepth 100000 in
theorem c_B_clear (l : Launch) (D : va_G) (ax : Nat → ClassId) (b0 b1 b2 b3 bn : Nat) (lv mo : Nat → Int32) (bo : Nat → Nat) (sz : Nat) (hbv : bnv mo bo bn) (hcv : bcv8 mo bo bn) : Met l y_Bounds_clear (xws (.code y_Bounds_clear b_Bounds_clear 2 none)) ({ frames := 20, cells := 0, slots := 0, locals := 800 }) (va_Pc [.ref b0] (xo D ax [(b0, .inr (0, [.ref b1, .ref b2, .ref b3, .int (nI bn)])), (b1, .inl (ax 0, 11, .inl lv)), (b2, .inl (ax 0, 121, .inl mo)), (b3, .inl (ax 0, 121, .inl (fun j => nI (bo j))))] sz)) ((va_Qv (fun (u : Nat → Nat) => (u 0 = 0)) (fun (u : Nat → Nat) (t9 : State) => ∃ xlv : Nat → Int32, ∃ xmo : Nat → Int32, ∃ xbo : Nat → Nat, (bnv xmo xbo (u 0)) ∧ (∀ k, k ≤ 120 → xmo k = 268435456) ∧ (∀ i, i ≤ 10 → xlv i = 0) ∧ va_P D classes [(b0, .inr (0, [.ref b1, .ref b2, .ref b3, .int (nI (u 0))])), (b1, .inl (ax 0, 11, .inl xlv)), (b2, .inl (ax 0, 121, .inl xmo)), (b3, .inl (ax 0, 121, .inl (fun j => nI (xbo j))))] t9.heap ∧ va_D (va_A [(b0, .inr (0, [.ref b1, .ref b2, .ref b3, .int (nI bn)])), (b1, .inl (ax 0, 11, .inl lv)), (b2, .inl (ax 0, 121, .inl mo)), (b3, .inl (ax 0, 121, .inl (fun j => nI (bo j))))] sz) [(b0, .inr (0, [.ref b1, .ref b2, .ref b3, .int (nI (u 0))])), (b1, .inl (ax 0, 11, .inl xlv)), (b2, .inl (ax 0, 121, .inl xmo)), (b3, .inl (ax 0, 121, .inl (fun j => nI (xbo j))))]) (va_A [(b0, .inr (0, [.ref b1, .ref b2, .ref b3, .int (nI bn)])), (b1, .inl (ax 0, 11, .inl lv)), (b2, .inl (ax 0, 121, .inl mo)), (b3, .inl (ax 0, 121, .inl (fun j => nI (bo j))))] sz))) 0 0 (va_A [(b0, .inr (0, [.ref b1, .ref b2, .ref b3, .int (nI bn)])), (b1, .inl (ax 0, 11, .inl lv)), (b2, .inl (ax 0, 121, .inl mo)), (b3, .inl (ax 0, 121, .inl (fun j => nI (bo j))))] sz) := by
  refine Met.ofW (cc := b_Bounds_clear) (maxL := 2) (ret := none) (by decide) rfl ?_
  intro p e s m args below meth c s₁ B hml hv
  obtain ⟨rfl, hsz, hP, hK, hD0⟩ := hv
  have hx := B.exec
  have hb := B.bytes
  have hr := B.returns
  have hts := xw_hts B.pre
  have hown : s.vm.findClass R_Bounds = some m.cls := findClass_of_methodNamed B.named
  have hlocks := B.notSynchronized
  subst hsz
  have hD := hD0.self (sz := s.heap.size)
  have hN := xz_entry hP
  generalize hAe : va_A [(b0, .inr (0, [.ref b1, .ref b2, .ref b3, .int (nI bn)])), (b1, .inl (ax 0, 11, .inl lv)), (b2, .inl (ax 0, 121, .inl mo)), (b3, .inl (ax 0, 121, .inl (fun j => nI (bo j))))] s.heap.size = A at hD hN ⊢
  have hA : ∀ q : Nat, s.heap.size ≤ q → A q := fun q h => by rw [← hAe]; exact Or.inr h
  have hS : va_S A s.heap s.heap [] := va_S.rf
  have hl0 := lv_entry ([.ref b0]) (n := 2) (Nat.le_of_ble_eq_true rfl)
  rw [lg_entry_eq]
  generalize (lg_sl ([.ref b0]) ++ List.replicate (2 - (lg_sl ([.ref b0])).length) Slot.unset).toArray = ls at hl0 ⊢
  have hl1 : lv_has ls 2 [(0, .ref b0)] := hl0
  refine xw_gen (fun Z9 hQe => ?_)
  refine lv_iconst (v := 0) hx hb d_Bounds_clear_0 (by decide) ?_
  refine lv_istore_n (lv' := [(1, .int 0), (0, .ref b0)]) hx hb d_Bounds_clear_1 rfl hl1 (by decide) rfl (fun ls hl2 => ?_)
  clear hl1; have hl1 := hl2; clear hl2
  have hc9 := cnf_le mo 121
  have hb9 := hbv.1
  suffices key_1 : ∀ (k : Nat) (i1 : Nat) (mo1 : Nat → Int32), bn - i1 < k → i1 ≤ bn → (∀ k, mo1 k ≤ 268435456) → bcI8 mo1 bo bn i1 → ∀ (H : Heap) (locs : List Loc) (ls : Array Slot), va_P D classes [(b0, .inr (0, [.ref b1, .ref b2, .ref b3, .int (nI bn)])), (b1, .inl (ax 0, 11, .inl lv)), (b2, .inl (ax 0, 121, .inl mo1)), (b3, .inl (ax 0, 121, .inl (fun j => nI (bo j))))] H → va_D A [(b0, .inr (0, [.ref b1, .ref b2, .ref b3, .int (nI bn)])), (b1, .inl (ax 0, 11, .inl lv)), (b2, .inl (ax 0, 121, .inl mo1)), (b3, .inl (ax 0, 121, .inl (fun j => nI (bo j))))] → va_S A s.heap H locs → lv_has ls 2 [(0, .ref b0), (1, .int (nI i1))] → W p l e (headSpec (xws (.code y_Bounds_clear b_Bounds_clear 2 none)) ({ frames := 20, cells := 0, slots := 0, locals := 800 })).room s m ([.ref b0] : List Value).toArray below meth c H locs 0 0 Z9 (F0 m 2 ls []) from key_1 (bn - 0 + 1) 0 mo (Nat.lt_succ_self _) (by first | assumption | omega) hbv.2.1 (bcI8_0 hcv) _ _ _ (hP) (hD) hS (lv_sub hl1 [1, 0] rfl)
  intro k_2
  induction k_2 with
  | zero =>
    intro i1 mo1 hk_4
    exact absurd hk_4 (Nat.not_lt_zero _)
  | succ k_2 ih_3 =>
    clear hP hD hS hl1
    intro i1 mo1 hk_4 hi1 hm1 hc8 H locs ls hP hD hS hl1
    refine lv_iload_n hx hb d_Bounds_clear_2 rfl (lv_at hl1 1 rfl) ?_
    refine lv_aload_n hx hb d_Bounds_clear_3 rfl (lv_at hl1 0 rfl) ?_
    refine va_get (D := D) (ci := 0) (v := .int (nI bn)) (C := R_Bounds) (T := F_Bounds) (N := 4) hx hb hts i_Bounds hown hK.1 hP 0 rfl rfl 3 (by decide) (hts _ wd_165) (fun _ h9 => h9) rfl d_Bounds_clear_4 ?_
    refine lv_icmp_ge (tgt := 29) hx hb d_Bounds_clear_7 (by decide) (fun c_5 => ?_) (fun c_5 => ?_)
    · replace c_5 : bn ≤ i1 := (nI_leI (a := bn) (b := i1) (by first | exact Nat.lt_of_lt_of_le (by assumption) (by decide) | exact Nat.lt_of_le_of_lt (by assumption) (by decide) | omega) (by first | exact Nat.lt_of_lt_of_le (by assumption) (by decide) | exact Nat.lt_of_le_of_lt (by assumption) (by decide) | omega)).mp c_5
      refine lv_aload_n hx hb d_Bounds_clear_29 rfl (lv_at hl1 0 rfl) ?_
      refine lv_iconst (v := 0) hx hb d_Bounds_clear_30 (by decide) ?_
      refine va_put (D := D) (ci := 0) (v := .int 0) (ty := .int) (C := R_Bounds) (T := F_Bounds) (N := 4) hx hb hts i_Bounds t_Bounds t_Bounds_ok n_Bounds hown hK.1 hP hD hS 0 rfl rfl 3 (by decide) (hts _ wd_165) (fun _ h9 => h9) rfl (by decide +kernel) rfl rfl (Nat.le_of_ble_eq_true rfl) d_Bounds_clear_31 (fun H_6 locs hP1 hD1 hS1 => ?_)
      clear hP hD hS
      have hS := hS1
      have hW7 : (fun w9 : va_W => va_P D classes w9 H_6 ∧ va_D A w9) [(b0, .inr (0, [.ref b1, .ref b2, .ref b3, .int 0])), (b1, .inl (ax 0, 11, .inl lv)), (b2, .inl (ax 0, 121, .inl mo1)), (b3, .inl (ax 0, 121, .inl (fun j => nI (bo j))))] := ⟨hP1, hD1⟩
      obtain ⟨hP, hD⟩ := hW7
      clear hP1 hD1 hS1
      refine lv_aload_n hx hb d_Bounds_clear_34 rfl (lv_at hl1 0 rfl) ?_
      refine va_get (D := D) (ci := 0) (v := .ref b1) (C := R_Bounds) (T := F_Bounds) (N := 4) hx hb hts i_Bounds hown hK.1 hP 0 rfl rfl 0 (by decide) (hts _ wd_162) (fun _ h9 => h9) rfl d_Bounds_clear_35 ?_
      refine lv_iconst (v := 0) hx hb d_Bounds_clear_38 (by decide) ?_
      obtain ⟨hPc, hDc, hFc, hCs⟩ := xw_sub3 (wc := [(b1, .inl (ax 0, 11, .inl lv))]) hP hD hS hA [1] (by decide) rfl
      have hz := xz_of hN hS
      refine va_callv (va_runS (As := [.ref b1, .int 0]) (rest := []) ⟨hx, hb, hml, hown, hts⟩ (c_Arrays_fill_I l D ax b1 11 lv 0 H_6.size (by decide)) (xcS (n := 2) hts wd_161 wd_8 wd_159 wd_160 rfl rfl (by decide +kernel) ⟨Nat.le_of_ble_eq_true rfl, Nat.le_of_ble_eq_true rfl⟩) (xpS (As := [.ref b1, .int 0]) hPc hK hz hDc) rfl rfl hl1.1 rfl (lv_room (Nat.le_of_ble_eq_true rfl)) d_Bounds_clear_39 ⟨Nat.le_of_ble_eq_true rfl, Nat.le_of_ble_eq_true rfl⟩) hS (fun q _ h => hFc q h) hFc (fun u_7 t H_8 locs ht hvm hw hB hz1 hk1 hS1 => ?_)
      try dsimp only at hw
      obtain ⟨hP1, hD1⟩ := hB
      rw [ht] at hP1
      have hjn := xw_join3 (wl := [(b0, .inr (0, [.ref b1, .ref b2, .ref b3, .int 0])), (b2, .inl (ax 0, 121, .inl mo1)), (b3, .inl (ax 0, 121, .inl (fun j => nI (bo j)))), (b1, .inl (ax 0, 11, .inl (fun j => if j < 11 then 0 else lv j)))]) hP hD [1] [0, 2, 3] hCs (by decide) (by decide) hk1 hFc hP1 hD1 rfl
      clear hP1 hD1
      clear hPc hDc hFc hCs hz hz1 hk1 ht hvm
      clear hP hD hS
      have hS := hS1
      obtain ⟨hP, hD⟩ := hjn
      clear hS1
      rw [← hQe]
      obtain ⟨hP9, hD9⟩ := xw_sub2 (wc := (fun (u : Nat → Nat) (xlv : Nat → Int32) (xmo : Nat → Int32) (xbo : Nat → Nat) => [(b0, .inr (0, [.ref b1, .ref b2, .ref b3, .int (nI (u 0))])), (b1, .inl (ax 0, 11, .inl xlv)), (b2, .inl (ax 0, 121, .inl xmo)), (b3, .inl (ax 0, 121, .inl (fun j => nI (xbo j))))]) (ixn [0]) (fun j => if j < 11 then 0 else lv j) mo1 bo) hP hD [0, 3, 1, 2] (by decide) rfl
      have hex0 : bnv mo1 bo (0) := ⟨Nat.zero_le _, hm1, hbv.2.2⟩
      have hex1 : ∀ k, k ≤ 120 → mo1 k = 268435456 := (hc8.fin (by first | assumption | omega))
      have hex2 : ∀ i, i ≤ 10 → (fun j => if j < 11 then 0 else lv j) i = 0 := (fun i hi => if_pos (by first | assumption | omega))
      have hsp0 : 0 = 0 := (by first | assumption | omega)
      exact W.vret hx hb hr (fun t ht hW => ⟨⟨ixn [0], rfl, hsp0, ⟨(fun j => if j < 11 then 0 else lv j), mo1, bo, hex0, hex1, hex2, by rw [ht]; exact hP9, hD9⟩⟩, hS.F ht⟩) hS.2.2 d_Bounds_clear_42
    · replace c_5 : ¬ bn ≤ i1 := fun hq9 => c_5 ((nI_leI (a := bn) (b := i1) (by first | exact Nat.lt_of_lt_of_le (by assumption) (by decide) | exact Nat.lt_of_le_of_lt (by assumption) (by decide) | omega) (by first | exact Nat.lt_of_lt_of_le (by assumption) (by decide) | exact Nat.lt_of_le_of_lt (by assumption) (by decide) | omega)).mpr hq9)
      have hq9 := hbv.2.2 i1
      refine lv_aload_n hx hb d_Bounds_clear_10 rfl (lv_at hl1 0 rfl) ?_
      refine va_get (D := D) (ci := 0) (v := .ref b2) (C := R_Bounds) (T := F_Bounds) (N := 4) hx hb hts i_Bounds hown hK.1 hP 0 rfl rfl 1 (by decide) (hts _ wd_163) (fun _ h9 => h9) rfl d_Bounds_clear_11 ?_
      refine lv_aload_n hx hb d_Bounds_clear_14 rfl (lv_at hl1 0 rfl) ?_
      refine va_get (D := D) (ci := 0) (v := .ref b3) (C := R_Bounds) (T := F_Bounds) (N := 4) hx hb hts i_Bounds hown hK.1 hP 0 rfl rfl 2 (by decide) (hts _ wd_164) (fun _ h9 => h9) rfl d_Bounds_clear_15 ?_
      refine lv_iload_n hx hb d_Bounds_clear_18 rfl (lv_at hl1 1 rfl) ?_
      refine va_iald hx hb hK.1 hP 3 0 rfl rfl (vp_in_nI (by first | assumption | omega) (by decide)) d_Bounds_clear_19 ?_
      refine W.eq (g2 := F0 m 20 ls [.int (nI (bo i1)), .ref b2]) (by rw [nI_clamp (by first | exact Nat.lt_of_lt_of_le (by assumption) (by decide) | exact Nat.lt_of_le_of_lt (by assumption) (by decide) | omega)]) ?_
      refine lv_ldc (v := 268435456) hx hb hown (hts _ wd_158) d_Bounds_clear_20 ?_
      refine va_iast hx hb hK.1 hP hD hS 2 0 rfl rfl (vp_in_nI (by first | assumption | omega) (by decide)) d_Bounds_clear_22 (fun H_10 locs hP1 hD1 hS1 => ?_)
      rw [nI_clamp (by first | exact Nat.lt_of_lt_of_le (by assumption) (by decide) | exact Nat.lt_of_le_of_lt (by assumption) (by decide) | omega)] at hP1 hD1
      clear hP hD hS
      have hS := hS1
      have hW7 : (fun w9 : va_W => va_P D classes w9 H_10 ∧ va_D A w9) [(b0, .inr (0, [.ref b1, .ref b2, .ref b3, .int (nI bn)])), (b1, .inl (ax 0, 11, .inl lv)), (b2, .inl (ax 0, 121, .inl (upd mo1 (bo i1) 268435456))), (b3, .inl (ax 0, 121, .inl (fun j => nI (bo j))))] := ⟨hP1, hD1⟩
      obtain ⟨hP, hD⟩ := hW7
      clear hP1 hD1 hS1
      refine lv_iinc (v := nI (i1 + 1)) (lv' := [(1, .int (nI (i1 + 1))), (0, .ref b0)]) hx hb d_Bounds_clear_23 hl1 (k := 1) rfl (nI_add i1 1) (by decide) rfl (fun ls hl2 => ?_)
      clear hl1; have hl1 := hl2; clear hl2
      refine lv_goto (tgt := 2) hx hb d_Bounds_clear_26 (by decide) ?_
      exact ih_3 (i1 + 1) (upd mo1 (bo i1) 268435456) (by first | assumption | omega) (by first | assumption | omega) (bnv_up hm1 (by decide)) hc8.step _ _ _ (hP.sub [0, 1, 2, 3] rfl) (hD.sub [0, 1, 2, 3] (by decide) rfl) hS (lv_sub hl1 [1, 0] rfl)
abbrev b_Bounds_number : ByteArray := prog_2_method_3_code
def y_Bounds_number : MethodName := ⟨R_Bounds, "number", "(I)I"⟩
theorem d_Bounds_number_0 : decode b_Bounds_number 0 = .ok (.aload_n 0, 1) := by decide +kernel
theorem d_Bounds_number_1 : decode b_Bounds_number 1 = .ok (.getfield 9, 3) := by decide +kernel
theorem d_Bounds_number_4 : decode b_Bounds_number 4 = .ok (.iload_n 1, 1) := by decide +kernel
theorem d_Bounds_number_5 : decode b_Bounds_number 5 = .ok (.iaload, 1) := by decide +kernel
theorem d_Bounds_number_6 : decode b_Bounds_number 6 = .ok (.aload_n 0, 1) := by decide +kernel
theorem d_Bounds_number_7 : decode b_Bounds_number 7 = .ok (.getfield 9, 3) := by decide +kernel
theorem d_Bounds_number_10 : decode b_Bounds_number 10 = .ok (.bipush 10, 2) := by decide +kernel
theorem d_Bounds_number_12 : decode b_Bounds_number 12 = .ok (.iaload, 1) := by decide +kernel
theorem d_Bounds_number_13 : decode b_Bounds_number 13 = .ok (.isub, 1) := by decide +kernel
theorem d_Bounds_number_14 : decode b_Bounds_number 14 = .ok (.ireturn, 1) := by decide +kernel
set_option maxHeartbeats 40000000 in
set_option maxRecDepth 100000 in
theorem c_B_number (l : Launch) (D : va_G) (ax : Nat → ClassId) (b0 b1 b2 b3 bn : Nat) (lv mo : Nat → Int32) (bo : Nat → Nat) (q1 : Nat) (sz : Nat) (hq1 : q1 ≤ 10) : Met l y_Bounds_number (xws (.code y_Bounds_number b_Bounds_number 2 (some .int))) ({ frames := 10, cells := 0, slots := 0, locals := 400 }) (va_Pc [.ref b0, .int (nI q1)] (xo D ax [(b0, .inr (0, [.ref b1, .ref b2, .ref b3, .int (nI bn)])), (b1, .inl (ax 0, 11, .inl lv)), (b2, .inl (ax 0, 121, .inl mo)), (b3, .inl (ax 0, 121, .inl (fun j => nI (bo j))))] sz)) ((va_Qi (fun (r : Int32) (u : Nat → Nat) => r = nI (u 0) ∧ (u 0 ≤ 4294967295 ∧ nI (u 0) = lv q1 - lv 10)) (xb D (va_A [(b0, .inr (0, [.ref b1, .ref b2, .ref b3, .int (nI bn)])), (b1, .inl (ax 0, 11, .inl lv)), (b2, .inl (ax 0, 121, .inl mo)), (b3, .inl (ax 0, 121, .inl (fun j => nI (bo j))))] sz) (fun u => [(b0, .inr (0, [.ref b1, .ref b2, .ref b3, .int (nI bn)])), (b1, .inl (ax 0, 11, .inl lv)), (b2, .inl (ax 0, 121, .inl mo)), (b3, .inl (ax 0, 121, .inl (fun j => nI (bo j))))])) (va_A [(b0, .inr (0, [.ref b1, .ref b2, .ref b3, .int (nI bn)])), (b1, .inl (ax 0, 11, .inl lv)), (b2, .inl (ax 0, 121, .inl mo)), (b3, .inl (ax 0, 121, .inl (fun j => nI (bo j))))] sz))) 0 0 (va_A [(b0, .inr (0, [.ref b1, .ref b2, .ref b3, .int (nI bn)])), (b1, .inl (ax 0, 11, .inl lv)), (b2, .inl (ax 0, 121, .inl mo)), (b3, .inl (ax 0, 121, .inl (fun j => nI (bo j))))] sz) := by
  refine Met.ofW (cc := b_Bounds_number) (maxL := 2) (ret := (some .int)) (by decide) rfl ?_
  intro p e s m args below meth c s₁ B hml hv
  obtain ⟨rfl, hsz, hP, hK, hD0⟩ := hv
  have hx := B.exec
  have hb := B.bytes
  have hr := B.returns
  have hts := xw_hts B.pre
  have hown : s.vm.findClass R_Bounds = some m.cls := findClass_of_methodNamed B.named
  have hlocks := B.notSynchronized
  subst hsz
  have hD := hD0.self (sz := s.heap.size)
  have hN := xz_entry hP
  generalize hAe : va_A [(b0, .inr (0, [.ref b1, .ref b2, .ref b3, .int (nI bn)])), (b1, .inl (ax 0, 11, .inl lv)), (b2, .inl (ax 0, 121, .inl mo)), (b3, .inl (ax 0, 121, .inl (fun j => nI (bo j))))] s.heap.size = A at hD hN ⊢
  have hA : ∀ q : Nat, s.heap.size ≤ q → A q := fun q h => by rw [← hAe]; exact Or.inr h
  have hS : va_S A s.heap s.heap [] := va_S.rf
  have hl0 := lv_entry ([.ref b0, .int (nI q1)]) (n := 2) (Nat.le_of_ble_eq_true rfl)
  rw [lg_entry_eq]
  generalize (lg_sl ([.ref b0, .int (nI q1)]) ++ List.replicate (2 - (lg_sl ([.ref b0, .int (nI q1)])).length) Slot.unset).toArray = ls at hl0 ⊢
  have hl1 : lv_has ls 2 [(0, .ref b0), (1, .int (nI q1))] := hl0
  refine xw_gen (fun Z9 hQe => ?_)
  refine lv_aload_n hx hb d_Bounds_number_0 rfl (lv_at hl1 0 rfl) ?_
  refine va_get (D := D) (ci := 0) (v := .ref b1) (C := R_Bounds) (T := F_Bounds) (N := 4) hx hb hts i_Bounds hown hK.1 hP 0 rfl rfl 0 (by decide) (hts _ wd_162) (fun _ h9 => h9) rfl d_Bounds_number_1 ?_
  refine lv_iload_n hx hb d_Bounds_number_4 rfl (lv_at hl1 1 rfl) ?_
  refine va_iald hx hb hK.1 hP 1 0 rfl rfl (vp_in_nI (by first | assumption | omega) (by decide)) d_Bounds_number_5 ?_
  refine W.eq (g2 := F0 m 6 ls [.int (lv q1)]) (by rw [nI_clamp (by first | exact Nat.lt_of_lt_of_le (by assumption) (by decide) | exact Nat.lt_of_le_of_lt (by assumption) (by decide) | omega)]) ?_
  refine lv_aload_n hx hb d_Bounds_number_6 rfl (lv_at hl1 0 rfl) ?_
  refine va_get (D := D) (ci := 0) (v := .ref b1) (C := R_Bounds) (T := F_Bounds) (N := 4) hx hb hts i_Bounds hown hK.1 hP 0 rfl rfl 0 (by decide) (hts _ wd_162) (fun _ h9 => h9) rfl d_Bounds_number_7 ?_
  refine lv_bipush (v := 10) hx hb d_Bounds_number_10 (by decide) ?_
  refine va_iald hx hb hK.1 hP 1 0 rfl rfl (by unfold vp_in; decide) d_Bounds_number_12 ?_
  refine lv_topi (fun z_1 ez_1 => ?_)
  refine lv_isub hx hb d_Bounds_number_13 ?_
  refine lv_topi (fun z_2 ez_2 => ?_)
  rw [← hQe]
  obtain ⟨hP9, hD9⟩ := xw_sub2 (wc := (fun u : Nat → Nat => [(b0, .inr (0, [.ref b1, .ref b2, .ref b3, .int (nI bn)])), (b1, .inl (ax 0, 11, .inl lv)), (b2, .inl (ax 0, 121, .inl mo)), (b3, .inl (ax 0, 121, .inl (fun j => nI (bo j))))]) (ixn [(i2n z_2)])) hP hD [0, 1, 2, 3] (by decide) rfl
  have hsp0 : (i2n z_2) ≤ 4294967295 := (Nat.le_of_lt_succ (i2n_lt _))
  have hsp1 : nI ((i2n z_2)) = lv q1 - lv 10 := (by rw [nI_i2n, ez_2, ez_1]; rfl)
  exact W.iret (v := z_2) hx hb hr (fun t ht hW => ⟨⟨z_2, ixn [(i2n z_2)], rfl, ⟨(nI_i2n _).symm, ⟨hsp0, hsp1⟩⟩, ⟨by rw [ht]; exact hP9, hD9⟩⟩, hS.F ht⟩) hS.2.2 d_Bounds_number_14
abbrev b_Bounds_lowerFrom : ByteArray := prog_2_method_7_code
def y_Bounds_lowerFrom : MethodName := ⟨R_Bounds, "lowerFrom", "(I)I"⟩
theorem d_Bounds_lowerFrom_0 : decode b_Bounds_lowerFrom 0 = .ok (.iconst 0, 1) := by decide +kernel
theorem d_Bounds_lowerFrom_1 : decode b_Bounds_lowerFrom 1 = .ok (.istore_n 2, 1) := by decide +kernel
theorem d_Bounds_lowerFrom_2 : decode b_Bounds_lowerFrom 2 = .ok (.bipush 11, 2) := by decide +kernel
theorem d_Bounds_lowerFrom_4 : decode b_Bounds_lowerFrom 4 = .ok (.iload_n 1, 1) := by decide +kernel
theorem d_Bounds_lowerFrom_5 : decode b_Bounds_lowerFrom 5 = .ok (.imul, 1) := by decide +kernel
theorem d_Bounds_lowerFrom_6 : decode b_Bounds_lowerFrom 6 = .ok (.istore_n 3, 1) := by decide +kernel
theorem d_Bounds_lowerFrom_7 : decode b_Bounds_lowerFrom 7 = .ok (.iconst 0, 1) := by decide +kernel
theorem d_Bounds_lowerFrom_8 : decode b_Bounds_lowerFrom 8 = .ok (.istore 4, 2) := by decide +kernel
theorem d_Bounds_lowerFrom_10 : decode b_Bounds_lowerFrom 10 = .ok (.iload 4, 2) := by decide +kernel
theorem d_Bounds_lowerFrom_12 : decode b_Bounds_lowerFrom 12 = .ok (.bipush 11, 2) := by decide +kernel
theorem d_Bounds_lowerFrom_14 : decode b_Bounds_lowerFrom 14 = .ok (.if_icmp .ge 55, 3) := by decide +kernel
theorem d_Bounds_lowerFrom_17 : decode b_Bounds_lowerFrom 17 = .ok (.aload_n 0, 1) := by decide +kernel
theorem d_Bounds_lowerFrom_18 : decode b_Bounds_lowerFrom 18 = .ok (.getfield 9, 3) := by decide +kernel
theorem d_Bounds_lowerFrom_21 : decode b_Bounds_lowerFrom 21 = .ok (.iload_n 1, 1) := by decide +kernel
theorem d_Bounds_lowerFrom_22 : decode b_Bounds_lowerFrom 22 = .ok (.iaload, 1) := by decide +kernel
theorem d_Bounds_lowerFrom_23 : decode b_Bounds_lowerFrom 23 = .ok (.aload_n 0, 1) := by decide +kernel
theorem d_Bounds_lowerFrom_24 : decode b_Bounds_lowerFrom 24 = .ok (.getfield 15, 3) := by decide +kernel
theorem d_Bounds_lowerFrom_27 : decode b_Bounds_lowerFrom 27 = .ok (.iload_n 3, 1) := by decide +kernel
theorem d_Bounds_lowerFrom_28 : decode b_Bounds_lowerFrom 28 = .ok (.iload 4, 2) := by decide +kernel
theorem d_Bounds_lowerFrom_30 : decode b_Bounds_lowerFrom 30 = .ok (.iadd, 1) := by decide +kernel
theorem d_Bounds_lowerFrom_31 : decode b_Bounds_lowerFrom 31 = .ok (.iaload, 1) := by decide +kernel
theorem d_Bounds_lowerFrom_32 : decode b_Bounds_lowerFrom 32 = .ok (.iadd, 1) := by decide +kernel
theorem d_Bounds_lowerFrom_33 : decode b_Bounds_lowerFrom 33 = .ok (.istore 5, 2) := by decide +kernel
theorem d_Bounds_lowerFrom_35 : decode b_Bounds_lowerFrom 35 = .ok (.iload 5, 2) := by decide +kernel
theorem d_Bounds_lowerFrom_37 : decode b_Bounds_lowerFrom 37 = .ok (.aload_n 0, 1) := by decide +kernel
theorem d_Bounds_lowerFrom_38 : decode b_Bounds_lowerFrom 38 = .ok (.getfield 9, 3) := by decide +kernel
theorem d_Bounds_lowerFrom_41 : decode b_Bounds_lowerFrom 41 = .ok (.iload 4, 2) := by decide +kernel
theorem d_Bounds_lowerFrom_43 : decode b_Bounds_lowerFrom 43 = .ok (.iaload, 1) := by decide +kernel
theorem d_Bounds_lowerFrom_44 : decode b_Bounds_lowerFrom 44 = .ok (.if_icmp .ge 19, 3) := by decide +kernel
theorem d_Bounds_lowerFrom_47 : decode b_Bounds_lowerFrom 47 = .ok (.aload_n 0, 1) := by decide +kernel
theorem d_Bounds_lowerFrom_48 : decode b_Bounds_lowerFrom 48 = .ok (.getfield 9, 3) := by decide +kernel
theorem d_Bounds_lowerFrom_51 : decode b_Bounds_lowerFrom 51 = .ok (.iload 4, 2) := by decide +kernel
theorem d_Bounds_lowerFrom_53 : decode b_Bounds_lowerFrom 53 = .ok (.iload 5, 2) := by decide +kernel
theorem d_Bounds_lowerFrom_55 : decode b_Bounds_lowerFrom 55 = .ok (.iastore, 1) := by decide +kernel
theorem d_Bounds_lowerFrom_56 : decode b_Bounds_lowerFrom 56 = .ok (.iload_n 2, 1) := by decide +kernel
theorem d_Bounds_lowerFrom_57 : decode b_Bounds_lowerFrom 57 = .ok (.iconst 1, 1) := by decide +kernel
theorem d_Bounds_lowerFrom_58 : decode b_Bounds_lowerFrom 58 = .ok (.iload 4, 2) := by decide +kernel
theorem d_Bounds_lowerFrom_60 : decode b_Bounds_lowerFrom 60 = .ok (.ishl, 1) := by decide +kernel
theorem d_Bounds_lowerFrom_61 : decode b_Bounds_lowerFrom 61 = .ok (.ior, 1) := by decide +kernel
theorem d_Bounds_lowerFrom_62 : decode b_Bounds_lowerFrom 62 = .ok (.istore_n 2, 1) := by decide +kernel
theorem d_Bounds_lowerFrom_63 : decode b_Bounds_lowerFrom 63 = .ok (.iinc 4 1, 3) := by decide +kernel
theorem d_Bounds_lowerFrom_66 : decode b_Bounds_lowerFrom 66 = .ok (.goto (-56), 3) := by decide +kernel
theorem d_Bounds_lowerFrom_69 : decode b_Bounds_lowerFrom 69 = .ok (.iload_n 2, 1) := by decide +kernel
theorem d_Bounds_lowerFrom_70 : decode b_Bounds_lowerFrom 70 = .ok (.ireturn, 1) := by decide +kernel
set_option maxHeartbeats 40000000 in
set_option maxRecDepth 100000 in
theorem c_B_lowerFrom (l : Launch) (D : va_G) (ax : Nat → ClassId) (b0 b1 b2 b3 bn : Nat) (lv mo : Nat → Int32) (bo : Nat → Nat) (q1 n8 : Nat) (sz : Nat) (hq1 : q1 ≤ 10) (hW8 : moW8 mo) (hl8 : lo8 lv n8) (hn8 : n8 ≤ 2000) (h08 : npo8 (lI8 lv)) : Met l y_Bounds_lowerFrom (xws (.code y_Bounds_lowerFrom b_Bounds_lowerFrom 6 (some .int))) ({ frames := 10, cells := 0, slots := 0, locals := 400 }) (va_Pc [.ref b0, .int (nI q1)] (xo D ax [(b0, .inr (0, [.ref b1, .ref b2, .ref b3, .int (nI bn)])), (b1, .inl (ax 0, 11, .inl lv)), (b2, .inl (ax 0, 121, .inl mo)), (b3, .inl (ax 0, 121, .inl (fun j => nI (bo j))))] sz)) ((va_Qi (fun (r : Int32) (u : Nat → Nat) => r = nI (u 0) ∧ (u 0 ≤ 4294967295)) (fun (u : Nat → Nat) (t9 : State) => ∃ xlv : Nat → Int32, (lwI8 mo lv q1 11 (nI (u 0)) xlv) ∧ va_P D classes [(b0, .inr (0, [.ref b1, .ref b2, .ref b3, .int (nI bn)])), (b1, .inl (ax 0, 11, .inl xlv)), (b2, .inl (ax 0, 121, .inl mo)), (b3, .inl (ax 0, 121, .inl (fun j => nI (bo j))))] t9.heap ∧ va_D (va_A [(b0, .inr (0, [.ref b1, .ref b2, .ref b3, .int (nI bn)])), (b1, .inl (ax 0, 11, .inl lv)), (b2, .inl (ax 0, 121, .inl mo)), (b3, .inl (ax 0, 121, .inl (fun j => nI (bo j))))] sz) [(b0, .inr (0, [.ref b1, .ref b2, .ref b3, .int (nI bn)])), (b1, .inl (ax 0, 11, .inl xlv)), (b2, .inl (ax 0, 121, .inl mo)), (b3, .inl (ax 0, 121, .inl (fun j => nI (bo j))))]) (va_A [(b0, .inr (0, [.ref b1, .ref b2, .ref b3, .int (nI bn)])), (b1, .inl (ax 0, 11, .inl lv)), (b2, .inl (ax 0, 121, .inl mo)), (b3, .inl (ax 0, 121, .inl (fun j => nI (bo j))))] sz))) 0 0 (va_A [(b0, .inr (0, [.ref b1, .ref b2, .ref b3, .int (nI bn)])), (b1, .inl (ax 0, 11, .inl lv)), (b2, .inl (ax 0, 121, .inl mo)), (b3, .inl (ax 0, 121, .inl (fun j => nI (bo j))))] sz) := by
  refine Met.ofW (cc := b_Bounds_lowerFrom) (maxL := 6) (ret := (some .int)) (by decide) rfl ?_
  intro p e s m args below meth c s₁ B hml hv
  obtain ⟨rfl, hsz, hP, hK, hD0⟩ := hv
  have hx := B.exec
  have hb := B.bytes
  have hr := B.returns
  have hts := xw_hts B.pre
  have hown : s.vm.findClass R_Bounds = some m.cls := findClass_of_methodNamed B.named
  have hlocks := B.notSynchronized
  subst hsz
  have hD := hD0.self (sz := s.heap.size)
  have hN := xz_entry hP
  generalize hAe : va_A [(b0, .inr (0, [.ref b1, .ref b2, .ref b3, .int (nI bn)])), (b1, .inl (ax 0, 11, .inl lv)), (b2, .inl (ax 0, 121, .inl mo)), (b3, .inl (ax 0, 121, .inl (fun j => nI (bo j))))] s.heap.size = A at hD hN ⊢
  have hA : ∀ q : Nat, s.heap.size ≤ q → A q := fun q h => by rw [← hAe]; exact Or.inr h
  have hS : va_S A s.heap s.heap [] := va_S.rf
  have hl0 := lv_entry ([.ref b0, .int (nI q1)]) (n := 6) (Nat.le_of_ble_eq_true rfl)
  rw [lg_entry_eq]
  generalize (lg_sl ([.ref b0, .int (nI q1)]) ++ List.replicate (6 - (lg_sl ([.ref b0, .int (nI q1)])).length) Slot.unset).toArray = ls at hl0 ⊢
  have hl1 : lv_has ls 6 [(0, .ref b0), (1, .int (nI q1))] := hl0
  refine xw_gen (fun Z9 hQe => ?_)
  refine lv_iconst (v := 0) hx hb d_Bounds_lowerFrom_0 (by decide) ?_
  refine lv_istore_n (lv' := [(2, .int 0), (0, .ref b0), (1, .int (nI q1))]) hx hb d_Bounds_lowerFrom_1 rfl hl1 (by decide) rfl (fun ls hl2 => ?_)
  clear hl1; have hl1 := hl2; clear hl2
  refine lv_bipush (v := 11) hx hb d_Bounds_lowerFrom_2 (by decide) ?_
  refine lv_iload_n hx hb d_Bounds_lowerFrom_4 rfl (lv_at hl1 2 rfl) ?_
  refine lv_imul hx hb d_Bounds_lowerFrom_5 ?_
  refine lv_topi (fun z_1 ez_1 => ?_)
  have ez_1 : z_1 = nI (11 * q1) := ez_1.trans (pk_mul 11 q1)
  subst ez_1
  refine lv_istore_n (lv' := [(3, .int (nI (11 * q1))), (2, .int 0), (0, .ref b0), (1, .int (nI q1))]) hx hb d_Bounds_lowerFrom_6 rfl hl1 (by decide) rfl (fun ls hl2 => ?_)
  clear hl1; have hl1 := hl2; clear hl2
  refine lv_iconst (v := 0) hx hb d_Bounds_lowerFrom_7 (by decide) ?_
  refine lv_istore (lv' := [(4, .int 0), (3, .int (nI (11 * q1))), (2, .int 0), (0, .ref b0), (1, .int (nI q1))]) hx hb d_Bounds_lowerFrom_8 hl1 (by decide) rfl (fun ls hl2 => ?_)
  clear hl1; have hl1 := hl2; clear hl2
  suffices key_2 : ∀ (k : Nat) (t1 : Nat) (lo1 : Int32) (lv1 : Nat → Int32), 11 - t1 < k → t1 ≤ 11 → lwI8 mo lv q1 t1 lo1 lv1 → ∀ (H : Heap) (locs : List Loc) (ls : Array Slot), va_P D classes [(b0, .inr (0, [.ref b1, .ref b2, .ref b3, .int (nI bn)])), (b1, .inl (ax 0, 11, .inl lv1)), (b2, .inl (ax 0, 121, .inl mo)), (b3, .inl (ax 0, 121, .inl (fun j => nI (bo j))))] H → va_D A [(b0, .inr (0, [.ref b1, .ref b2, .ref b3, .int (nI bn)])), (b1, .inl (ax 0, 11, .inl lv1)), (b2, .inl (ax 0, 121, .inl mo)), (b3, .inl (ax 0, 121, .inl (fun j => nI (bo j))))] → va_S A s.heap H locs → lv_has ls 6 [(0, .ref b0), (1, .int (nI q1)), (2, .int lo1), (3, .int (nI (11 * (q1)))), (4, .int (nI t1))] → W p l e (headSpec (xws (.code y_Bounds_lowerFrom b_Bounds_lowerFrom 6 (some .int))) ({ frames := 10, cells := 0, slots := 0, locals := 400 })).room s m ([.ref b0, .int (nI q1)] : List Value).toArray below meth c H locs 0 0 Z9 (F0 m 10 ls []) from key_2 (11 - 0 + 1) 0 0 lv (Nat.lt_succ_self _) (by first | assumption | omega) lwI8_0 _ _ _ (hP) (hD) hS (lv_sub hl1 [3, 4, 2, 1, 0] rfl)
  intro k_3
  induction k_3 with
  | zero =>
    intro t1 lo1 lv1 hk_5
    exact absurd hk_5 (Nat.not_lt_zero _)
  | succ k_3 ih_4 =>
    clear hP hD hS hl1
    intro t1 lo1 lv1 hk_5 ht1 hw8 H locs ls hP hD hS hl1
    refine lv_iload hx hb d_Bounds_lowerFrom_10 (lv_at hl1 4 rfl) ?_
    refine lv_bipush (v := 11) hx hb d_Bounds_lowerFrom_12 (by decide) ?_
    refine lv_icmp_ge (tgt := 69) hx hb d_Bounds_lowerFrom_14 (by decide) (fun c_6 => ?_) (fun c_6 => ?_)
    · replace c_6 : 11 ≤ t1 := (nI_leI (a := 11) (b := t1) (by decide) (by first | exact Nat.lt_of_lt_of_le (by assumption) (by decide) | exact Nat.lt_of_le_of_lt (by assumption) (by decide) | omega)).mp c_6
      refine lv_iload_n hx hb d_Bounds_lowerFrom_69 rfl (lv_at hl1 2 rfl) ?_
      rw [← hQe]
      obtain ⟨hP9, hD9⟩ := xw_sub2 (wc := (fun (u : Nat → Nat) (xlv : Nat → Int32) => [(b0, .inr (0, [.ref b1, .ref b2, .ref b3, .int (nI bn)])), (b1, .inl (ax 0, 11, .inl xlv)), (b2, .inl (ax 0, 121, .inl mo)), (b3, .inl (ax 0, 121, .inl (fun j => nI (bo j))))]) (ixn [(i2n lo1)]) lv1) hP hD [0, 1, 2, 3] (by decide) rfl
      have hex0 : lwI8 mo lv q1 11 (nI ((i2n lo1))) lv1 := (by have e9 : t1 = 11 := (by first | assumption | omega); subst e9; rw [nI_i2n]; exact hw8)
      have hsp0 : (i2n lo1) ≤ 4294967295 := (Nat.le_of_lt_succ (i2n_lt _))
      exact W.iret (v := lo1) hx hb hr (fun t ht hW => ⟨⟨lo1, ixn [(i2n lo1)], rfl, ⟨(nI_i2n _).symm, hsp0⟩, ⟨lv1, hex0, by rw [ht]; exact hP9, hD9⟩⟩, hS.F ht⟩) hS.2.2 d_Bounds_lowerFrom_70
    · replace c_6 : ¬ 11 ≤ t1 := fun hq9 => c_6 ((nI_leI (a := 11) (b := t1) (by decide) (by first | exact Nat.lt_of_lt_of_le (by assumption) (by decide) | exact Nat.lt_of_le_of_lt (by assumption) (by decide) | omega)).mpr hq9)
      refine lv_aload_n hx hb d_Bounds_lowerFrom_17 rfl (lv_at hl1 0 rfl) ?_
      refine va_get (D := D) (ci := 0) (v := .ref b1) (C := R_Bounds) (T := F_Bounds) (N := 4) hx hb hts i_Bounds hown hK.1 hP 0 rfl rfl 0 (by decide) (hts _ wd_162) (fun _ h9 => h9) rfl d_Bounds_lowerFrom_18 ?_
      refine lv_iload_n hx hb d_Bounds_lowerFrom_21 rfl (lv_at hl1 1 rfl) ?_
      refine va_iald hx hb hK.1 hP 1 0 rfl rfl (vp_in_nI (by first | assumption | omega) (by decide)) d_Bounds_lowerFrom_22 ?_
      refine W.eq (g2 := F0 m 23 ls [.int (lv1 q1)]) (by rw [nI_clamp (by first | exact Nat.lt_of_lt_of_le (by assumption) (by decide) | exact Nat.lt_of_le_of_lt (by assumption) (by decide) | omega)]) ?_
      refine lv_aload_n hx hb d_Bounds_lowerFrom_23 rfl (lv_at hl1 0 rfl) ?_
      refine va_get (D := D) (ci := 0) (v := .ref b2) (C := R_Bounds) (T := F_Bounds) (N := 4) hx hb hts i_Bounds hown hK.1 hP 0 rfl rfl 1 (by decide) (hts _ wd_163) (fun _ h9 => h9) rfl d_Bounds_lowerFrom_24 ?_
      refine lv_iload_n hx hb d_Bounds_lowerFrom_27 rfl (lv_at hl1 3 rfl) ?_
      refine lv_iload hx hb d_Bounds_lowerFrom_28 (lv_at hl1 4 rfl) ?_
      refine lv_iadd hx hb d_Bounds_lowerFrom_30 ?_
      refine lv_topi (fun z_7 ez_7 => ?_)
      have ez_7 : z_7 = nI (11 * (q1) + t1) := ez_7.trans (nI_add (11 * (q1)) t1)
      subst ez_7
      refine va_iald hx hb hK.1 hP 2 0 rfl rfl (vp_in_nI (by first | assumption | omega) (by decide)) d_Bounds_lowerFrom_31 ?_
      refine W.eq (g2 := F0 m 32 ls [.int (mo (11 * (q1) + t1)), .int (lv1 q1)]) (by rw [nI_clamp (by first | exact Nat.lt_of_lt_of_le (by assumption) (by decide) | exact Nat.lt_of_le_of_lt (by assumption) (by decide) | omega)]) ?_
      refine lv_iadd hx hb d_Bounds_lowerFrom_32 ?_
      refine lv_topi (fun z_8 ez_8 => ?_)
      refine lv_istore (lv' := [(5, .int z_8), (0, .ref b0), (1, .int (nI q1)), (2, .int lo1), (3, .int (nI (11 * (q1)))), (4, .int (nI t1))]) hx hb d_Bounds_lowerFrom_33 hl1 (by decide) rfl (fun ls hl2 => ?_)
      clear hl1; have hl1 := hl2; clear hl2
      refine lv_iload hx hb d_Bounds_lowerFrom_35 (lv_at hl1 0 rfl) ?_
      refine lv_aload_n hx hb d_Bounds_lowerFrom_37 rfl (lv_at hl1 1 rfl) ?_
      refine va_get (D := D) (ci := 0) (v := .ref b1) (C := R_Bounds) (T := F_Bounds) (N := 4) hx hb hts i_Bounds hown hK.1 hP 0 rfl rfl 0 (by decide) (hts _ wd_162) (fun _ h9 => h9) rfl d_Bounds_lowerFrom_38 ?_
      refine lv_iload hx hb d_Bounds_lowerFrom_41 (lv_at hl1 5 rfl) ?_
      refine va_iald hx hb hK.1 hP 1 0 rfl rfl (vp_in_nI (by first | assumption | omega) (by decide)) d_Bounds_lowerFrom_43 ?_
      refine W.eq (g2 := F0 m 44 ls [.int (lv1 t1), .int z_8]) (by rw [nI_clamp (by first | exact Nat.lt_of_lt_of_le (by assumption) (by decide) | exact Nat.lt_of_le_of_lt (by assumption) (by decide) | omega)]) ?_
      refine lv_icmp_ge (tgt := 63) hx hb d_Bounds_lowerFrom_44 (by decide) (fun c_9 => ?_) (fun c_9 => ?_)
      · refine lv_iinc (v := nI (t1 + 1)) (lv' := [(4, .int (nI (t1 + 1))), (5, .int z_8), (0, .ref b0), (1, .int (nI q1)), (2, .int lo1), (3, .int (nI (11 * (q1))))]) hx hb d_Bounds_lowerFrom_63 hl1 (k := 5) rfl (nI_add t1 1) (by decide) rfl (fun ls hl2 => ?_)
        clear hl1; have hl1 := hl2; clear hl2
        refine lv_goto (tgt := 10) hx hb d_Bounds_lowerFrom_66 (by decide) ?_
        exact ih_4 (t1 + 1) lo1 lv1 (by first | assumption | omega) (by first | assumption | omega) (lwI8_n hW8 hq1 (by first | assumption | omega) hl8 hn8 h08 hw8 ez_8 (le8 (by assumption))) _ _ _ (hP.sub [0, 1, 2, 3] rfl) (hD.sub [0, 1, 2, 3] (by decide) rfl) hS (lv_sub hl1 [2, 3, 4, 5, 0] rfl)
      · refine lv_aload_n hx hb d_Bounds_lowerFrom_47 rfl (lv_at hl1 1 rfl) ?_
        refine va_get (D := D) (ci := 0) (v := .ref b1) (C := R_Bounds) (T := F_Bounds) (N := 4) hx hb hts i_Bounds hown hK.1 hP 0 rfl rfl 0 (by decide) (hts _ wd_162) (fun _ h9 => h9) rfl d_Bounds_lowerFrom_48 ?_
        refine lv_iload hx hb d_Bounds_lowerFrom_51 (lv_at hl1 5 rfl) ?_
        refine lv_iload hx hb d_Bounds_lowerFrom_53 (lv_at hl1 0 rfl) ?_
        refine va_iast hx hb hK.1 hP hD hS 1 0 rfl rfl (vp_in_nI (by first | assumption | omega) (by decide)) d_Bounds_lowerFrom_55 (fun H_10 locs hP1 hD1 hS1 => ?_)
        rw [nI_clamp (by first | exact Nat.lt_of_lt_of_le (by assumption) (by decide) | exact Nat.lt_of_le_of_lt (by assumption) (by decide) | omega)] at hP1 hD1
        clear hP hD hS
        have hS := hS1
        have hW7 : (fun w9 : va_W => va_P D classes w9 H_10 ∧ va_D A w9) [(b0, .inr (0, [.ref b1, .ref b2, .ref b3, .int (nI bn)])), (b1, .inl (ax 0, 11, .inl (upd lv1 t1 z_8))), (b2, .inl (ax 0, 121, .inl mo)), (b3, .inl (ax 0, 121, .inl (fun j => nI (bo j))))] := ⟨hP1, hD1⟩
        obtain ⟨hP, hD⟩ := hW7
        clear hP1 hD1 hS1
        refine lv_iload_n hx hb d_Bounds_lowerFrom_56 rfl (lv_at hl1 3 rfl) ?_
        refine lv_iconst (v := 1) hx hb d_Bounds_lowerFrom_57 (by decide) ?_
        refine lv_iload hx hb d_Bounds_lowerFrom_58 (lv_at hl1 5 rfl) ?_
        refine lv_ishl hx hb d_Bounds_lowerFrom_60 ?_
        refine lv_topi (fun z_11 ez_11 => ?_)
        refine lv_ior hx hb d_Bounds_lowerFrom_61 ?_
        refine lv_topi (fun z_12 ez_12 => ?_)
        refine lv_istore_n (lv' := [(2, .int z_12), (5, .int z_8), (0, .ref b0), (1, .int (nI q1)), (3, .int (nI (11 * (q1)))), (4, .int (nI t1))]) hx hb d_Bounds_lowerFrom_62 rfl hl1 (by decide) rfl (fun ls hl2 => ?_)
        clear hl1; have hl1 := hl2; clear hl2
        refine lv_iinc (v := nI (t1 + 1)) (lv' := [(4, .int (nI (t1 + 1))), (2, .int z_12), (5, .int z_8), (0, .ref b0), (1, .int (nI q1)), (3, .int (nI (11 * (q1))))]) hx hb d_Bounds_lowerFrom_63 hl1 (k := 5) rfl (nI_add t1 1) (by decide) rfl (fun ls hl2 => ?_)
        clear hl1; have hl1 := hl2; clear hl2
        refine lv_goto (tgt := 10) hx hb d_Bounds_lowerFrom_66 (by decide) ?_
        exact ih_4 (t1 + 1) z_12 (upd lv1 t1 z_8) (by first | assumption | omega) (by first | assumption | omega) (lwI8_y hW8 hq1 (by first | assumption | omega) hl8 hn8 h08 hw8 ez_8 (nl8 (by assumption)) ez_11 ez_12) _ _ _ (hP.sub [0, 1, 2, 3] rfl) (hD.sub [0, 1, 2, 3] (by decide) rfl) hS (lv_sub hl1 [3, 4, 1, 5, 0] rfl)
abbrev b_Bounds_settle : ByteArray := prog_2_method_6_code
def y_Bounds_settle : MethodName := ⟨R_Bounds, "settle", "(II)Z"⟩
theorem d_Bounds_settle_0 : decode b_Bounds_settle 0 = .ok (.iconst 1, 1) := by decide +kernel
theorem d_Bounds_settle_1 : decode b_Bounds_settle 1 = .ok (.iload_n 1, 1) := by decide +kernel
theorem d_Bounds_settle_2 : decode b_Bounds_settle 2 = .ok (.ishl, 1) := by decide +kernel
theorem d_Bounds_settle_3 : decode b_Bounds_settle 3 = .ok (.istore_n 3, 1) := by decide +kernel
theorem d_Bounds_settle_4 : decode b_Bounds_settle 4 = .ok (.iconst 0, 1) := by decide +kernel
theorem d_Bounds_settle_5 : decode b_Bounds_settle 5 = .ok (.istore 4, 2) := by decide +kernel
theorem d_Bounds_settle_7 : decode b_Bounds_settle 7 = .ok (.iload_n 3, 1) := by decide +kernel
theorem d_Bounds_settle_8 : decode b_Bounds_settle 8 = .ok (.ifCond .eq 66, 3) := by decide +kernel
theorem d_Bounds_settle_11 : decode b_Bounds_settle 11 = .ok (.iload 4, 2) := by decide +kernel
theorem d_Bounds_settle_13 : decode b_Bounds_settle 13 = .ok (.bipush 11, 2) := by decide +kernel
theorem d_Bounds_settle_15 : decode b_Bounds_settle 15 = .ok (.if_icmp .ge 59, 3) := by decide +kernel
theorem d_Bounds_settle_18 : decode b_Bounds_settle 18 = .ok (.iload_n 3, 1) := by decide +kernel
theorem d_Bounds_settle_19 : decode b_Bounds_settle 19 = .ok (.istore 5, 2) := by decide +kernel
theorem d_Bounds_settle_21 : decode b_Bounds_settle 21 = .ok (.iconst 0, 1) := by decide +kernel
theorem d_Bounds_settle_22 : decode b_Bounds_settle 22 = .ok (.istore_n 3, 1) := by decide +kernel
theorem d_Bounds_settle_23 : decode b_Bounds_settle 23 = .ok (.iconst 0, 1) := by decide +kernel
theorem d_Bounds_settle_24 : decode b_Bounds_settle 24 = .ok (.istore 6, 2) := by decide +kernel
theorem d_Bounds_settle_26 : decode b_Bounds_settle 26 = .ok (.iload 6, 2) := by decide +kernel
theorem d_Bounds_settle_28 : decode b_Bounds_settle 28 = .ok (.bipush 11, 2) := by decide +kernel
theorem d_Bounds_settle_30 : decode b_Bounds_settle 30 = .ok (.if_icmp .ge 28, 3) := by decide +kernel
theorem d_Bounds_settle_33 : decode b_Bounds_settle 33 = .ok (.iload 5, 2) := by decide +kernel
theorem d_Bounds_settle_35 : decode b_Bounds_settle 35 = .ok (.iload 6, 2) := by decide +kernel
theorem d_Bounds_settle_37 : decode b_Bounds_settle 37 = .ok (.ishr, 1) := by decide +kernel
theorem d_Bounds_settle_38 : decode b_Bounds_settle 38 = .ok (.iconst 1, 1) := by decide +kernel
theorem d_Bounds_settle_39 : decode b_Bounds_settle 39 = .ok (.iand, 1) := by decide +kernel
theorem d_Bounds_settle_40 : decode b_Bounds_settle 40 = .ok (.ifCond .eq 12, 3) := by decide +kernel
theorem d_Bounds_settle_43 : decode b_Bounds_settle 43 = .ok (.iload_n 3, 1) := by decide +kernel
theorem d_Bounds_settle_44 : decode b_Bounds_settle 44 = .ok (.aload_n 0, 1) := by decide +kernel
theorem d_Bounds_settle_45 : decode b_Bounds_settle 45 = .ok (.iload 6, 2) := by decide +kernel
theorem d_Bounds_settle_47 : decode b_Bounds_settle 47 = .ok (.invokevirtual 40, 3) := by decide +kernel
theorem d_Bounds_settle_50 : decode b_Bounds_settle 50 = .ok (.ior, 1) := by decide +kernel
theorem d_Bounds_settle_51 : decode b_Bounds_settle 51 = .ok (.istore_n 3, 1) := by decide +kernel
theorem d_Bounds_settle_52 : decode b_Bounds_settle 52 = .ok (.iinc 6 1, 3) := by decide +kernel
theorem d_Bounds_settle_55 : decode b_Bounds_settle 55 = .ok (.goto (-29), 3) := by decide +kernel
theorem d_Bounds_settle_58 : decode b_Bounds_settle 58 = .ok (.iload_n 3, 1) := by decide +kernel
theorem d_Bounds_settle_59 : decode b_Bounds_settle 59 = .ok (.iload_n 2, 1) := by decide +kernel
theorem d_Bounds_settle_60 : decode b_Bounds_settle 60 = .ok (.ishr, 1) := by decide +kernel
theorem d_Bounds_settle_61 : decode b_Bounds_settle 61 = .ok (.iconst 1, 1) := by decide +kernel
theorem d_Bounds_settle_62 : decode b_Bounds_settle 62 = .ok (.iand, 1) := by decide +kernel
theorem d_Bounds_settle_63 : decode b_Bounds_settle 63 = .ok (.ifCond .eq 5, 3) := by decide +kernel
theorem d_Bounds_settle_66 : decode b_Bounds_settle 66 = .ok (.iconst 0, 1) := by decide +kernel
theorem d_Bounds_settle_67 : decode b_Bounds_settle 67 = .ok (.ireturn, 1) := by decide +kernel
theorem d_Bounds_settle_68 : decode b_Bounds_settle 68 = .ok (.iinc 4 1, 3) := by decide +kernel
theorem d_Bounds_settle_71 : decode b_Bounds_settle 71 = .ok (.goto (-64), 3) := by decide +kernel
theorem d_Bounds_settle_74 : decode b_Bounds_settle 74 = .ok (.iload_n 3, 1) := by decide +kernel
theorem d_Bounds_settle_75 : decode b_Bounds_settle 75 = .ok (.ifCond .ne 7, 3) := by decide +kernel
theorem d_Bounds_settle_78 : decode b_Bounds_settle 78 = .ok (.iconst 1, 1) := by decide +kernel
theorem d_Bounds_settle_79 : decode b_Bounds_settle 79 = .ok (.goto 4, 3) := by decide +kernel
theorem d_Bounds_settle_82 : decode b_Bounds_settle 82 = .ok (.iconst 0, 1) := by decide +kernel
theorem d_Bounds_settle_83 : decode b_Bounds_settle 83 = .ok (.ireturn, 1) := by decide +kernel
set_option maxHeartbeats 40000000 in
set_option maxRecDepth 100000 in
theorem c_B_settle (l : Launch) (D : va_G) (ax : Nat → ClassId) (b0 b1 b2 b3 bn : Nat) (lv mo : Nat → Int32) (bo : Nat → Nat) (q1 q2 : Nat) (sz : Nat) (hq1 : q1 ≤ 10) (hq2 : q2 ≤ 10) (hW8 : moW8 mo) (hst : stA8 mo q1 q2 lv) (hl8 : lo8 lv 11) : Met l y_Bounds_settle (xws (.code y_Bounds_settle b_Bounds_settle 7 (some .boolean))) ({ frames := 20, cells := 0, slots := 0, locals := 800 }) (va_Pc [.ref b0, .int (nI q1), .int (nI q2)] (xo D ax [(b0, .inr (0, [.ref b1, .ref b2, .ref b3, .int (nI bn)])), (b1, .inl (ax 0, 11, .inl lv)), (b2, .inl (ax 0, 121, .inl mo)), (b3, .inl (ax 0, 121, .inl (fun j => nI (bo j))))] sz)) ((va_Qi (fun (r : Int32) (u : Nat → Nat) => r = nI (u 0) ∧ (u 0 ≤ 1)) (fun (u : Nat → Nat) (t9 : State) => ∃ xlv : Nat → Int32, (stQ8 mo xlv (u 0)) ∧ va_P D classes [(b0, .inr (0, [.ref b1, .ref b2, .ref b3, .int (nI bn)])), (b1, .inl (ax 0, 11, .inl xlv)), (b2, .inl (ax 0, 121, .inl mo)), (b3, .inl (ax 0, 121, .inl (fun j => nI (bo j))))] t9.heap ∧ va_D (va_A [(b0, .inr (0, [.ref b1, .ref b2, .ref b3, .int (nI bn)])), (b1, .inl (ax 0, 11, .inl lv)), (b2, .inl (ax 0, 121, .inl mo)), (b3, .inl (ax 0, 121, .inl (fun j => nI (bo j))))] sz) [(b0, .inr (0, [.ref b1, .ref b2, .ref b3, .int (nI bn)])), (b1, .inl (ax 0, 11, .inl xlv)), (b2, .inl (ax 0, 121, .inl mo)), (b3, .inl (ax 0, 121, .inl (fun j => nI (bo j))))]) (va_A [(b0, .inr (0, [.ref b1, .ref b2, .ref b3, .int (nI bn)])), (b1, .inl (ax 0, 11, .inl lv)), (b2, .inl (ax 0, 121, .inl mo)), (b3, .inl (ax 0, 121, .inl (fun j => nI (bo j))))] sz))) 0 0 (va_A [(b0, .inr (0, [.ref b1, .ref b2, .ref b3, .int (nI bn)])), (b1, .inl (ax 0, 11, .inl lv)), (b2, .inl (ax 0, 121, .inl mo)), (b3, .inl (ax 0, 121, .inl (fun j => nI (bo j))))] sz) := by
  refine Met.ofW (cc := b_Bounds_settle) (maxL := 7) (ret := (some .boolean)) (by decide) rfl ?_
  intro p e s m args below meth c s₁ B hml hv
  obtain ⟨rfl, hsz, hP, hK, hD0⟩ := hv
  have hx := B.exec
  have hb := B.bytes
  have hr := B.returns
  have hts := xw_hts B.pre
  have hown : s.vm.findClass R_Bounds = some m.cls := findClass_of_methodNamed B.named
  have hlocks := B.notSynchronized
  subst hsz
  have hD := hD0.self (sz := s.heap.size)
  have hN := xz_entry hP
  generalize hAe : va_A [(b0, .inr (0, [.ref b1, .ref b2, .ref b3, .int (nI bn)])), (b1, .inl (ax 0, 11, .inl lv)), (b2, .inl (ax 0, 121, .inl mo)), (b3, .inl (ax 0, 121, .inl (fun j => nI (bo j))))] s.heap.size = A at hD hN ⊢
  have hA : ∀ q : Nat, s.heap.size ≤ q → A q := fun q h => by rw [← hAe]; exact Or.inr h
  have hS : va_S A s.heap s.heap [] := va_S.rf
  have hl0 := lv_entry ([.ref b0, .int (nI q1), .int (nI q2)]) (n := 7) (Nat.le_of_ble_eq_true rfl)
  rw [lg_entry_eq]
  generalize (lg_sl ([.ref b0, .int (nI q1), .int (nI q2)]) ++ List.replicate (7 - (lg_sl ([.ref b0, .int (nI q1), .int (nI q2)])).length) Slot.unset).toArray = ls at hl0 ⊢
  have hl1 : lv_has ls 7 [(0, .ref b0), (1, .int (nI q1)), (2, .int (nI q2))] := hl0
  refine xw_gen (fun Z9 hQe => ?_)
  refine lv_iconst (v := 1) hx hb d_Bounds_settle_0 (by decide) ?_
  refine lv_iload_n hx hb d_Bounds_settle_1 rfl (lv_at hl1 1 rfl) ?_
  refine lv_ishl hx hb d_Bounds_settle_2 ?_
  refine lv_topi (fun z_1 ez_1 => ?_)
  refine lv_istore_n (lv' := [(3, .int z_1), (0, .ref b0), (1, .int (nI q1)), (2, .int (nI q2))]) hx hb d_Bounds_settle_3 rfl hl1 (by decide) rfl (fun ls hl2 => ?_)
  clear hl1; have hl1 := hl2; clear hl2
  refine lv_iconst (v := 0) hx hb d_Bounds_settle_4 (by decide) ?_
  refine lv_istore (lv' := [(4, .int 0), (3, .int z_1), (0, .ref b0), (1, .int (nI q1)), (2, .int (nI q2))]) hx hb d_Bounds_settle_5 hl1 (by decide) rfl (fun ls hl2 => ?_)
  clear hl1; have hl1 := hl2; clear hl2
  suffices key_2 : ∀ (k : Nat) (p1 : Nat) (lo1 : Int32) (lv1 : Nat → Int32), 11 - p1 < k → p1 ≤ 11 → stP8 mo q2 lo1 lv1 p1 → lo8 lv1 (11 + 11 * p1) → ∀ (H : Heap) (locs : List Loc) (ls : Array Slot), va_P D classes [(b0, .inr (0, [.ref b1, .ref b2, .ref b3, .int (nI bn)])), (b1, .inl (ax 0, 11, .inl lv1)), (b2, .inl (ax 0, 121, .inl mo)), (b3, .inl (ax 0, 121, .inl (fun j => nI (bo j))))] H → va_D A [(b0, .inr (0, [.ref b1, .ref b2, .ref b3, .int (nI bn)])), (b1, .inl (ax 0, 11, .inl lv1)), (b2, .inl (ax 0, 121, .inl mo)), (b3, .inl (ax 0, 121, .inl (fun j => nI (bo j))))] → va_S A s.heap H locs → lv_has ls 7 [(0, .ref b0), (1, .int (nI q1)), (2, .int (nI q2)), (3, .int lo1), (4, .int (nI p1))] → W p l e (headSpec (xws (.code y_Bounds_settle b_Bounds_settle 7 (some .boolean))) ({ frames := 20, cells := 0, slots := 0, locals := 800 })).room s m ([.ref b0, .int (nI q1), .int (nI q2)] : List Value).toArray below meth c H locs 0 0 Z9 (F0 m 7 ls []) from key_2 (11 - 0 + 1) 0 z_1 lv (Nat.lt_succ_self _) (by first | assumption | omega) (stP8_0 hst hq1 hq2 ez_1) (hl8.up (by first | assumption | omega)) _ _ _ (hP) (hD) hS (lv_sub hl1 [2, 3, 4, 1, 0] rfl)
  intro k_3
  induction k_3 with
  | zero =>
    intro p1 lo1 lv1 hk_5
    exact absurd hk_5 (Nat.not_lt_zero _)
  | succ k_3 ih_4 =>
    clear hP hD hS hl1
    intro p1 lo1 lv1 hk_5 hp1 hp8 hl18 H locs ls hP hD hS hl1
    refine lv_iload_n hx hb d_Bounds_settle_7 rfl (lv_at hl1 3 rfl) ?_
    refine lv_if_eq (tgt := 74) hx hb d_Bounds_settle_8 (by decide) (fun c_6 => ?_) (fun c_6 => ?_)
    · refine lv_iload_n hx hb d_Bounds_settle_74 rfl (lv_at hl1 3 rfl) ?_
      refine lv_if_ne (tgt := 82) hx hb d_Bounds_settle_75 (by decide) (fun c_7 => ?_) (fun c_7 => ?_)
      · refine lv_iconst (v := 0) hx hb d_Bounds_settle_82 (by decide) ?_
        rw [← hQe]
        obtain ⟨hP9, hD9⟩ := xw_sub2 (wc := (fun (u : Nat → Nat) (xlv : Nat → Int32) => [(b0, .inr (0, [.ref b1, .ref b2, .ref b3, .int (nI bn)])), (b1, .inl (ax 0, 11, .inl xlv)), (b2, .inl (ax 0, 121, .inl mo)), (b3, .inl (ax 0, 121, .inl (fun j => nI (bo j))))]) (ixn [0]) lv1) hP hD [0, 1, 2, 3] (by decide) rfl
        have hex0 : stQ8 mo lv1 (0) := (by first | exact stQ8_n hp8 (by assumption) (by first | assumption | omega) | exact absurd (show lo1 = 0 by assumption) (by assumption))
        have hsp0 : 0 ≤ 1 := (by first | assumption | omega)
        exact W.zret (v := 0) hx hb hr rfl (fun t ht hW => ⟨⟨0, ixn [0], rfl, ⟨rfl, hsp0⟩, ⟨lv1, hex0, by rw [ht]; exact hP9, hD9⟩⟩, hS.F ht⟩) hS.2.2 d_Bounds_settle_83
      · refine lv_iconst (v := 1) hx hb d_Bounds_settle_78 (by decide) ?_
        refine lv_goto (tgt := 83) hx hb d_Bounds_settle_79 (by decide) ?_
        rw [← hQe]
        obtain ⟨hP9, hD9⟩ := xw_sub2 (wc := (fun (u : Nat → Nat) (xlv : Nat → Int32) => [(b0, .inr (0, [.ref b1, .ref b2, .ref b3, .int (nI bn)])), (b1, .inl (ax 0, 11, .inl xlv)), (b2, .inl (ax 0, 121, .inl mo)), (b3, .inl (ax 0, 121, .inl (fun j => nI (bo j))))]) (ixn [1]) lv1) hP hD [0, 1, 2, 3] (by decide) rfl
        have hex0 : stQ8 mo lv1 (1) := (stQ8_y hp8 (by assumption))
        have hsp0 : 1 ≤ 1 := (by first | assumption | omega)
        exact W.zret (v := 1) hx hb hr rfl (fun t ht hW => ⟨⟨1, ixn [1], rfl, ⟨rfl, hsp0⟩, ⟨lv1, hex0, by rw [ht]; exact hP9, hD9⟩⟩, hS.F ht⟩) hS.2.2 d_Bounds_settle_83
    · refine lv_iload hx hb d_Bounds_settle_11 (lv_at hl1 4 rfl) ?_
      refine lv_bipush (v := 11) hx hb d_Bounds_settle_13 (by decide) ?_
      refine lv_icmp_ge (tgt := 74) hx hb d_Bounds_settle_15 (by decide) (fun c_8 => ?_) (fun c_8 => ?_)
      · replace c_8 : 11 ≤ p1 := (nI_leI (a := 11) (b := p1) (by decide) (by first | exact Nat.lt_of_lt_of_le (by assumption) (by decide) | exact Nat.lt_of_le_of_lt (by assumption) (by decide) | omega)).mp c_8
        refine lv_iload_n hx hb d_Bounds_settle_74 rfl (lv_at hl1 3 rfl) ?_
        refine lv_if_ne (tgt := 82) hx hb d_Bounds_settle_75 (by decide) (fun c_9 => ?_) (fun c_9 => ?_)
        · refine lv_iconst (v := 0) hx hb d_Bounds_settle_82 (by decide) ?_
          rw [← hQe]
          obtain ⟨hP9, hD9⟩ := xw_sub2 (wc := (fun (u : Nat → Nat) (xlv : Nat → Int32) => [(b0, .inr (0, [.ref b1, .ref b2, .ref b3, .int (nI bn)])), (b1, .inl (ax 0, 11, .inl xlv)), (b2, .inl (ax 0, 121, .inl mo)), (b3, .inl (ax 0, 121, .inl (fun j => nI (bo j))))]) (ixn [0]) lv1) hP hD [0, 1, 2, 3] (by decide) rfl
          have hex0 : stQ8 mo lv1 (0) := (by first | exact stQ8_n hp8 (by assumption) (by first | assumption | omega) | exact absurd (show lo1 = 0 by assumption) (by assumption))
          have hsp0 : 0 ≤ 1 := (by first | assumption | omega)
          exact W.zret (v := 0) hx hb hr rfl (fun t ht hW => ⟨⟨0, ixn [0], rfl, ⟨rfl, hsp0⟩, ⟨lv1, hex0, by rw [ht]; exact hP9, hD9⟩⟩, hS.F ht⟩) hS.2.2 d_Bounds_settle_83
        · refine lv_iconst (v := 1) hx hb d_Bounds_settle_78 (by decide) ?_
          refine lv_goto (tgt := 83) hx hb d_Bounds_settle_79 (by decide) ?_
          rw [← hQe]
          obtain ⟨hP9, hD9⟩ := xw_sub2 (wc := (fun (u : Nat → Nat) (xlv : Nat → Int32) => [(b0, .inr (0, [.ref b1, .ref b2, .ref b3, .int (nI bn)])), (b1, .inl (ax 0, 11, .inl xlv)), (b2, .inl (ax 0, 121, .inl mo)), (b3, .inl (ax 0, 121, .inl (fun j => nI (bo j))))]) (ixn [1]) lv1) hP hD [0, 1, 2, 3] (by decide) rfl
          have hex0 : stQ8 mo lv1 (1) := (stQ8_y hp8 (by assumption))
          have hsp0 : 1 ≤ 1 := (by first | assumption | omega)
          exact W.zret (v := 1) hx hb hr rfl (fun t ht hW => ⟨⟨1, ixn [1], rfl, ⟨rfl, hsp0⟩, ⟨lv1, hex0, by rw [ht]; exact hP9, hD9⟩⟩, hS.F ht⟩) hS.2.2 d_Bounds_settle_83
      · replace c_8 : ¬ 11 ≤ p1 := fun hq9 => c_8 ((nI_leI (a := 11) (b := p1) (by decide) (by first | exact Nat.lt_of_lt_of_le (by assumption) (by decide) | exact Nat.lt_of_le_of_lt (by assumption) (by decide) | omega)).mpr hq9)
        refine lv_iload_n hx hb d_Bounds_settle_18 rfl (lv_at hl1 3 rfl) ?_
        refine lv_istore (lv' := [(5, .int lo1), (0, .ref b0), (1, .int (nI q1)), (2, .int (nI q2)), (3, .int lo1), (4, .int (nI p1))]) hx hb d_Bounds_settle_19 hl1 (by decide) rfl (fun ls hl2 => ?_)
        clear hl1; have hl1 := hl2; clear hl2
        refine lv_iconst (v := 0) hx hb d_Bounds_settle_21 (by decide) ?_
        refine lv_istore_n (lv' := [(3, .int 0), (5, .int lo1), (0, .ref b0), (1, .int (nI q1)), (2, .int (nI q2)), (4, .int (nI p1))]) hx hb d_Bounds_settle_22 rfl hl1 (by decide) rfl (fun ls hl2 => ?_)
        clear hl1; have hl1 := hl2; clear hl2
        refine lv_iconst (v := 0) hx hb d_Bounds_settle_23 (by decide) ?_
        refine lv_istore (lv' := [(6, .int 0), (3, .int 0), (5, .int lo1), (0, .ref b0), (1, .int (nI q1)), (2, .int (nI q2)), (4, .int (nI p1))]) hx hb d_Bounds_settle_24 hl1 (by decide) rfl (fun ls hl2 => ?_)
        clear hl1; have hl1 := hl2; clear hl2
        suffices key_10 : ∀ (k : Nat) (w1 : Nat) (lo2 : Int32) (lv2 : Nat → Int32), 11 - w1 < k → w1 ≤ 11 → stI8 mo lo1 lv1 lo2 lv2 w1 → lo8 lv2 (11 + 11 * p1 + w1) → ∀ (H : Heap) (locs : List Loc) (ls : Array Slot), va_P D classes [(b0, .inr (0, [.ref b1, .ref b2, .ref b3, .int (nI bn)])), (b1, .inl (ax 0, 11, .inl lv2)), (b2, .inl (ax 0, 121, .inl mo)), (b3, .inl (ax 0, 121, .inl (fun j => nI (bo j))))] H → va_D A [(b0, .inr (0, [.ref b1, .ref b2, .ref b3, .int (nI bn)])), (b1, .inl (ax 0, 11, .inl lv2)), (b2, .inl (ax 0, 121, .inl mo)), (b3, .inl (ax 0, 121, .inl (fun j => nI (bo j))))] → va_S A s.heap H locs → lv_has ls 7 [(0, .ref b0), (1, .int (nI q1)), (2, .int (nI q2)), (3, .int lo2), (4, .int (nI p1)), (5, .int lo1), (6, .int (nI w1))] → W p l e (headSpec (xws (.code y_Bounds_settle b_Bounds_settle 7 (some .boolean))) ({ frames := 20, cells := 0, slots := 0, locals := 800 })).room s m ([.ref b0, .int (nI q1), .int (nI q2)] : List Value).toArray below meth c H locs 0 0 Z9 (F0 m 26 ls []) from key_10 (11 - 0 + 1) 0 0 lv1 (Nat.lt_succ_self _) (by first | assumption | omega) (stI8_0 hp8) (hl18.up (by first | assumption | omega)) _ _ _ (hP) (hD) hS (lv_sub hl1 [3, 4, 5, 1, 6, 2, 0] rfl)
        intro k_11
        induction k_11 with
        | zero =>
          intro w1 lo2 lv2 hk_13
          exact absurd hk_13 (Nat.not_lt_zero _)
        | succ k_11 ih_12 =>
          clear hP hD hS hl1
          intro w1 lo2 lv2 hk_13 hw1 hi8 hl28 H locs ls hP hD hS hl1
          refine lv_iload hx hb d_Bounds_settle_26 (lv_at hl1 6 rfl) ?_
          refine lv_bipush (v := 11) hx hb d_Bounds_settle_28 (by decide) ?_
          refine lv_icmp_ge (tgt := 58) hx hb d_Bounds_settle_30 (by decide) (fun c_14 => ?_) (fun c_14 => ?_)
          · replace c_14 : 11 ≤ w1 := (nI_leI (a := 11) (b := w1) (by decide) (by first | exact Nat.lt_of_lt_of_le (by assumption) (by decide) | exact Nat.lt_of_le_of_lt (by assumption) (by decide) | omega)).mp c_14
            refine lv_iload_n hx hb d_Bounds_settle_58 rfl (lv_at hl1 3 rfl) ?_
            refine lv_iload_n hx hb d_Bounds_settle_59 rfl (lv_at hl1 2 rfl) ?_
            refine lv_ishr hx hb d_Bounds_settle_60 ?_
            refine lv_topi (fun z_15 ez_15 => ?_)
            refine lv_iconst (v := 1) hx hb d_Bounds_settle_61 (by decide) ?_
            refine lv_iand hx hb d_Bounds_settle_62 ?_
            refine lv_topi (fun z_16 ez_16 => ?_)
            refine lv_if_eq (tgt := 68) hx hb d_Bounds_settle_63 (by decide) (fun c_17 => ?_) (fun c_17 => ?_)
            · refine lv_iinc (v := nI (p1 + 1)) (lv' := [(4, .int (nI (p1 + 1))), (0, .ref b0), (1, .int (nI q1)), (2, .int (nI q2)), (3, .int lo2), (5, .int lo1), (6, .int (nI w1))]) hx hb d_Bounds_settle_68 hl1 (k := 4) rfl (nI_add p1 1) (by decide) rfl (fun ls hl2 => ?_)
              clear hl1; have hl1 := hl2; clear hl2
              refine lv_goto (tgt := 7) hx hb d_Bounds_settle_71 (by decide) ?_
              exact ih_4 (p1 + 1) lo2 lv2 (by first | assumption | omega) (by first | assumption | omega) (stP8_nx hp8 (by assumption) hq2 hi8 (by first | assumption | omega) ((bt8_ts (by first | assumption | omega) ez_15 ez_16).mp (by assumption))) (hl28.up (by first | assumption | omega)) _ _ _ (hP.sub [0, 1, 2, 3] rfl) (hD.sub [0, 1, 2, 3] (by decide) rfl) hS (lv_sub hl1 [1, 2, 3, 4, 0] rfl)
            · refine lv_iconst (v := 0) hx hb d_Bounds_settle_66 (by decide) ?_
              rw [← hQe]
              obtain ⟨hP9, hD9⟩ := xw_sub2 (wc := (fun (u : Nat → Nat) (xlv : Nat → Int32) => [(b0, .inr (0, [.ref b1, .ref b2, .ref b3, .int (nI bn)])), (b1, .inl (ax 0, 11, .inl xlv)), (b2, .inl (ax 0, 121, .inl mo)), (b3, .inl (ax 0, 121, .inl (fun j => nI (bo j))))]) (ixn [0]) lv2) hP hD [0, 1, 2, 3] (by decide) rfl
              have hex0 : stQ8 mo lv2 (0) := (stQ8_f hp8 hq2 hi8 (Classical.byContradiction (fun q => absurd ((bt8_ts (by first | assumption | omega) ez_15 ez_16).mpr q) (by assumption))))
              have hsp0 : 0 ≤ 1 := (by first | assumption | omega)
              exact W.zret (v := 0) hx hb hr rfl (fun t ht hW => ⟨⟨0, ixn [0], rfl, ⟨rfl, hsp0⟩, ⟨lv2, hex0, by rw [ht]; exact hP9, hD9⟩⟩, hS.F ht⟩) hS.2.2 d_Bounds_settle_67
          · replace c_14 : ¬ 11 ≤ w1 := fun hq9 => c_14 ((nI_leI (a := 11) (b := w1) (by decide) (by first | exact Nat.lt_of_lt_of_le (by assumption) (by decide) | exact Nat.lt_of_le_of_lt (by assumption) (by decide) | omega)).mpr hq9)
            refine lv_iload hx hb d_Bounds_settle_33 (lv_at hl1 5 rfl) ?_
            refine lv_iload hx hb d_Bounds_settle_35 (lv_at hl1 6 rfl) ?_
            refine lv_ishr hx hb d_Bounds_settle_37 ?_
            refine lv_topi (fun z_18 ez_18 => ?_)
            refine lv_iconst (v := 1) hx hb d_Bounds_settle_38 (by decide) ?_
            refine lv_iand hx hb d_Bounds_settle_39 ?_
            refine lv_topi (fun z_19 ez_19 => ?_)
            refine lv_if_eq (tgt := 52) hx hb d_Bounds_settle_40 (by decide) (fun c_20 => ?_) (fun c_20 => ?_)
            · refine lv_iinc (v := nI (w1 + 1)) (lv' := [(6, .int (nI (w1 + 1))), (0, .ref b0), (1, .int (nI q1)), (2, .int (nI q2)), (3, .int lo2), (4, .int (nI p1)), (5, .int lo1)]) hx hb d_Bounds_settle_52 hl1 (k := 6) rfl (nI_add w1 1) (by decide) rfl (fun ls hl2 => ?_)
              clear hl1; have hl1 := hl2; clear hl2
              refine lv_goto (tgt := 26) hx hb d_Bounds_settle_55 (by decide) ?_
              exact ih_12 (w1 + 1) lo2 lv2 (by first | assumption | omega) (by first | assumption | omega) (stI8_n hi8 ((bt8_ts (by first | assumption | omega) ez_18 ez_19).mp (by assumption))) (hl28.up (by first | assumption | omega)) _ _ _ (hP.sub [0, 1, 2, 3] rfl) (hD.sub [0, 1, 2, 3] (by decide) rfl) hS (lv_sub hl1 [1, 2, 3, 4, 5, 6, 0] rfl)
            · refine lv_iload_n hx hb d_Bounds_settle_43 rfl (lv_at hl1 3 rfl) ?_
              refine lv_aload_n hx hb d_Bounds_settle_44 rfl (lv_at hl1 0 rfl) ?_
              refine lv_iload hx hb d_Bounds_settle_45 (lv_at hl1 6 rfl) ?_
              obtain ⟨hPc, hDc, hFc, hCs⟩ := xw_sub3 (wc := [(b0, .inr (0, [.ref b1, .ref b2, .ref b3, .int (nI bn)])), (b1, .inl (ax 0, 11, .inl lv2)), (b2, .inl (ax 0, 121, .inl mo)), (b3, .inl (ax 0, 121, .inl (fun j => nI (bo j))))]) hP hD hS hA [0, 1, 2, 3] (by decide) rfl
              have hz := xz_of hN hS
              refine va_calli (va_runV (As := [.int (nI w1)]) (rest := [.int lo2]) ⟨hx, hb, hml, hown, hts⟩ (c_B_lowerFrom l D ax b0 b1 b2 b3 bn lv2 mo bo w1 (11 + 11 * p1 + w1) H.size (by first | assumption | omega) hW8 hl28 (by first | assumption | omega) hi8.1.1) (xcV (n := 1) hts wd_862 wd_7 wd_859 wd_861 ps_38 rfl rfl (by decide +kernel) ⟨Nat.le_of_ble_eq_true rfl, Nat.le_of_ble_eq_true rfl⟩) (xpV (ci := 0) (q0 := 0) (As := [.int (nI w1)]) hPc hK hz hDc rfl rfl) rfl rfl hl1.1 rfl (lv_room (Nat.le_of_ble_eq_true rfl)) d_Bounds_settle_47 ⟨Nat.le_of_ble_eq_true rfl, Nat.le_of_ble_eq_true rfl⟩) hS (fun q _ h => hFc q h) hFc (fun r_23 u_21 t H_22 locs ht hvm hw hB hz1 hk1 hS1 => ?_)
              try dsimp only at hw
              obtain ⟨hw, hs_24⟩ := hw
              subst hw
              obtain ⟨x_25, hx_26, hP1, hD1⟩ := hB
              rw [ht] at hP1
              have hjn := xw_join3 (wl := [(b0, .inr (0, [.ref b1, .ref b2, .ref b3, .int (nI bn)])), (b1, .inl (ax 0, 11, .inl x_25)), (b2, .inl (ax 0, 121, .inl mo)), (b3, .inl (ax 0, 121, .inl (fun j => nI (bo j))))]) hP hD [0, 1, 2, 3] [] hCs (by decide) (by decide) hk1 hFc hP1 hD1 rfl
              clear hP1 hD1
              clear hPc hDc hFc hCs hz hz1 hk1 ht hvm
              clear hP hD hS
              have hS := hS1
              obtain ⟨hP, hD⟩ := hjn
              clear hS1
              obtain ⟨vd_27, evd_27⟩ : ∃ y : Int32, y = nI (u_21 0) := ⟨_, rfl⟩
              refine W.eq (g2 := F0 m 50 ls [.int vd_27, .int lo2]) (by rw [evd_27]) ?_
              refine lv_ior hx hb d_Bounds_settle_50 ?_
              refine lv_topi (fun z_28 ez_28 => ?_)
              refine lv_istore_n (lv' := [(3, .int z_28), (0, .ref b0), (1, .int (nI q1)), (2, .int (nI q2)), (4, .int (nI p1)), (5, .int lo1), (6, .int (nI w1))]) hx hb d_Bounds_settle_51 rfl hl1 (by decide) rfl (fun ls hl2 => ?_)
              clear hl1; have hl1 := hl2; clear hl2
              refine lv_iinc (v := nI (w1 + 1)) (lv' := [(6, .int (nI (w1 + 1))), (3, .int z_28), (0, .ref b0), (1, .int (nI q1)), (2, .int (nI q2)), (4, .int (nI p1)), (5, .int lo1)]) hx hb d_Bounds_settle_52 hl1 (k := 6) rfl (nI_add w1 1) (by decide) rfl (fun ls hl2 => ?_)
              clear hl1; have hl1 := hl2; clear hl2
              refine lv_goto (tgt := 26) hx hb d_Bounds_settle_55 (by decide) ?_
              exact ih_12 (w1 + 1) z_28 x_25 (by first | assumption | omega) (by first | assumption | omega) (stI8_y hi8 (by first | assumption | omega) (by rw [evd_27]; exact hx_26) ez_28) ((hx_26.dn hW8 (by first | assumption | omega) hl28).up (by first | assumption | omega)) _ _ _ (hP.sub [0, 1, 2, 3] rfl) (hD.sub [0, 1, 2, 3] (by decide) rfl) hS (lv_sub hl1 [2, 3, 4, 1, 5, 6, 0] rfl)
abbrev b_Bounds_bind : ByteArray := prog_2_method_5_code
def y_Bounds_bind : MethodName := ⟨R_Bounds, "bind", "(III)Z"⟩
theorem d_Bounds_bind_0 : decode b_Bounds_bind 0 = .ok (.iload_n 1, 1) := by decide +kernel
theorem d_Bounds_bind_1 : decode b_Bounds_bind 1 = .ok (.iload_n 2, 1) := by decide +kernel
theorem d_Bounds_bind_2 : decode b_Bounds_bind 2 = .ok (.if_icmp .ne 13, 3) := by decide +kernel
theorem d_Bounds_bind_5 : decode b_Bounds_bind 5 = .ok (.iload_n 3, 1) := by decide +kernel
theorem d_Bounds_bind_6 : decode b_Bounds_bind 6 = .ok (.ifCond .lt 7, 3) := by decide +kernel
theorem d_Bounds_bind_9 : decode b_Bounds_bind 9 = .ok (.iconst 1, 1) := by decide +kernel
theorem d_Bounds_bind_10 : decode b_Bounds_bind 10 = .ok (.goto 4, 3) := by decide +kernel
theorem d_Bounds_bind_13 : decode b_Bounds_bind 13 = .ok (.iconst 0, 1) := by decide +kernel
theorem d_Bounds_bind_14 : decode b_Bounds_bind 14 = .ok (.ireturn, 1) := by decide +kernel
theorem d_Bounds_bind_15 : decode b_Bounds_bind 15 = .ok (.bipush 11, 2) := by decide +kernel
theorem d_Bounds_bind_17 : decode b_Bounds_bind 17 = .ok (.iload_n 2, 1) := by decide +kernel
theorem d_Bounds_bind_18 : decode b_Bounds_bind 18 = .ok (.imul, 1) := by decide +kernel
theorem d_Bounds_bind_19 : decode b_Bounds_bind 19 = .ok (.iload_n 1, 1) := by decide +kernel
theorem d_Bounds_bind_20 : decode b_Bounds_bind 20 = .ok (.iadd, 1) := by decide +kernel
theorem d_Bounds_bind_21 : decode b_Bounds_bind 21 = .ok (.istore 4, 2) := by decide +kernel
theorem d_Bounds_bind_23 : decode b_Bounds_bind 23 = .ok (.iload_n 3, 1) := by decide +kernel
theorem d_Bounds_bind_24 : decode b_Bounds_bind 24 = .ok (.aload_n 0, 1) := by decide +kernel
theorem d_Bounds_bind_25 : decode b_Bounds_bind 25 = .ok (.getfield 15, 3) := by decide +kernel
theorem d_Bounds_bind_28 : decode b_Bounds_bind 28 = .ok (.iload 4, 2) := by decide +kernel
theorem d_Bounds_bind_30 : decode b_Bounds_bind 30 = .ok (.iaload, 1) := by decide +kernel
theorem d_Bounds_bind_31 : decode b_Bounds_bind 31 = .ok (.if_icmp .lt 5, 3) := by decide +kernel
theorem d_Bounds_bind_34 : decode b_Bounds_bind 34 = .ok (.iconst 1, 1) := by decide +kernel
theorem d_Bounds_bind_35 : decode b_Bounds_bind 35 = .ok (.ireturn, 1) := by decide +kernel
theorem d_Bounds_bind_36 : decode b_Bounds_bind 36 = .ok (.aload_n 0, 1) := by decide +kernel
theorem d_Bounds_bind_37 : decode b_Bounds_bind 37 = .ok (.getfield 15, 3) := by decide +kernel
theorem d_Bounds_bind_40 : decode b_Bounds_bind 40 = .ok (.iload 4, 2) := by decide +kernel
theorem d_Bounds_bind_42 : decode b_Bounds_bind 42 = .ok (.iaload, 1) := by decide +kernel
theorem d_Bounds_bind_43 : decode b_Bounds_bind 43 = .ok (.ldc 21, 2) := by decide +kernel
theorem d_Bounds_bind_45 : decode b_Bounds_bind 45 = .ok (.if_icmp .ne 24, 3) := by decide +kernel
theorem d_Bounds_bind_48 : decode b_Bounds_bind 48 = .ok (.aload_n 0, 1) := by decide +kernel
theorem d_Bounds_bind_49 : decode b_Bounds_bind 49 = .ok (.getfield 18, 3) := by decide +kernel
theorem d_Bounds_bind_52 : decode b_Bounds_bind 52 = .ok (.aload_n 0, 1) := by decide +kernel
theorem d_Bounds_bind_53 : decode b_Bounds_bind 53 = .ok (.getfield 28, 3) := by decide +kernel
theorem d_Bounds_bind_56 : decode b_Bounds_bind 56 = .ok (.iload 4, 2) := by decide +kernel
theorem d_Bounds_bind_58 : decode b_Bounds_bind 58 = .ok (.iastore, 1) := by decide +kernel
theorem d_Bounds_bind_59 : decode b_Bounds_bind 59 = .ok (.aload_n 0, 1) := by decide +kernel
theorem d_Bounds_bind_60 : decode b_Bounds_bind 60 = .ok (.dup, 1) := by decide +kernel
theorem d_Bounds_bind_61 : decode b_Bounds_bind 61 = .ok (.getfield 28, 3) := by decide +kernel
theorem d_Bounds_bind_64 : decode b_Bounds_bind 64 = .ok (.iconst 1, 1) := by decide +kernel
theorem d_Bounds_bind_65 : decode b_Bounds_bind 65 = .ok (.iadd, 1) := by decide +kernel
theorem d_Bounds_bind_66 : decode b_Bounds_bind 66 = .ok (.putfield 28, 3) := by decide +kernel
theorem d_Bounds_bind_69 : decode b_Bounds_bind 69 = .ok (.aload_n 0, 1) := by decide +kernel
theorem d_Bounds_bind_70 : decode b_Bounds_bind 70 = .ok (.getfield 15, 3) := by decide +kernel
theorem d_Bounds_bind_73 : decode b_Bounds_bind 73 = .ok (.iload 4, 2) := by decide +kernel
theorem d_Bounds_bind_75 : decode b_Bounds_bind 75 = .ok (.iload_n 3, 1) := by decide +kernel
theorem d_Bounds_bind_76 : decode b_Bounds_bind 76 = .ok (.iastore, 1) := by decide +kernel
theorem d_Bounds_bind_77 : decode b_Bounds_bind 77 = .ok (.aload_n 0, 1) := by decide +kernel
theorem d_Bounds_bind_78 : decode b_Bounds_bind 78 = .ok (.getfield 9, 3) := by decide +kernel
theorem d_Bounds_bind_81 : decode b_Bounds_bind 81 = .ok (.iload_n 1, 1) := by decide +kernel
theorem d_Bounds_bind_82 : decode b_Bounds_bind 82 = .ok (.iaload, 1) := by decide +kernel
theorem d_Bounds_bind_83 : decode b_Bounds_bind 83 = .ok (.aload_n 0, 1) := by decide +kernel
theorem d_Bounds_bind_84 : decode b_Bounds_bind 84 = .ok (.getfield 9, 3) := by decide +kernel
theorem d_Bounds_bind_87 : decode b_Bounds_bind 87 = .ok (.iload_n 2, 1) := by decide +kernel
theorem d_Bounds_bind_88 : decode b_Bounds_bind 88 = .ok (.iaload, 1) := by decide +kernel
theorem d_Bounds_bind_89 : decode b_Bounds_bind 89 = .ok (.iload_n 3, 1) := by decide +kernel
theorem d_Bounds_bind_90 : decode b_Bounds_bind 90 = .ok (.iadd, 1) := by decide +kernel
theorem d_Bounds_bind_91 : decode b_Bounds_bind 91 = .ok (.if_icmp .gt 5, 3) := by decide +kernel
theorem d_Bounds_bind_94 : decode b_Bounds_bind 94 = .ok (.iconst 1, 1) := by decide +kernel
theorem d_Bounds_bind_95 : decode b_Bounds_bind 95 = .ok (.ireturn, 1) := by decide +kernel
theorem d_Bounds_bind_96 : decode b_Bounds_bind 96 = .ok (.aload_n 0, 1) := by decide +kernel
theorem d_Bounds_bind_97 : decode b_Bounds_bind 97 = .ok (.getfield 9, 3) := by decide +kernel
theorem d_Bounds_bind_100 : decode b_Bounds_bind 100 = .ok (.iload_n 1, 1) := by decide +kernel
theorem d_Bounds_bind_101 : decode b_Bounds_bind 101 = .ok (.aload_n 0, 1) := by decide +kernel
theorem d_Bounds_bind_102 : decode b_Bounds_bind 102 = .ok (.getfield 9, 3) := by decide +kernel
theorem d_Bounds_bind_105 : decode b_Bounds_bind 105 = .ok (.iload_n 2, 1) := by decide +kernel
theorem d_Bounds_bind_106 : decode b_Bounds_bind 106 = .ok (.iaload, 1) := by decide +kernel
theorem d_Bounds_bind_107 : decode b_Bounds_bind 107 = .ok (.iload_n 3, 1) := by decide +kernel
theorem d_Bounds_bind_108 : decode b_Bounds_bind 108 = .ok (.iadd, 1) := by decide +kernel
theorem d_Bounds_bind_109 : decode b_Bounds_bind 109 = .ok (.iastore, 1) := by decide +kernel
theorem d_Bounds_bind_110 : decode b_Bounds_bind 110 = .ok (.aload_n 0, 1) := by decide +kernel
theorem d_Bounds_bind_111 : decode b_Bounds_bind 111 = .ok (.iload_n 1, 1) := by decide +kernel
theorem d_Bounds_bind_112 : decode b_Bounds_bind 112 = .ok (.iload_n 2, 1) := by decide +kernel
theorem d_Bounds_bind_113 : decode b_Bounds_bind 113 = .ok (.invokevirtual 36, 3) := by decide +kernel
theorem d_Bounds_bind_116 : decode b_Bounds_bind 116 = .ok (.ireturn, 1) := by decide +kernel
set_option maxHeartbeats 40000000 in
set_option maxRecDepth 100000 in
theorem c_B_bind (l : Launch) (D : va_G) (ax : Nat → ClassId) (b0 b1 b2 b3 bn : Nat) (lv mo : Nat → Int32) (bo : Nat → Nat) (q1 q2 : Nat) (x3 : Int32) (sz : Nat) (hq1 : q1 ≤ 10) (hq2 : q2 ≤ 10) (hbv : bnv mo bo bn) (hW8 : moW8 mo) (hcv : bcv8 mo bo bn) (hg8 : grt8 (sol8 (mL8 mo)) (lI8 lv)) (hx38 : -50000 ≤ x3.toInt ∧ x3.toInt ≤ 50000) : Met l y_Bounds_bind (xws (.code y_Bounds_bind b_Bounds_bind 5 (some .boolean))) ({ frames := 30, cells := 0, slots := 0, locals := 1200 }) (va_Pc [.ref b0, .int (nI q1), .int (nI q2), .int x3] (xo D ax [(b0, .inr (0, [.ref b1, .ref b2, .ref b3, .int (nI bn)])), (b1, .inl (ax 0, 11, .inl lv)), (b2, .inl (ax 0, 121, .inl mo)), (b3, .inl (ax 0, 121, .inl (fun j => nI (bo j))))] sz)) ((va_Qi (fun (r : Int32) (u : Nat → Nat) => r = nI (u 1) ∧ (u 1 ≤ 1)) (fun (u : Nat → Nat) (t9 : State) => ∃ xlv : Nat → Int32, ∃ xmo : Nat → Int32, ∃ xbo : Nat → Nat, (bnv xmo xbo (u 0)) ∧ (bcv8 xmo xbo (u 0)) ∧ (moW8 xmo) ∧ (bnQ8 mo lv (fun v => v q1 ≤ v q2 + x3.toInt) xmo xlv (u 1)) ∧ va_P D classes [(b0, .inr (0, [.ref b1, .ref b2, .ref b3, .int (nI (u 0))])), (b1, .inl (ax 0, 11, .inl xlv)), (b2, .inl (ax 0, 121, .inl xmo)), (b3, .inl (ax 0, 121, .inl (fun j => nI (xbo j))))] t9.heap ∧ va_D (va_A [(b0, .inr (0, [.ref b1, .ref b2, .ref b3, .int (nI bn)])), (b1, .inl (ax 0, 11, .inl lv)), (b2, .inl (ax 0, 121, .inl mo)), (b3, .inl (ax 0, 121, .inl (fun j => nI (bo j))))] sz) [(b0, .inr (0, [.ref b1, .ref b2, .ref b3, .int (nI (u 0))])), (b1, .inl (ax 0, 11, .inl xlv)), (b2, .inl (ax 0, 121, .inl xmo)), (b3, .inl (ax 0, 121, .inl (fun j => nI (xbo j))))]) (va_A [(b0, .inr (0, [.ref b1, .ref b2, .ref b3, .int (nI bn)])), (b1, .inl (ax 0, 11, .inl lv)), (b2, .inl (ax 0, 121, .inl mo)), (b3, .inl (ax 0, 121, .inl (fun j => nI (bo j))))] sz))) 0 0 (va_A [(b0, .inr (0, [.ref b1, .ref b2, .ref b3, .int (nI bn)])), (b1, .inl (ax 0, 11, .inl lv)), (b2, .inl (ax 0, 121, .inl mo)), (b3, .inl (ax 0, 121, .inl (fun j => nI (bo j))))] sz) := by
  refine Met.ofW (cc := b_Bounds_bind) (maxL := 5) (ret := (some .boolean)) (by decide) rfl ?_
  intro p e s m args below meth c s₁ B hml hv
  obtain ⟨rfl, hsz, hP, hK, hD0⟩ := hv
  have hx := B.exec
  have hb := B.bytes
  have hr := B.returns
  have hts := xw_hts B.pre
  have hown : s.vm.findClass R_Bounds = some m.cls := findClass_of_methodNamed B.named
  have hlocks := B.notSynchronized
  subst hsz
  have hD := hD0.self (sz := s.heap.size)
  have hN := xz_entry hP
  generalize hAe : va_A [(b0, .inr (0, [.ref b1, .ref b2, .ref b3, .int (nI bn)])), (b1, .inl (ax 0, 11, .inl lv)), (b2, .inl (ax 0, 121, .inl mo)), (b3, .inl (ax 0, 121, .inl (fun j => nI (bo j))))] s.heap.size = A at hD hN ⊢
  have hA : ∀ q : Nat, s.heap.size ≤ q → A q := fun q h => by rw [← hAe]; exact Or.inr h
  have hS : va_S A s.heap s.heap [] := va_S.rf
  have hl0 := lv_entry ([.ref b0, .int (nI q1), .int (nI q2), .int x3]) (n := 5) (Nat.le_of_ble_eq_true rfl)
  rw [lg_entry_eq]
  generalize (lg_sl ([.ref b0, .int (nI q1), .int (nI q2), .int x3]) ++ List.replicate (5 - (lg_sl ([.ref b0, .int (nI q1), .int (nI q2), .int x3])).length) Slot.unset).toArray = ls at hl0 ⊢
  have hl1 : lv_has ls 5 [(0, .ref b0), (1, .int (nI q1)), (2, .int (nI q2)), (3, .int x3)] := hl0
  refine xw_gen (fun Z9 hQe => ?_)
  refine lv_iload_n hx hb d_Bounds_bind_0 rfl (lv_at hl1 1 rfl) ?_
  refine lv_iload_n hx hb d_Bounds_bind_1 rfl (lv_at hl1 2 rfl) ?_
  refine lv_icmp_ne (tgt := 15) hx hb d_Bounds_bind_2 (by decide) (fun c_1 => ?_) (fun c_1 => ?_)
  · replace c_1 : ¬ q1 = q2 := fun hq9 => c_1 ((nI_eq (a := q1) (b := q2) (by first | exact Nat.lt_of_lt_of_le (by assumption) (by decide) | exact Nat.lt_of_le_of_lt (by assumption) (by decide) | omega) (by first | exact Nat.lt_of_lt_of_le (by assumption) (by decide) | exact Nat.lt_of_le_of_lt (by assumption) (by decide) | omega)).mpr hq9)
    refine lv_bipush (v := 11) hx hb d_Bounds_bind_15 (by decide) ?_
    refine lv_iload_n hx hb d_Bounds_bind_17 rfl (lv_at hl1 2 rfl) ?_
    refine lv_imul hx hb d_Bounds_bind_18 ?_
    refine lv_topi (fun z_2 ez_2 => ?_)
    have ez_2 : z_2 = nI (11 * q2) := ez_2.trans (pk_mul 11 q2)
    subst ez_2
    refine lv_iload_n hx hb d_Bounds_bind_19 rfl (lv_at hl1 1 rfl) ?_
    refine lv_iadd hx hb d_Bounds_bind_20 ?_
    refine lv_topi (fun z_3 ez_3 => ?_)
    have ez_3 : z_3 = nI (11 * q2 + q1) := ez_3.trans (nI_add (11 * q2) q1)
    subst ez_3
    refine lv_istore (lv' := [(4, .int (nI (11 * q2 + q1))), (0, .ref b0), (1, .int (nI q1)), (2, .int (nI q2)), (3, .int x3)]) hx hb d_Bounds_bind_21 hl1 (by decide) rfl (fun ls hl2 => ?_)
    clear hl1; have hl1 := hl2; clear hl2
    refine lv_iload_n hx hb d_Bounds_bind_23 rfl (lv_at hl1 4 rfl) ?_
    refine lv_aload_n hx hb d_Bounds_bind_24 rfl (lv_at hl1 1 rfl) ?_
    refine va_get (D := D) (ci := 0) (v := .ref b2) (C := R_Bounds) (T := F_Bounds) (N := 4) hx hb hts i_Bounds hown hK.1 hP 0 rfl rfl 1 (by decide) (hts _ wd_163) (fun _ h9 => h9) rfl d_Bounds_bind_25 ?_
    refine lv_iload hx hb d_Bounds_bind_28 (lv_at hl1 0 rfl) ?_
    refine va_iald hx hb hK.1 hP 2 0 rfl rfl (vp_in_nI (by first | assumption | omega) (by decide)) d_Bounds_bind_30 ?_
    refine W.eq (g2 := F0 m 31 ls [.int (mo (11 * q2 + q1)), .int x3]) (by rw [nI_clamp (by first | exact Nat.lt_of_lt_of_le (by assumption) (by decide) | exact Nat.lt_of_le_of_lt (by assumption) (by decide) | omega)]) ?_
    refine lv_icmp_lt (tgt := 36) hx hb d_Bounds_bind_31 (by decide) (fun c_4 => ?_) (fun c_4 => ?_)
    · refine lv_aload_n hx hb d_Bounds_bind_36 rfl (lv_at hl1 1 rfl) ?_
      refine va_get (D := D) (ci := 0) (v := .ref b2) (C := R_Bounds) (T := F_Bounds) (N := 4) hx hb hts i_Bounds hown hK.1 hP 0 rfl rfl 1 (by decide) (hts _ wd_163) (fun _ h9 => h9) rfl d_Bounds_bind_37 ?_
      refine lv_iload hx hb d_Bounds_bind_40 (lv_at hl1 0 rfl) ?_
      refine va_iald hx hb hK.1 hP 2 0 rfl rfl (vp_in_nI (by first | assumption | omega) (by decide)) d_Bounds_bind_42 ?_
      refine W.eq (g2 := F0 m 43 ls [.int (mo (11 * q2 + q1))]) (by rw [nI_clamp (by first | exact Nat.lt_of_lt_of_le (by assumption) (by decide) | exact Nat.lt_of_le_of_lt (by assumption) (by decide) | omega)]) ?_
      refine lv_ldc (v := 268435456) hx hb hown (hts _ wd_158) d_Bounds_bind_43 ?_
      refine lv_icmp_ne (tgt := 69) hx hb d_Bounds_bind_45 (by decide) (fun c_5 => ?_) (fun c_5 => ?_)
      · have hbv2 := hbv.od (i := 11 * (q2) + q1) (v := x3) (by assumption) (by assumption)
        have hcv2 := hcv.od (k := 11 * q2 + q1) (c := x3) (by first | assumption | omega) (by assumption)
        have hW82 := hW8.up hq1 hq2 (by first | assumption | omega) hx38
        refine lv_aload_n hx hb d_Bounds_bind_69 rfl (lv_at hl1 1 rfl) ?_
        refine va_get (D := D) (ci := 0) (v := .ref b2) (C := R_Bounds) (T := F_Bounds) (N := 4) hx hb hts i_Bounds hown hK.1 hP 0 rfl rfl 1 (by decide) (hts _ wd_163) (fun _ h9 => h9) rfl d_Bounds_bind_70 ?_
        refine lv_iload hx hb d_Bounds_bind_73 (lv_at hl1 0 rfl) ?_
        refine lv_iload_n hx hb d_Bounds_bind_75 rfl (lv_at hl1 4 rfl) ?_
        refine va_iast hx hb hK.1 hP hD hS 2 0 rfl rfl (vp_in_nI (by first | assumption | omega) (by decide)) d_Bounds_bind_76 (fun H_6 locs hP1 hD1 hS1 => ?_)
        rw [nI_clamp (by first | exact Nat.lt_of_lt_of_le (by assumption) (by decide) | exact Nat.lt_of_le_of_lt (by assumption) (by decide) | omega)] at hP1 hD1
        clear hP hD hS
        have hS := hS1
        have hW7 : (fun w9 : va_W => va_P D classes w9 H_6 ∧ va_D A w9) [(b0, .inr (0, [.ref b1, .ref b2, .ref b3, .int (nI bn)])), (b1, .inl (ax 0, 11, .inl lv)), (b2, .inl (ax 0, 121, .inl (upd mo (11 * q2 + q1) x3))), (b3, .inl (ax 0, 121, .inl (fun j => nI (bo j))))] := ⟨hP1, hD1⟩
        obtain ⟨hP, hD⟩ := hW7
        clear hP1 hD1 hS1
        refine lv_aload_n hx hb d_Bounds_bind_77 rfl (lv_at hl1 1 rfl) ?_
        refine va_get (D := D) (ci := 0) (v := .ref b1) (C := R_Bounds) (T := F_Bounds) (N := 4) hx hb hts i_Bounds hown hK.1 hP 0 rfl rfl 0 (by decide) (hts _ wd_162) (fun _ h9 => h9) rfl d_Bounds_bind_78 ?_
        refine lv_iload_n hx hb d_Bounds_bind_81 rfl (lv_at hl1 2 rfl) ?_
        refine va_iald hx hb hK.1 hP 1 0 rfl rfl (vp_in_nI (by first | assumption | omega) (by decide)) d_Bounds_bind_82 ?_
        refine W.eq (g2 := F0 m 83 ls [.int (lv q1)]) (by rw [nI_clamp (by first | exact Nat.lt_of_lt_of_le (by assumption) (by decide) | exact Nat.lt_of_le_of_lt (by assumption) (by decide) | omega)]) ?_
        refine lv_aload_n hx hb d_Bounds_bind_83 rfl (lv_at hl1 1 rfl) ?_
        refine va_get (D := D) (ci := 0) (v := .ref b1) (C := R_Bounds) (T := F_Bounds) (N := 4) hx hb hts i_Bounds hown hK.1 hP 0 rfl rfl 0 (by decide) (hts _ wd_162) (fun _ h9 => h9) rfl d_Bounds_bind_84 ?_
        refine lv_iload_n hx hb d_Bounds_bind_87 rfl (lv_at hl1 3 rfl) ?_
        refine va_iald hx hb hK.1 hP 1 0 rfl rfl (vp_in_nI (by first | assumption | omega) (by decide)) d_Bounds_bind_88 ?_
        refine W.eq (g2 := F0 m 89 ls [.int (lv q2), .int (lv q1)]) (by rw [nI_clamp (by first | exact Nat.lt_of_lt_of_le (by assumption) (by decide) | exact Nat.lt_of_le_of_lt (by assumption) (by decide) | omega)]) ?_
        refine lv_iload_n hx hb d_Bounds_bind_89 rfl (lv_at hl1 4 rfl) ?_
        refine lv_iadd hx hb d_Bounds_bind_90 ?_
        refine lv_topi (fun z_7 ez_7 => ?_)
        refine lv_icmp_gt (tgt := 96) hx hb d_Bounds_bind_91 (by decide) (fun c_8 => ?_) (fun c_8 => ?_)
        · refine lv_aload_n hx hb d_Bounds_bind_96 rfl (lv_at hl1 1 rfl) ?_
          refine va_get (D := D) (ci := 0) (v := .ref b1) (C := R_Bounds) (T := F_Bounds) (N := 4) hx hb hts i_Bounds hown hK.1 hP 0 rfl rfl 0 (by decide) (hts _ wd_162) (fun _ h9 => h9) rfl d_Bounds_bind_97 ?_
          refine lv_iload_n hx hb d_Bounds_bind_100 rfl (lv_at hl1 2 rfl) ?_
          refine lv_aload_n hx hb d_Bounds_bind_101 rfl (lv_at hl1 1 rfl) ?_
          refine va_get (D := D) (ci := 0) (v := .ref b1) (C := R_Bounds) (T := F_Bounds) (N := 4) hx hb hts i_Bounds hown hK.1 hP 0 rfl rfl 0 (by decide) (hts _ wd_162) (fun _ h9 => h9) rfl d_Bounds_bind_102 ?_
          refine lv_iload_n hx hb d_Bounds_bind_105 rfl (lv_at hl1 3 rfl) ?_
          refine va_iald hx hb hK.1 hP 1 0 rfl rfl (vp_in_nI (by first | assumption | omega) (by decide)) d_Bounds_bind_106 ?_
          refine W.eq (g2 := F0 m 107 ls [.int (lv q2), .int (nI q1), .ref b1]) (by rw [nI_clamp (by first | exact Nat.lt_of_lt_of_le (by assumption) (by decide) | exact Nat.lt_of_le_of_lt (by assumption) (by decide) | omega)]) ?_
          refine lv_iload_n hx hb d_Bounds_bind_107 rfl (lv_at hl1 4 rfl) ?_
          refine lv_iadd hx hb d_Bounds_bind_108 ?_
          refine lv_topi (fun z_9 ez_9 => ?_)
          refine va_iast hx hb hK.1 hP hD hS 1 0 rfl rfl (vp_in_nI (by first | assumption | omega) (by decide)) d_Bounds_bind_109 (fun H_10 locs hP1 hD1 hS1 => ?_)
          rw [nI_clamp (by first | exact Nat.lt_of_lt_of_le (by assumption) (by decide) | exact Nat.lt_of_le_of_lt (by assumption) (by decide) | omega)] at hP1 hD1
          clear hP hD hS
          have hS := hS1
          have hW7 : (fun w9 : va_W => va_P D classes w9 H_10 ∧ va_D A w9) [(b0, .inr (0, [.ref b1, .ref b2, .ref b3, .int (nI bn)])), (b1, .inl (ax 0, 11, .inl (upd lv q1 z_9))), (b2, .inl (ax 0, 121, .inl (upd mo (11 * q2 + q1) x3))), (b3, .inl (ax 0, 121, .inl (fun j => nI (bo j))))] := ⟨hP1, hD1⟩
          obtain ⟨hP, hD⟩ := hW7
          clear hP1 hD1 hS1
          obtain ⟨hst8, hl88⟩ := stA8_of hW8 hg8 hq1 hq2 (by first | assumption | omega) hx38 (by assumption) ez_7 (by assumption) ez_9
          refine lv_aload_n hx hb d_Bounds_bind_110 rfl (lv_at hl1 1 rfl) ?_
          refine lv_iload_n hx hb d_Bounds_bind_111 rfl (lv_at hl1 2 rfl) ?_
          refine lv_iload_n hx hb d_Bounds_bind_112 rfl (lv_at hl1 3 rfl) ?_
          obtain ⟨hPc, hDc, hFc, hCs⟩ := xw_sub3 (wc := [(b0, .inr (0, [.ref b1, .ref b2, .ref b3, .int (nI bn)])), (b1, .inl (ax 0, 11, .inl (upd lv q1 z_9))), (b2, .inl (ax 0, 121, .inl (upd mo (11 * q2 + q1) x3))), (b3, .inl (ax 0, 121, .inl (fun j => nI (bo j))))]) hP hD hS hA [0, 1, 2, 3] (by decide) rfl
          have hz := xz_of hN hS
          refine va_calli (va_runV (As := [.int (nI q1), .int (nI q2)]) (rest := []) ⟨hx, hb, hml, hown, hts⟩ (c_B_settle l D ax b0 b1 b2 b3 bn (upd lv q1 z_9) (upd mo (11 * q2 + q1) x3) bo q1 q2 H_10.size (by first | assumption | omega) (by first | assumption | omega) hW82 hst8 hl88) (xcV (n := 2) hts wd_858 wd_7 wd_855 wd_857 ps_37 rfl rfl (by decide +kernel) ⟨Nat.le_of_ble_eq_true rfl, Nat.le_of_ble_eq_true rfl⟩) (xpV (ci := 0) (q0 := 0) (As := [.int (nI q1), .int (nI q2)]) hPc hK hz hDc rfl rfl) rfl rfl hl1.1 rfl (lv_room (Nat.le_of_ble_eq_true rfl)) d_Bounds_bind_113 ⟨Nat.le_of_ble_eq_true rfl, Nat.le_of_ble_eq_true rfl⟩) hS (fun q _ h => hFc q h) hFc (fun r_13 u_11 t H_12 locs ht hvm hw hB hz1 hk1 hS1 => ?_)
          try dsimp only at hw
          obtain ⟨hw, hs_14⟩ := hw
          subst hw
          obtain ⟨x_15, hx_16, hP1, hD1⟩ := hB
          rw [ht] at hP1
          have hjn := xw_join3 (wl := [(b0, .inr (0, [.ref b1, .ref b2, .ref b3, .int (nI bn)])), (b1, .inl (ax 0, 11, .inl x_15)), (b2, .inl (ax 0, 121, .inl (upd mo (11 * q2 + q1) x3))), (b3, .inl (ax 0, 121, .inl (fun j => nI (bo j))))]) hP hD [0, 1, 2, 3] [] hCs (by decide) (by decide) hk1 hFc hP1 hD1 rfl
          clear hP1 hD1
          clear hPc hDc hFc hCs hz hz1 hk1 ht hvm
          clear hP hD hS
          have hS := hS1
          obtain ⟨hP, hD⟩ := hjn
          clear hS1
          rw [← hQe]
          obtain ⟨hP9, hD9⟩ := xw_sub2 (wc := (fun (u : Nat → Nat) (xlv : Nat → Int32) (xmo : Nat → Int32) (xbo : Nat → Nat) => [(b0, .inr (0, [.ref b1, .ref b2, .ref b3, .int (nI (u 0))])), (b1, .inl (ax 0, 11, .inl xlv)), (b2, .inl (ax 0, 121, .inl xmo)), (b3, .inl (ax 0, 121, .inl (fun j => nI (xbo j))))]) (ixn [bn, (u_11 0)]) x_15 (upd mo (11 * q2 + q1) x3) bo) hP hD [0, 1, 2, 3] (by decide) rfl
          have hex0 : bnv (upd mo (11 * q2 + q1) x3) bo (bn) := hbv2
          have hex1 : bcv8 (upd mo (11 * q2 + q1) x3) bo (bn) := hcv2
          have hex2 : moW8 (upd mo (11 * q2 + q1) x3) := hW82
          have hex3 : bnQ8 mo lv (fun v => v q1 ≤ v q2 + x3.toInt) (upd mo (11 * q2 + q1) x3) x_15 ((u_11 0)) := (bnQ8_t hW8 hq1 hq2 (by first | assumption | omega) hx38 (by assumption) hx_16)
          have hsp0 : (u_11 0) ≤ 1 := (by first | assumption | omega)
          exact W.zret (v := nI (u_11 0)) hx hb hr (nI_bool (by first | assumption | omega)) (fun t ht hW => ⟨⟨nI (u_11 0), ixn [bn, (u_11 0)], rfl, ⟨rfl, hsp0⟩, ⟨x_15, (upd mo (11 * q2 + q1) x3), bo, hex0, hex1, hex2, hex3, by rw [ht]; exact hP9, hD9⟩⟩, hS.F ht⟩) hS.2.2 d_Bounds_bind_116
        · refine lv_iconst (v := 1) hx hb d_Bounds_bind_94 (by decide) ?_
          rw [← hQe]
          obtain ⟨hP9, hD9⟩ := xw_sub2 (wc := (fun (u : Nat → Nat) (xlv : Nat → Int32) (xmo : Nat → Int32) (xbo : Nat → Nat) => [(b0, .inr (0, [.ref b1, .ref b2, .ref b3, .int (nI (u 0))])), (b1, .inl (ax 0, 11, .inl xlv)), (b2, .inl (ax 0, 121, .inl xmo)), (b3, .inl (ax 0, 121, .inl (fun j => nI (xbo j))))]) (ixn [bn, 1]) lv (upd mo (11 * q2 + q1) x3) bo) hP hD [0, 1, 2, 3] (by decide) rfl
          have hex0 : bnv (upd mo (11 * q2 + q1) x3) bo (bn) := hbv2
          have hex1 : bcv8 (upd mo (11 * q2 + q1) x3) bo (bn) := hcv2
          have hex2 : moW8 (upd mo (11 * q2 + q1) x3) := hW82
          have hex3 : bnQ8 mo lv (fun v => v q1 ≤ v q2 + x3.toInt) (upd mo (11 * q2 + q1) x3) lv (1) := (bnQ8_k hW8 hg8 hq1 hq2 (by first | assumption | omega) hx38 (by assumption) ez_7 (by assumption))
          have hsp0 : 1 ≤ 1 := (by first | assumption | omega)
          exact W.zret (v := 1) hx hb hr rfl (fun t ht hW => ⟨⟨1, ixn [bn, 1], rfl, ⟨rfl, hsp0⟩, ⟨lv, (upd mo (11 * q2 + q1) x3), bo, hex0, hex1, hex2, hex3, by rw [ht]; exact hP9, hD9⟩⟩, hS.F ht⟩) hS.2.2 d_Bounds_bind_95
      · have hlt := hbv.lt (i := 11 * (q2) + q1) (by first | assumption | omega) (by assumption)
        refine lv_aload_n hx hb d_Bounds_bind_48 rfl (lv_at hl1 1 rfl) ?_
        refine va_get (D := D) (ci := 0) (v := .ref b3) (C := R_Bounds) (T := F_Bounds) (N := 4) hx hb hts i_Bounds hown hK.1 hP 0 rfl rfl 2 (by decide) (hts _ wd_164) (fun _ h9 => h9) rfl d_Bounds_bind_49 ?_
        refine lv_aload_n hx hb d_Bounds_bind_52 rfl (lv_at hl1 1 rfl) ?_
        refine va_get (D := D) (ci := 0) (v := .int (nI bn)) (C := R_Bounds) (T := F_Bounds) (N := 4) hx hb hts i_Bounds hown hK.1 hP 0 rfl rfl 3 (by decide) (hts _ wd_165) (fun _ h9 => h9) rfl d_Bounds_bind_53 ?_
        refine lv_iload hx hb d_Bounds_bind_56 (lv_at hl1 0 rfl) ?_
        refine va_iast hx hb hK.1 hP hD hS 3 0 rfl rfl (vp_in_nI (by first | assumption | omega) (by decide)) d_Bounds_bind_58 (fun H_17 locs hP1 hD1 hS1 => ?_)
        rw [nI_clamp (by first | exact Nat.lt_of_lt_of_le (by assumption) (by decide) | exact Nat.lt_of_le_of_lt (by assumption) (by decide) | omega)] at hP1 hD1
        rw [xf_sup bo bn (11 * q2 + q1)] at hP1 hD1
        clear hP hD hS
        have hS := hS1
        have hW7 : (fun w9 : va_W => va_P D classes w9 H_17 ∧ va_D A w9) [(b0, .inr (0, [.ref b1, .ref b2, .ref b3, .int (nI bn)])), (b1, .inl (ax 0, 11, .inl lv)), (b2, .inl (ax 0, 121, .inl mo)), (b3, .inl (ax 0, 121, .inl (fun j => nI (sup bo bn (11 * q2 + q1) j))))] := ⟨hP1, hD1⟩
        obtain ⟨hP, hD⟩ := hW7
        clear hP1 hD1 hS1
        refine lv_aload_n hx hb d_Bounds_bind_59 rfl (lv_at hl1 1 rfl) ?_
        refine lv_dup hx hb d_Bounds_bind_60 rfl ?_
        refine va_get (D := D) (ci := 0) (v := .int (nI bn)) (C := R_Bounds) (T := F_Bounds) (N := 4) hx hb hts i_Bounds hown hK.1 hP 0 rfl rfl 3 (by decide) (hts _ wd_165) (fun _ h9 => h9) rfl d_Bounds_bind_61 ?_
        refine lv_iconst (v := 1) hx hb d_Bounds_bind_64 (by decide) ?_
        refine lv_iadd hx hb d_Bounds_bind_65 ?_
        refine lv_topi (fun z_18 ez_18 => ?_)
        have ez_18 : z_18 = nI (bn + 1) := ez_18.trans (nI_add bn 1)
        subst ez_18
        refine va_put (D := D) (ci := 0) (v := .int (nI (bn + 1))) (ty := .int) (C := R_Bounds) (T := F_Bounds) (N := 4) hx hb hts i_Bounds t_Bounds t_Bounds_ok n_Bounds hown hK.1 hP hD hS 0 rfl rfl 3 (by decide) (hts _ wd_165) (fun _ h9 => h9) rfl (by decide +kernel) rfl rfl (Nat.le_of_ble_eq_true rfl) d_Bounds_bind_66 (fun H_19 locs hP1 hD1 hS1 => ?_)
        clear hP hD hS
        have hS := hS1
        have hW7 : (fun w9 : va_W => va_P D classes w9 H_19 ∧ va_D A w9) [(b0, .inr (0, [.ref b1, .ref b2, .ref b3, .int (nI (bn + 1))])), (b1, .inl (ax 0, 11, .inl lv)), (b2, .inl (ax 0, 121, .inl mo)), (b3, .inl (ax 0, 121, .inl (fun j => nI (sup bo bn (11 * q2 + q1) j))))] := ⟨hP1, hD1⟩
        obtain ⟨hP, hD⟩ := hW7
        clear hP1 hD1 hS1
        have hbv2 := hbv.nw (i := 11 * (q2) + q1) (v := x3) (by first | assumption | omega) (by assumption) (by assumption)
        have hcv2 := hcv.nw (k := 11 * q2 + q1) (c := x3)
        have hW82 := hW8.up hq1 hq2 (by first | assumption | omega) hx38
        refine lv_aload_n hx hb d_Bounds_bind_69 rfl (lv_at hl1 1 rfl) ?_
        refine va_get (D := D) (ci := 0) (v := .ref b2) (C := R_Bounds) (T := F_Bounds) (N := 4) hx hb hts i_Bounds hown hK.1 hP 0 rfl rfl 1 (by decide) (hts _ wd_163) (fun _ h9 => h9) rfl d_Bounds_bind_70 ?_
        refine lv_iload hx hb d_Bounds_bind_73 (lv_at hl1 0 rfl) ?_
        refine lv_iload_n hx hb d_Bounds_bind_75 rfl (lv_at hl1 4 rfl) ?_
        refine va_iast hx hb hK.1 hP hD hS 2 0 rfl rfl (vp_in_nI (by first | assumption | omega) (by decide)) d_Bounds_bind_76 (fun H_20 locs hP1 hD1 hS1 => ?_)
        rw [nI_clamp (by first | exact Nat.lt_of_lt_of_le (by assumption) (by decide) | exact Nat.lt_of_le_of_lt (by assumption) (by decide) | omega)] at hP1 hD1
        clear hP hD hS
        have hS := hS1
        have hW7 : (fun w9 : va_W => va_P D classes w9 H_20 ∧ va_D A w9) [(b0, .inr (0, [.ref b1, .ref b2, .ref b3, .int (nI (bn + 1))])), (b1, .inl (ax 0, 11, .inl lv)), (b2, .inl (ax 0, 121, .inl (upd mo (11 * q2 + q1) x3))), (b3, .inl (ax 0, 121, .inl (fun j => nI (sup bo bn (11 * q2 + q1) j))))] := ⟨hP1, hD1⟩
        obtain ⟨hP, hD⟩ := hW7
        clear hP1 hD1 hS1
        refine lv_aload_n hx hb d_Bounds_bind_77 rfl (lv_at hl1 1 rfl) ?_
        refine va_get (D := D) (ci := 0) (v := .ref b1) (C := R_Bounds) (T := F_Bounds) (N := 4) hx hb hts i_Bounds hown hK.1 hP 0 rfl rfl 0 (by decide) (hts _ wd_162) (fun _ h9 => h9) rfl d_Bounds_bind_78 ?_
        refine lv_iload_n hx hb d_Bounds_bind_81 rfl (lv_at hl1 2 rfl) ?_
        refine va_iald hx hb hK.1 hP 1 0 rfl rfl (vp_in_nI (by first | assumption | omega) (by decide)) d_Bounds_bind_82 ?_
        refine W.eq (g2 := F0 m 83 ls [.int (lv q1)]) (by rw [nI_clamp (by first | exact Nat.lt_of_lt_of_le (by assumption) (by decide) | exact Nat.lt_of_le_of_lt (by assumption) (by decide) | omega)]) ?_
        refine lv_aload_n hx hb d_Bounds_bind_83 rfl (lv_at hl1 1 rfl) ?_
        refine va_get (D := D) (ci := 0) (v := .ref b1) (C := R_Bounds) (T := F_Bounds) (N := 4) hx hb hts i_Bounds hown hK.1 hP 0 rfl rfl 0 (by decide) (hts _ wd_162) (fun _ h9 => h9) rfl d_Bounds_bind_84 ?_
        refine lv_iload_n hx hb d_Bounds_bind_87 rfl (lv_at hl1 3 rfl) ?_
        refine va_iald hx hb hK.1 hP 1 0 rfl rfl (vp_in_nI (by first | assumption | omega) (by decide)) d_Bounds_bind_88 ?_
        refine W.eq (g2 := F0 m 89 ls [.int (lv q2), .int (lv q1)]) (by rw [nI_clamp (by first | exact Nat.lt_of_lt_of_le (by assumption) (by decide) | exact Nat.lt_of_le_of_lt (by assumption) (by decide) | omega)]) ?_
        refine lv_iload_n hx hb d_Bounds_bind_89 rfl (lv_at hl1 4 rfl) ?_
        refine lv_iadd hx hb d_Bounds_bind_90 ?_
        refine lv_topi (fun z_21 ez_21 => ?_)
        refine lv_icmp_gt (tgt := 96) hx hb d_Bounds_bind_91 (by decide) (fun c_22 => ?_) (fun c_22 => ?_)
        · refine lv_aload_n hx hb d_Bounds_bind_96 rfl (lv_at hl1 1 rfl) ?_
          refine va_get (D := D) (ci := 0) (v := .ref b1) (C := R_Bounds) (T := F_Bounds) (N := 4) hx hb hts i_Bounds hown hK.1 hP 0 rfl rfl 0 (by decide) (hts _ wd_162) (fun _ h9 => h9) rfl d_Bounds_bind_97 ?_
          refine lv_iload_n hx hb d_Bounds_bind_100 rfl (lv_at hl1 2 rfl) ?_
          refine lv_aload_n hx hb d_Bounds_bind_101 rfl (lv_at hl1 1 rfl) ?_
          refine va_get (D := D) (ci := 0) (v := .ref b1) (C := R_Bounds) (T := F_Bounds) (N := 4) hx hb hts i_Bounds hown hK.1 hP 0 rfl rfl 0 (by decide) (hts _ wd_162) (fun _ h9 => h9) rfl d_Bounds_bind_102 ?_
          refine lv_iload_n hx hb d_Bounds_bind_105 rfl (lv_at hl1 3 rfl) ?_
          refine va_iald hx hb hK.1 hP 1 0 rfl rfl (vp_in_nI (by first | assumption | omega) (by decide)) d_Bounds_bind_106 ?_
          refine W.eq (g2 := F0 m 107 ls [.int (lv q2), .int (nI q1), .ref b1]) (by rw [nI_clamp (by first | exact Nat.lt_of_lt_of_le (by assumption) (by decide) | exact Nat.lt_of_le_of_lt (by assumption) (by decide) | omega)]) ?_
          refine lv_iload_n hx hb d_Bounds_bind_107 rfl (lv_at hl1 4 rfl) ?_
          refine lv_iadd hx hb d_Bounds_bind_108 ?_
          refine lv_topi (fun z_23 ez_23 => ?_)
          refine va_iast hx hb hK.1 hP hD hS 1 0 rfl rfl (vp_in_nI (by first | assumption | omega) (by decide)) d_Bounds_bind_109 (fun H_24 locs hP1 hD1 hS1 => ?_)
          rw [nI_clamp (by first | exact Nat.lt_of_lt_of_le (by assumption) (by decide) | exact Nat.lt_of_le_of_lt (by assumption) (by decide) | omega)] at hP1 hD1
          clear hP hD hS
          have hS := hS1
          have hW7 : (fun w9 : va_W => va_P D classes w9 H_24 ∧ va_D A w9) [(b0, .inr (0, [.ref b1, .ref b2, .ref b3, .int (nI (bn + 1))])), (b1, .inl (ax 0, 11, .inl (upd lv q1 z_23))), (b2, .inl (ax 0, 121, .inl (upd mo (11 * q2 + q1) x3))), (b3, .inl (ax 0, 121, .inl (fun j => nI (sup bo bn (11 * q2 + q1) j))))] := ⟨hP1, hD1⟩
          obtain ⟨hP, hD⟩ := hW7
          clear hP1 hD1 hS1
          obtain ⟨hst8, hl88⟩ := stA8_of hW8 hg8 hq1 hq2 (by first | assumption | omega) hx38 (by assumption) ez_21 (by assumption) ez_23
          refine lv_aload_n hx hb d_Bounds_bind_110 rfl (lv_at hl1 1 rfl) ?_
          refine lv_iload_n hx hb d_Bounds_bind_111 rfl (lv_at hl1 2 rfl) ?_
          refine lv_iload_n hx hb d_Bounds_bind_112 rfl (lv_at hl1 3 rfl) ?_
          obtain ⟨hPc, hDc, hFc, hCs⟩ := xw_sub3 (wc := [(b0, .inr (0, [.ref b1, .ref b2, .ref b3, .int (nI (bn + 1))])), (b1, .inl (ax 0, 11, .inl (upd lv q1 z_23))), (b2, .inl (ax 0, 121, .inl (upd mo (11 * q2 + q1) x3))), (b3, .inl (ax 0, 121, .inl (fun j => nI ((sup bo bn (11 * q2 + q1)) j))))]) hP hD hS hA [0, 1, 2, 3] (by decide) rfl
          have hz := xz_of hN hS
          refine va_calli (va_runV (As := [.int (nI q1), .int (nI q2)]) (rest := []) ⟨hx, hb, hml, hown, hts⟩ (c_B_settle l D ax b0 b1 b2 b3 (bn + 1) (upd lv q1 z_23) (upd mo (11 * q2 + q1) x3) (sup bo bn (11 * q2 + q1)) q1 q2 H_24.size (by first | assumption | omega) (by first | assumption | omega) hW82 hst8 hl88) (xcV (n := 2) hts wd_858 wd_7 wd_855 wd_857 ps_37 rfl rfl (by decide +kernel) ⟨Nat.le_of_ble_eq_true rfl, Nat.le_of_ble_eq_true rfl⟩) (xpV (ci := 0) (q0 := 0) (As := [.int (nI q1), .int (nI q2)]) hPc hK hz hDc rfl rfl) rfl rfl hl1.1 rfl (lv_room (Nat.le_of_ble_eq_true rfl)) d_Bounds_bind_113 ⟨Nat.le_of_ble_eq_true rfl, Nat.le_of_ble_eq_true rfl⟩) hS (fun q _ h => hFc q h) hFc (fun r_27 u_25 t H_26 locs ht hvm hw hB hz1 hk1 hS1 => ?_)
          try dsimp only at hw
          obtain ⟨hw, hs_28⟩ := hw
          subst hw
          obtain ⟨x_29, hx_30, hP1, hD1⟩ := hB
          rw [ht] at hP1
          have hjn := xw_join3 (wl := [(b0, .inr (0, [.ref b1, .ref b2, .ref b3, .int (nI (bn + 1))])), (b1, .inl (ax 0, 11, .inl x_29)), (b2, .inl (ax 0, 121, .inl (upd mo (11 * q2 + q1) x3))), (b3, .inl (ax 0, 121, .inl (fun j => nI ((sup bo bn (11 * q2 + q1)) j))))]) hP hD [0, 1, 2, 3] [] hCs (by decide) (by decide) hk1 hFc hP1 hD1 rfl
          clear hP1 hD1
          clear hPc hDc hFc hCs hz hz1 hk1 ht hvm
          clear hP hD hS
          have hS := hS1
          obtain ⟨hP, hD⟩ := hjn
          clear hS1
          rw [← hQe]
          obtain ⟨hP9, hD9⟩ := xw_sub2 (wc := (fun (u : Nat → Nat) (xlv : Nat → Int32) (xmo : Nat → Int32) (xbo : Nat → Nat) => [(b0, .inr (0, [.ref b1, .ref b2, .ref b3, .int (nI (u 0))])), (b1, .inl (ax 0, 11, .inl xlv)), (b2, .inl (ax 0, 121, .inl xmo)), (b3, .inl (ax 0, 121, .inl (fun j => nI (xbo j))))]) (ixn [(bn + 1), (u_25 0)]) x_29 (upd mo (11 * q2 + q1) x3) (sup bo bn (11 * q2 + q1))) hP hD [0, 1, 2, 3] (by decide) rfl
          have hex0 : bnv (upd mo (11 * q2 + q1) x3) (sup bo bn (11 * q2 + q1)) ((bn + 1)) := hbv2
          have hex1 : bcv8 (upd mo (11 * q2 + q1) x3) (sup bo bn (11 * q2 + q1)) ((bn + 1)) := hcv2
          have hex2 : moW8 (upd mo (11 * q2 + q1) x3) := hW82
          have hex3 : bnQ8 mo lv (fun v => v q1 ≤ v q2 + x3.toInt) (upd mo (11 * q2 + q1) x3) x_29 ((u_25 0)) := (bnQ8_t hW8 hq1 hq2 (by first | assumption | omega) hx38 (by assumption) hx_30)
          have hsp0 : (u_25 0) ≤ 1 := (by first | assumption | omega)
          exact W.zret (v := nI (u_25 0)) hx hb hr (nI_bool (by first | assumption | omega)) (fun t ht hW => ⟨⟨nI (u_25 0), ixn [(bn + 1), (u_25 0)], rfl, ⟨rfl, hsp0⟩, ⟨x_29, (upd mo (11 * q2 + q1) x3), sup bo bn (11 * q2 + q1), hex0, hex1, hex2, hex3, by rw [ht]; exact hP9, hD9⟩⟩, hS.F ht⟩) hS.2.2 d_Bounds_bind_116
        · refine lv_iconst (v := 1) hx hb d_Bounds_bind_94 (by decide) ?_
          rw [← hQe]
          obtain ⟨hP9, hD9⟩ := xw_sub2 (wc := (fun (u : Nat → Nat) (xlv : Nat → Int32) (xmo : Nat → Int32) (xbo : Nat → Nat) => [(b0, .inr (0, [.ref b1, .ref b2, .ref b3, .int (nI (u 0))])), (b1, .inl (ax 0, 11, .inl xlv)), (b2, .inl (ax 0, 121, .inl xmo)), (b3, .inl (ax 0, 121, .inl (fun j => nI (xbo j))))]) (ixn [(bn + 1), 1]) lv (upd mo (11 * q2 + q1) x3) (sup bo bn (11 * q2 + q1))) hP hD [0, 1, 2, 3] (by decide) rfl
          have hex0 : bnv (upd mo (11 * q2 + q1) x3) (sup bo bn (11 * q2 + q1)) ((bn + 1)) := hbv2
          have hex1 : bcv8 (upd mo (11 * q2 + q1) x3) (sup bo bn (11 * q2 + q1)) ((bn + 1)) := hcv2
          have hex2 : moW8 (upd mo (11 * q2 + q1) x3) := hW82
          have hex3 : bnQ8 mo lv (fun v => v q1 ≤ v q2 + x3.toInt) (upd mo (11 * q2 + q1) x3) lv (1) := (bnQ8_k hW8 hg8 hq1 hq2 (by first | assumption | omega) hx38 (by assumption) ez_21 (by assumption))
          have hsp0 : 1 ≤ 1 := (by first | assumption | omega)
          exact W.zret (v := 1) hx hb hr rfl (fun t ht hW => ⟨⟨1, ixn [(bn + 1), 1], rfl, ⟨rfl, hsp0⟩, ⟨lv, (upd mo (11 * q2 + q1) x3), sup bo bn (11 * q2 + q1), hex0, hex1, hex2, hex3, by rw [ht]; exact hP9, hD9⟩⟩, hS.F ht⟩) hS.2.2 d_Bounds_bind_95
    · refine lv_iconst (v := 1) hx hb d_Bounds_bind_34 (by decide) ?_
      rw [← hQe]
      obtain ⟨hP9, hD9⟩ := xw_sub2 (wc := (fun (u : Nat → Nat) (xlv : Nat → Int32) (xmo : Nat → Int32) (xbo : Nat → Nat) => [(b0, .inr (0, [.ref b1, .ref b2, .ref b3, .int (nI (u 0))])), (b1, .inl (ax 0, 11, .inl xlv)), (b2, .inl (ax 0, 121, .inl xmo)), (b3, .inl (ax 0, 121, .inl (fun j => nI (xbo j))))]) (ixn [bn, 1]) lv mo bo) hP hD [0, 1, 2, 3] (by decide) rfl
      have hex0 : bnv mo bo (bn) := hbv
      have hex1 : bcv8 mo bo (bn) := hcv
      have hex2 : moW8 mo := hW8
      have hex3 : bnQ8 mo lv (fun v => v q1 ≤ v q2 + x3.toInt) mo lv (1) := (bnQ8_o hW8 hg8 hq1 hq2 hx38 (by assumption))
      have hsp0 : 1 ≤ 1 := (by first | assumption | omega)
      exact W.zret (v := 1) hx hb hr rfl (fun t ht hW => ⟨⟨1, ixn [bn, 1], rfl, ⟨rfl, hsp0⟩, ⟨lv, mo, bo, hex0, hex1, hex2, hex3, by rw [ht]; exact hP9, hD9⟩⟩, hS.F ht⟩) hS.2.2 d_Bounds_bind_35
  · replace c_1 : q1 = q2 := (nI_eq (a := q1) (b := q2) (by first | exact Nat.lt_of_lt_of_le (by assumption) (by decide) | exact Nat.lt_of_le_of_lt (by assumption) (by decide) | omega) (by first | exact Nat.lt_of_lt_of_le (by assumption) (by decide) | exact Nat.lt_of_le_of_lt (by assumption) (by decide) | omega)).mp c_1
    refine lv_iload_n hx hb d_Bounds_bind_5 rfl (lv_at hl1 3 rfl) ?_
    refine lv_if_lt (tgt := 13) hx hb d_Bounds_bind_6 (by decide) (fun c_31 => ?_) (fun c_31 => ?_)
    · refine lv_iconst (v := 0) hx hb d_Bounds_bind_13 (by decide) ?_
      rw [← hQe]
      obtain ⟨hP9, hD9⟩ := xw_sub2 (wc := (fun (u : Nat → Nat) (xlv : Nat → Int32) (xmo : Nat → Int32) (xbo : Nat → Nat) => [(b0, .inr (0, [.ref b1, .ref b2, .ref b3, .int (nI (u 0))])), (b1, .inl (ax 0, 11, .inl xlv)), (b2, .inl (ax 0, 121, .inl xmo)), (b3, .inl (ax 0, 121, .inl (fun j => nI (xbo j))))]) (ixn [bn, 0]) lv mo bo) hP hD [0, 1, 2, 3] (by decide) rfl
      have hex0 : bnv mo bo (bn) := hbv
      have hex1 : bcv8 mo bo (bn) := hcv
      have hex2 : moW8 mo := hW8
      have hex3 : bnQ8 mo lv (fun v => v q1 ≤ v q2 + x3.toInt) mo lv (0) := (bnQ8_f (by first | assumption | omega) (by assumption))
      have hsp0 : 0 ≤ 1 := (by first | assumption | omega)
      exact W.zret (v := 0) hx hb hr rfl (fun t ht hW => ⟨⟨0, ixn [bn, 0], rfl, ⟨rfl, hsp0⟩, ⟨lv, mo, bo, hex0, hex1, hex2, hex3, by rw [ht]; exact hP9, hD9⟩⟩, hS.F ht⟩) hS.2.2 d_Bounds_bind_14
    · refine lv_iconst (v := 1) hx hb d_Bounds_bind_9 (by decide) ?_
      refine lv_goto (tgt := 14) hx hb d_Bounds_bind_10 (by decide) ?_
      rw [← hQe]
      obtain ⟨hP9, hD9⟩ := xw_sub2 (wc := (fun (u : Nat → Nat) (xlv : Nat → Int32) (xmo : Nat → Int32) (xbo : Nat → Nat) => [(b0, .inr (0, [.ref b1, .ref b2, .ref b3, .int (nI (u 0))])), (b1, .inl (ax 0, 11, .inl xlv)), (b2, .inl (ax 0, 121, .inl xmo)), (b3, .inl (ax 0, 121, .inl (fun j => nI (xbo j))))]) (ixn [bn, 1]) lv mo bo) hP hD [0, 1, 2, 3] (by decide) rfl
      have hex0 : bnv mo bo (bn) := hbv
      have hex1 : bcv8 mo bo (bn) := hcv
      have hex2 : moW8 mo := hW8
      have hex3 : bnQ8 mo lv (fun v => v q1 ≤ v q2 + x3.toInt) mo lv (1) := (bnQ8_s hW8 hg8 (by first | assumption | omega) (by assumption))
      have hsp0 : 1 ≤ 1 := (by first | assumption | omega)
      exact W.zret (v := 1) hx hb hr rfl (fun t ht hW => ⟨⟨1, ixn [bn, 1], rfl, ⟨rfl, hsp0⟩, ⟨lv, mo, bo, hex0, hex1, hex2, hex3, by rw [ht]; exact hP9, hD9⟩⟩, hS.F ht⟩) hS.2.2 d_Bounds_bind_14
abbrev b_Bounds_take : ByteArray := prog_2_method_4_code
def y_Bounds_take : MethodName := ⟨R_Bounds, "take", "(III)Z"⟩
theorem d_Bounds_take_0 : decode b_Bounds_take 0 = .ok (.iload_n 2, 1) := by decide +kernel
theorem d_Bounds_take_1 : decode b_Bounds_take 1 = .ok (.bipush 15, 2) := by decide +kernel
theorem d_Bounds_take_3 : decode b_Bounds_take 3 = .ok (.iand, 1) := by decide +kernel
theorem d_Bounds_take_4 : decode b_Bounds_take 4 = .ok (.istore 4, 2) := by decide +kernel
theorem d_Bounds_take_6 : decode b_Bounds_take 6 = .ok (.iload_n 3, 1) := by decide +kernel
theorem d_Bounds_take_7 : decode b_Bounds_take 7 = .ok (.bipush 15, 2) := by decide +kernel
theorem d_Bounds_take_9 : decode b_Bounds_take 9 = .ok (.iand, 1) := by decide +kernel
theorem d_Bounds_take_10 : decode b_Bounds_take 10 = .ok (.istore 5, 2) := by decide +kernel
theorem d_Bounds_take_12 : decode b_Bounds_take 12 = .ok (.iload_n 3, 1) := by decide +kernel
theorem d_Bounds_take_13 : decode b_Bounds_take 13 = .ok (.iconst 4, 1) := by decide +kernel
theorem d_Bounds_take_14 : decode b_Bounds_take 14 = .ok (.ishr, 1) := by decide +kernel
theorem d_Bounds_take_15 : decode b_Bounds_take 15 = .ok (.iload_n 2, 1) := by decide +kernel
theorem d_Bounds_take_16 : decode b_Bounds_take 16 = .ok (.iconst 4, 1) := by decide +kernel
theorem d_Bounds_take_17 : decode b_Bounds_take 17 = .ok (.ishr, 1) := by decide +kernel
theorem d_Bounds_take_18 : decode b_Bounds_take 18 = .ok (.isub, 1) := by decide +kernel
theorem d_Bounds_take_19 : decode b_Bounds_take 19 = .ok (.istore 6, 2) := by decide +kernel
theorem d_Bounds_take_21 : decode b_Bounds_take 21 = .ok (.iload_n 1, 1) := by decide +kernel
theorem d_Bounds_take_22 : decode b_Bounds_take 22 = .ok (.tableswitch 80 0 3 #[30, 54, 43, 66], 30) := by decide +kernel
theorem d_Bounds_take_52 : decode b_Bounds_take 52 = .ok (.aload_n 0, 1) := by decide +kernel
theorem d_Bounds_take_53 : decode b_Bounds_take 53 = .ok (.iload 4, 2) := by decide +kernel
theorem d_Bounds_take_55 : decode b_Bounds_take 55 = .ok (.iload 5, 2) := by decide +kernel
theorem d_Bounds_take_57 : decode b_Bounds_take 57 = .ok (.iload 6, 2) := by decide +kernel
theorem d_Bounds_take_59 : decode b_Bounds_take 59 = .ok (.iconst 1, 1) := by decide +kernel
theorem d_Bounds_take_60 : decode b_Bounds_take 60 = .ok (.isub, 1) := by decide +kernel
theorem d_Bounds_take_61 : decode b_Bounds_take 61 = .ok (.invokevirtual 32, 3) := by decide +kernel
theorem d_Bounds_take_64 : decode b_Bounds_take 64 = .ok (.ireturn, 1) := by decide +kernel
theorem d_Bounds_take_65 : decode b_Bounds_take 65 = .ok (.aload_n 0, 1) := by decide +kernel
theorem d_Bounds_take_66 : decode b_Bounds_take 66 = .ok (.iload 4, 2) := by decide +kernel
theorem d_Bounds_take_68 : decode b_Bounds_take 68 = .ok (.iload 5, 2) := by decide +kernel
theorem d_Bounds_take_70 : decode b_Bounds_take 70 = .ok (.iload 6, 2) := by decide +kernel
theorem d_Bounds_take_72 : decode b_Bounds_take 72 = .ok (.invokevirtual 32, 3) := by decide +kernel
theorem d_Bounds_take_75 : decode b_Bounds_take 75 = .ok (.ireturn, 1) := by decide +kernel
theorem d_Bounds_take_76 : decode b_Bounds_take 76 = .ok (.aload_n 0, 1) := by decide +kernel
theorem d_Bounds_take_77 : decode b_Bounds_take 77 = .ok (.iload 5, 2) := by decide +kernel
theorem d_Bounds_take_79 : decode b_Bounds_take 79 = .ok (.iload 4, 2) := by decide +kernel
theorem d_Bounds_take_81 : decode b_Bounds_take 81 = .ok (.iload 6, 2) := by decide +kernel
theorem d_Bounds_take_83 : decode b_Bounds_take 83 = .ok (.ineg, 1) := by decide +kernel
theorem d_Bounds_take_84 : decode b_Bounds_take 84 = .ok (.invokevirtual 32, 3) := by decide +kernel
theorem d_Bounds_take_87 : decode b_Bounds_take 87 = .ok (.ireturn, 1) := by decide +kernel
theorem d_Bounds_take_88 : decode b_Bounds_take 88 = .ok (.aload_n 0, 1) := by decide +kernel
theorem d_Bounds_take_89 : decode b_Bounds_take 89 = .ok (.iload 5, 2) := by decide +kernel
theorem d_Bounds_take_91 : decode b_Bounds_take 91 = .ok (.iload 4, 2) := by decide +kernel
theorem d_Bounds_take_93 : decode b_Bounds_take 93 = .ok (.iload 6, 2) := by decide +kernel
theorem d_Bounds_take_95 : decode b_Bounds_take 95 = .ok (.ineg, 1) := by decide +kernel
theorem d_Bounds_take_96 : decode b_Bounds_take 96 = .ok (.iconst 1, 1) := by decide +kernel
theorem d_Bounds_take_97 : decode b_Bounds_take 97 = .ok (.isub, 1) := by decide +kernel
theorem d_Bounds_take_98 : decode b_Bounds_take 98 = .ok (.invokevirtual 32, 3) := by decide +kernel
theorem d_Bounds_take_101 : decode b_Bounds_take 101 = .ok (.ireturn, 1) := by decide +kernel
theorem d_Bounds_take_102 : decode b_Bounds_take 102 = .ok (.aload_n 0, 1) := by decide +kernel
theorem d_Bounds_take_103 : decode b_Bounds_take 103 = .ok (.iload 4, 2) := by decide +kernel
theorem d_Bounds_take_105 : decode b_Bounds_take 105 = .ok (.iload 5, 2) := by decide +kernel
theorem d_Bounds_take_107 : decode b_Bounds_take 107 = .ok (.iload 6, 2) := by decide +kernel
theorem d_Bounds_take_109 : decode b_Bounds_take 109 = .ok (.invokevirtual 32, 3) := by decide +kernel
theorem d_Bounds_take_112 : decode b_Bounds_take 112 = .ok (.ifCond .eq 21, 3) := by decide +kernel
theorem d_Bounds_take_115 : decode b_Bounds_take 115 = .ok (.aload_n 0, 1) := by decide +kernel
theorem d_Bounds_take_116 : decode b_Bounds_take 116 = .ok (.iload 5, 2) := by decide +kernel
theorem d_Bounds_take_118 : decode b_Bounds_take 118 = .ok (.iload 4, 2) := by decide +kernel
theorem d_Bounds_take_120 : decode b_Bounds_take 120 = .ok (.iload 6, 2) := by decide +kernel
theorem d_Bounds_take_122 : decode b_Bounds_take 122 = .ok (.ineg, 1) := by decide +kernel
theorem d_Bounds_take_123 : decode b_Bounds_take 123 = .ok (.invokevirtual 32, 3) := by decide +kernel
theorem d_Bounds_take_126 : decode b_Bounds_take 126 = .ok (.ifCond .eq 7, 3) := by decide +kernel
theorem d_Bounds_take_129 : decode b_Bounds_take 129 = .ok (.iconst 1, 1) := by decide +kernel
theorem d_Bounds_take_130 : decode b_Bounds_take 130 = .ok (.goto 4, 3) := by decide +kernel
theorem d_Bounds_take_133 : decode b_Bounds_take 133 = .ok (.iconst 0, 1) := by decide +kernel
theorem d_Bounds_take_134 : decode b_Bounds_take 134 = .ok (.ireturn, 1) := by decide +kernel
set_option maxHeartbeats 40000000 in
set_option maxRecDepth 100000 in
theorem c_B_take (l : Launch) (D : va_G) (ax : Nat → ClassId) (b0 b1 b2 b3 bn : Nat) (lv mo : Nat → Int32) (bo : Nat → Nat) (c9 : Nat) (x2 x3 : Int32) (t2 t3 : Nat × Int32) (sz : Nat) (hx2 : trm x2) (hx3 : trm x3) (hbv : bnv mo bo bn) (hc9 : c9 ≤ 4) (ht28 : x2 = tmI t2) (ht38 : x3 = tmI t3) (hb2 : tmb 21483 t2) (hb3 : tmb 21483 t3) (hW8 : moW8 mo) (hcv : bcv8 mo bo bn) (hg8 : grt8 (sol8 (mL8 mo)) (lI8 lv)) : Met l y_Bounds_take (xws (.code y_Bounds_take b_Bounds_take 7 (some .boolean))) ({ frames := 40, cells := 0, slots := 0, locals := 1600 }) (va_Pc [.ref b0, .int (nI c9), .int x2, .int x3] (xo D ax [(b0, .inr (0, [.ref b1, .ref b2, .ref b3, .int (nI bn)])), (b1, .inl (ax 0, 11, .inl lv)), (b2, .inl (ax 0, 121, .inl mo)), (b3, .inl (ax 0, 121, .inl (fun j => nI (bo j))))] sz)) ((va_Qi (fun (r : Int32) (u : Nat → Nat) => r = nI (u 1) ∧ (u 1 ≤ 1)) (fun (u : Nat → Nat) (t9 : State) => ∃ xlv : Nat → Int32, ∃ xmo : Nat → Int32, ∃ xbo : Nat → Nat, (bnv xmo xbo (u 0)) ∧ (bcv8 xmo xbo (u 0)) ∧ (moW8 xmo) ∧ (bnQ8 mo lv (fun v => atc9 c9 t2.1 t3.1 (t3.2.toInt - t2.2.toInt) v) xmo xlv (u 1)) ∧ va_P D classes [(b0, .inr (0, [.ref b1, .ref b2, .ref b3, .int (nI (u 0))])), (b1, .inl (ax 0, 11, .inl xlv)), (b2, .inl (ax 0, 121, .inl xmo)), (b3, .inl (ax 0, 121, .inl (fun j => nI (xbo j))))] t9.heap ∧ va_D (va_A [(b0, .inr (0, [.ref b1, .ref b2, .ref b3, .int (nI bn)])), (b1, .inl (ax 0, 11, .inl lv)), (b2, .inl (ax 0, 121, .inl mo)), (b3, .inl (ax 0, 121, .inl (fun j => nI (bo j))))] sz) [(b0, .inr (0, [.ref b1, .ref b2, .ref b3, .int (nI (u 0))])), (b1, .inl (ax 0, 11, .inl xlv)), (b2, .inl (ax 0, 121, .inl xmo)), (b3, .inl (ax 0, 121, .inl (fun j => nI (xbo j))))]) (va_A [(b0, .inr (0, [.ref b1, .ref b2, .ref b3, .int (nI bn)])), (b1, .inl (ax 0, 11, .inl lv)), (b2, .inl (ax 0, 121, .inl mo)), (b3, .inl (ax 0, 121, .inl (fun j => nI (bo j))))] sz))) 0 0 (va_A [(b0, .inr (0, [.ref b1, .ref b2, .ref b3, .int (nI bn)])), (b1, .inl (ax 0, 11, .inl lv)), (b2, .inl (ax 0, 121, .inl mo)), (b3, .inl (ax 0, 121, .inl (fun j => nI (bo j))))] sz) := by
  refine Met.ofW (cc := b_Bounds_take) (maxL := 7) (ret := (some .boolean)) (by decide) rfl ?_
  intro p e s m args below meth c s₁ B hml hv
  obtain ⟨rfl, hsz, hP, hK, hD0⟩ := hv
  have hx := B.exec
  have hb := B.bytes
  have hr := B.returns
  have hts := xw_hts B.pre
  have hown : s.vm.findClass R_Bounds = some m.cls := findClass_of_methodNamed B.named
  have hlocks := B.notSynchronized
  subst hsz
  have hD := hD0.self (sz := s.heap.size)
  have hN := xz_entry hP
  generalize hAe : va_A [(b0, .inr (0, [.ref b1, .ref b2, .ref b3, .int (nI bn)])), (b1, .inl (ax 0, 11, .inl lv)), (b2, .inl (ax 0, 121, .inl mo)), (b3, .inl (ax 0, 121, .inl (fun j => nI (bo j))))] s.heap.size = A at hD hN ⊢
  have hA : ∀ q : Nat, s.heap.size ≤ q → A q := fun q h => by rw [← hAe]; exact Or.inr h
  have hS : va_S A s.heap s.heap [] := va_S.rf
  have hl0 := lv_entry ([.ref b0, .int (nI c9), .int x2, .int x3]) (n := 7) (Nat.le_of_ble_eq_true rfl)
  rw [lg_entry_eq]
  generalize (lg_sl ([.ref b0, .int (nI c9), .int x2, .int x3]) ++ List.replicate (7 - (lg_sl ([.ref b0, .int (nI c9), .int x2, .int x3])).length) Slot.unset).toArray = ls at hl0 ⊢
  have hl1 : lv_has ls 7 [(0, .ref b0), (1, .int (nI c9)), (2, .int x2), (3, .int x3)] := hl0
  refine xw_gen (fun Z9 hQe => ?_)
  have ht2 := hx2.le
  have ht3 := hx3.le
  obtain ⟨en2, es2⟩ := tmb8 hb2 ht28
  obtain ⟨en3, es3⟩ := tmb8 hb3 ht38
  refine lv_iload_n hx hb d_Bounds_take_0 rfl (lv_at hl1 2 rfl) ?_
  refine lv_bipush (v := 15) hx hb d_Bounds_take_1 (by decide) ?_
  refine lv_iand hx hb d_Bounds_take_3 ?_
  refine lv_topi (fun z_1 ez_1 => ?_)
  have ez_1 : z_1 = nI (i2n x2 % 16) := ez_1.trans (nb_andm 4 x2)
  subst ez_1
  refine lv_istore (lv' := [(4, .int (nI (i2n x2 % 16))), (0, .ref b0), (1, .int (nI c9)), (2, .int x2), (3, .int x3)]) hx hb d_Bounds_take_4 hl1 (by decide) rfl (fun ls hl2 => ?_)
  clear hl1; have hl1 := hl2; clear hl2
  refine lv_iload_n hx hb d_Bounds_take_6 rfl (lv_at hl1 4 rfl) ?_
  refine lv_bipush (v := 15) hx hb d_Bounds_take_7 (by decide) ?_
  refine lv_iand hx hb d_Bounds_take_9 ?_
  refine lv_topi (fun z_2 ez_2 => ?_)
  have ez_2 : z_2 = nI (i2n x3 % 16) := ez_2.trans (nb_andm 4 x3)
  subst ez_2
  refine lv_istore (lv' := [(5, .int (nI (i2n x3 % 16))), (4, .int (nI (i2n x2 % 16))), (0, .ref b0), (1, .int (nI c9)), (2, .int x2), (3, .int x3)]) hx hb d_Bounds_take_10 hl1 (by decide) rfl (fun ls hl2 => ?_)
  clear hl1; have hl1 := hl2; clear hl2
  refine lv_iload_n hx hb d_Bounds_take_12 rfl (lv_at hl1 5 rfl) ?_
  refine lv_iconst (v := 4) hx hb d_Bounds_take_13 (by decide) ?_
  refine lv_ishr hx hb d_Bounds_take_14 ?_
  refine lv_topi (fun z_3 ez_3 => ?_)
  refine lv_iload_n hx hb d_Bounds_take_15 rfl (lv_at hl1 4 rfl) ?_
  refine lv_iconst (v := 4) hx hb d_Bounds_take_16 (by decide) ?_
  refine lv_ishr hx hb d_Bounds_take_17 ?_
  refine lv_topi (fun z_4 ez_4 => ?_)
  refine lv_isub hx hb d_Bounds_take_18 ?_
  refine lv_topi (fun z_5 ez_5 => ?_)
  have hm8 : (z_5).toInt = t3.2.toInt - t2.2.toInt := by rw [ez_5, es3 _ ez_3, es2 _ ez_4]; exact i32_sub (by have := hb3.2; omega) (by have := hb3.2; omega) (by have := hb2.2; omega) (by have := hb2.2; omega)
  have hr8 : -42966 ≤ (z_5).toInt ∧ (z_5).toInt ≤ 42966 := by have := hb3.2; have := hb2.2; omega
  refine lv_istore (lv' := [(6, .int z_5), (5, .int (nI (i2n x3 % 16))), (4, .int (nI (i2n x2 % 16))), (0, .ref b0), (1, .int (nI c9)), (2, .int x2), (3, .int x3)]) hx hb d_Bounds_take_19 hl1 (by decide) rfl (fun ls hl2 => ?_)
  clear hl1; have hl1 := hl2; clear hl2
  refine lv_iload_n hx hb d_Bounds_take_21 rfl (lv_at hl1 4 rfl) ?_
  by_cases hw_6 : c9 = 0
  · refine W.eq (g2 := F0 m 22 ls [.int 0]) (by rw [hw_6]; rfl) ?_
    refine lv_tableIn (off := 30) (tgt := 52) hx hb d_Bounds_take_22 (by decide) (by decide) (by decide) (by decide) ?_
    refine lv_aload_n hx hb d_Bounds_take_52 rfl (lv_at hl1 3 rfl) ?_
    refine lv_iload hx hb d_Bounds_take_53 (lv_at hl1 2 rfl) ?_
    refine lv_iload hx hb d_Bounds_take_55 (lv_at hl1 1 rfl) ?_
    refine lv_iload hx hb d_Bounds_take_57 (lv_at hl1 0 rfl) ?_
    refine lv_iconst (v := 1) hx hb d_Bounds_take_59 (by decide) ?_
    refine lv_isub hx hb d_Bounds_take_60 ?_
    refine lv_topi (fun z_7 ez_7 => ?_)
    have h98 : (z_7).toInt = (z_5).toInt - 1 := by rw [ez_7, i32_sub (by first | assumption | omega) (by first | assumption | omega) (by decide) (by decide), i32_1]
    obtain ⟨hPc, hDc, hFc, hCs⟩ := xw_sub3 (wc := [(b0, .inr (0, [.ref b1, .ref b2, .ref b3, .int (nI bn)])), (b1, .inl (ax 0, 11, .inl lv)), (b2, .inl (ax 0, 121, .inl mo)), (b3, .inl (ax 0, 121, .inl (fun j => nI (bo j))))]) hP hD hS hA [0, 1, 2, 3] (by decide) rfl
    have hz := xz_of hN hS
    refine va_calli (va_runV (As := [.int (nI (i2n x2 % 16)), .int (nI (i2n x3 % 16)), .int z_7]) (rest := []) ⟨hx, hb, hml, hown, hts⟩ (c_B_bind l D ax b0 b1 b2 b3 bn lv mo bo (i2n x2 % 16) (i2n x3 % 16) z_7 s.heap.size (by first | assumption | omega) (by first | assumption | omega) hbv hW8 hcv hg8 (by first | assumption | omega)) (xcV (n := 3) hts wd_854 wd_7 wd_851 wd_853 ps_36 rfl rfl (by decide +kernel) ⟨Nat.le_of_ble_eq_true rfl, Nat.le_of_ble_eq_true rfl⟩) (xpV (ci := 0) (q0 := 0) (As := [.int (nI (i2n x2 % 16)), .int (nI (i2n x3 % 16)), .int z_7]) hPc hK hz hDc rfl rfl) rfl rfl hl1.1 rfl (lv_room (Nat.le_of_ble_eq_true rfl)) d_Bounds_take_61 ⟨Nat.le_of_ble_eq_true rfl, Nat.le_of_ble_eq_true rfl⟩) hS (fun q _ h => hFc q h) hFc (fun r_10 u_8 t H_9 locs ht hvm hw hB hz1 hk1 hS1 => ?_)
    try dsimp only at hw
    obtain ⟨hw, hs_11⟩ := hw
    subst hw
    obtain ⟨x_12, x_13, x_14, hx_15, hx_16, hx_17, hx_18, hP1, hD1⟩ := hB
    rw [ht] at hP1
    have hjn := xw_join3 (wl := [(b0, .inr (0, [.ref b1, .ref b2, .ref b3, .int (nI (u_8 0))])), (b1, .inl (ax 0, 11, .inl x_12)), (b2, .inl (ax 0, 121, .inl x_13)), (b3, .inl (ax 0, 121, .inl (fun j => nI (x_14 j))))]) hP hD [0, 1, 2, 3] [] hCs (by decide) (by decide) hk1 hFc hP1 hD1 rfl
    clear hP1 hD1
    clear hPc hDc hFc hCs hz hz1 hk1 ht hvm
    clear hP hD hS
    have hS := hS1
    obtain ⟨hP, hD⟩ := hjn
    clear hS1
    rw [← hQe]
    obtain ⟨hP9, hD9⟩ := xw_sub2 (wc := (fun (u : Nat → Nat) (xlv : Nat → Int32) (xmo : Nat → Int32) (xbo : Nat → Nat) => [(b0, .inr (0, [.ref b1, .ref b2, .ref b3, .int (nI (u 0))])), (b1, .inl (ax 0, 11, .inl xlv)), (b2, .inl (ax 0, 121, .inl xmo)), (b3, .inl (ax 0, 121, .inl (fun j => nI (xbo j))))]) (ixn [(u_8 0), (u_8 1)]) x_12 x_13 x_14) hP hD [0, 1, 2, 3] (by decide) rfl
    have hex0 : bnv x_13 x_14 ((u_8 0)) := hx_15
    have hex1 : bcv8 x_13 x_14 ((u_8 0)) := hx_16
    have hex2 : moW8 x_13 := hx_17
    have hex3 : bnQ8 mo lv (fun v => atc9 c9 t2.1 t3.1 (t3.2.toInt - t2.2.toInt) v) x_13 x_12 ((u_8 1)) := (hx_18.as (fun v => tk9_0 hw_6 en2 en3 (by first | assumption | omega)))
    have hsp0 : (u_8 1) ≤ 1 := (by first | assumption | omega)
    exact W.zret (v := nI (u_8 1)) hx hb hr (nI_bool (by first | assumption | omega)) (fun t ht hW => ⟨⟨nI (u_8 1), ixn [(u_8 0), (u_8 1)], rfl, ⟨rfl, hsp0⟩, ⟨x_12, x_13, x_14, hex0, hex1, hex2, hex3, by rw [ht]; exact hP9, hD9⟩⟩, hS.F ht⟩) hS.2.2 d_Bounds_take_64
  by_cases hw_19 : c9 = 1
  · refine W.eq (g2 := F0 m 22 ls [.int 1]) (by rw [hw_19]; rfl) ?_
    refine lv_tableIn (off := 54) (tgt := 76) hx hb d_Bounds_take_22 (by decide) (by decide) (by decide) (by decide) ?_
    refine lv_aload_n hx hb d_Bounds_take_76 rfl (lv_at hl1 3 rfl) ?_
    refine lv_iload hx hb d_Bounds_take_77 (lv_at hl1 1 rfl) ?_
    refine lv_iload hx hb d_Bounds_take_79 (lv_at hl1 2 rfl) ?_
    refine lv_iload hx hb d_Bounds_take_81 (lv_at hl1 0 rfl) ?_
    refine lv_ineg hx hb d_Bounds_take_83 ?_
    refine lv_topi (fun z_20 ez_20 => ?_)
    have hn8 : (z_20).toInt = -(z_5).toInt := by rw [ez_20]; exact i32_neg (by first | assumption | omega) (by first | assumption | omega)
    obtain ⟨hPc, hDc, hFc, hCs⟩ := xw_sub3 (wc := [(b0, .inr (0, [.ref b1, .ref b2, .ref b3, .int (nI bn)])), (b1, .inl (ax 0, 11, .inl lv)), (b2, .inl (ax 0, 121, .inl mo)), (b3, .inl (ax 0, 121, .inl (fun j => nI (bo j))))]) hP hD hS hA [0, 1, 2, 3] (by decide) rfl
    have hz := xz_of hN hS
    refine va_calli (va_runV (As := [.int (nI (i2n x3 % 16)), .int (nI (i2n x2 % 16)), .int z_20]) (rest := []) ⟨hx, hb, hml, hown, hts⟩ (c_B_bind l D ax b0 b1 b2 b3 bn lv mo bo (i2n x3 % 16) (i2n x2 % 16) z_20 s.heap.size (by first | assumption | omega) (by first | assumption | omega) hbv hW8 hcv hg8 (by first | assumption | omega)) (xcV (n := 3) hts wd_854 wd_7 wd_851 wd_853 ps_36 rfl rfl (by decide +kernel) ⟨Nat.le_of_ble_eq_true rfl, Nat.le_of_ble_eq_true rfl⟩) (xpV (ci := 0) (q0 := 0) (As := [.int (nI (i2n x3 % 16)), .int (nI (i2n x2 % 16)), .int z_20]) hPc hK hz hDc rfl rfl) rfl rfl hl1.1 rfl (lv_room (Nat.le_of_ble_eq_true rfl)) d_Bounds_take_84 ⟨Nat.le_of_ble_eq_true rfl, Nat.le_of_ble_eq_true rfl⟩) hS (fun q _ h => hFc q h) hFc (fun r_23 u_21 t H_22 locs ht hvm hw hB hz1 hk1 hS1 => ?_)
    try dsimp only at hw
    obtain ⟨hw, hs_24⟩ := hw
    subst hw
    obtain ⟨x_25, x_26, x_27, hx_28, hx_29, hx_30, hx_31, hP1, hD1⟩ := hB
    rw [ht] at hP1
    have hjn := xw_join3 (wl := [(b0, .inr (0, [.ref b1, .ref b2, .ref b3, .int (nI (u_21 0))])), (b1, .inl (ax 0, 11, .inl x_25)), (b2, .inl (ax 0, 121, .inl x_26)), (b3, .inl (ax 0, 121, .inl (fun j => nI (x_27 j))))]) hP hD [0, 1, 2, 3] [] hCs (by decide) (by decide) hk1 hFc hP1 hD1 rfl
    clear hP1 hD1
    clear hPc hDc hFc hCs hz hz1 hk1 ht hvm
    clear hP hD hS
    have hS := hS1
    obtain ⟨hP, hD⟩ := hjn
    clear hS1
    rw [← hQe]
    obtain ⟨hP9, hD9⟩ := xw_sub2 (wc := (fun (u : Nat → Nat) (xlv : Nat → Int32) (xmo : Nat → Int32) (xbo : Nat → Nat) => [(b0, .inr (0, [.ref b1, .ref b2, .ref b3, .int (nI (u 0))])), (b1, .inl (ax 0, 11, .inl xlv)), (b2, .inl (ax 0, 121, .inl xmo)), (b3, .inl (ax 0, 121, .inl (fun j => nI (xbo j))))]) (ixn [(u_21 0), (u_21 1)]) x_25 x_26 x_27) hP hD [0, 1, 2, 3] (by decide) rfl
    have hex0 : bnv x_26 x_27 ((u_21 0)) := hx_28
    have hex1 : bcv8 x_26 x_27 ((u_21 0)) := hx_29
    have hex2 : moW8 x_26 := hx_30
    have hex3 : bnQ8 mo lv (fun v => atc9 c9 t2.1 t3.1 (t3.2.toInt - t2.2.toInt) v) x_26 x_25 ((u_21 1)) := (hx_31.as (fun v => tk9_1 hw_19 en2 en3 (by first | assumption | omega)))
    have hsp0 : (u_21 1) ≤ 1 := (by first | assumption | omega)
    exact W.zret (v := nI (u_21 1)) hx hb hr (nI_bool (by first | assumption | omega)) (fun t ht hW => ⟨⟨nI (u_21 1), ixn [(u_21 0), (u_21 1)], rfl, ⟨rfl, hsp0⟩, ⟨x_25, x_26, x_27, hex0, hex1, hex2, hex3, by rw [ht]; exact hP9, hD9⟩⟩, hS.F ht⟩) hS.2.2 d_Bounds_take_87
  by_cases hw_32 : c9 = 2
  · refine W.eq (g2 := F0 m 22 ls [.int 2]) (by rw [hw_32]; rfl) ?_
    refine lv_tableIn (off := 43) (tgt := 65) hx hb d_Bounds_take_22 (by decide) (by decide) (by decide) (by decide) ?_
    refine lv_aload_n hx hb d_Bounds_take_65 rfl (lv_at hl1 3 rfl) ?_
    refine lv_iload hx hb d_Bounds_take_66 (lv_at hl1 2 rfl) ?_
    refine lv_iload hx hb d_Bounds_take_68 (lv_at hl1 1 rfl) ?_
    refine lv_iload hx hb d_Bounds_take_70 (lv_at hl1 0 rfl) ?_
    obtain ⟨hPc, hDc, hFc, hCs⟩ := xw_sub3 (wc := [(b0, .inr (0, [.ref b1, .ref b2, .ref b3, .int (nI bn)])), (b1, .inl (ax 0, 11, .inl lv)), (b2, .inl (ax 0, 121, .inl mo)), (b3, .inl (ax 0, 121, .inl (fun j => nI (bo j))))]) hP hD hS hA [0, 1, 2, 3] (by decide) rfl
    have hz := xz_of hN hS
    refine va_calli (va_runV (As := [.int (nI (i2n x2 % 16)), .int (nI (i2n x3 % 16)), .int z_5]) (rest := []) ⟨hx, hb, hml, hown, hts⟩ (c_B_bind l D ax b0 b1 b2 b3 bn lv mo bo (i2n x2 % 16) (i2n x3 % 16) z_5 s.heap.size (by first | assumption | omega) (by first | assumption | omega) hbv hW8 hcv hg8 (by first | assumption | omega)) (xcV (n := 3) hts wd_854 wd_7 wd_851 wd_853 ps_36 rfl rfl (by decide +kernel) ⟨Nat.le_of_ble_eq_true rfl, Nat.le_of_ble_eq_true rfl⟩) (xpV (ci := 0) (q0 := 0) (As := [.int (nI (i2n x2 % 16)), .int (nI (i2n x3 % 16)), .int z_5]) hPc hK hz hDc rfl rfl) rfl rfl hl1.1 rfl (lv_room (Nat.le_of_ble_eq_true rfl)) d_Bounds_take_72 ⟨Nat.le_of_ble_eq_true rfl, Nat.le_of_ble_eq_true rfl⟩) hS (fun q _ h => hFc q h) hFc (fun r_35 u_33 t H_34 locs ht hvm hw hB hz1 hk1 hS1 => ?_)
    try dsimp only at hw
    obtain ⟨hw, hs_36⟩ := hw
    subst hw
    obtain ⟨x_37, x_38, x_39, hx_40, hx_41, hx_42, hx_43, hP1, hD1⟩ := hB
    rw [ht] at hP1
    have hjn := xw_join3 (wl := [(b0, .inr (0, [.ref b1, .ref b2, .ref b3, .int (nI (u_33 0))])), (b1, .inl (ax 0, 11, .inl x_37)), (b2, .inl (ax 0, 121, .inl x_38)), (b3, .inl (ax 0, 121, .inl (fun j => nI (x_39 j))))]) hP hD [0, 1, 2, 3] [] hCs (by decide) (by decide) hk1 hFc hP1 hD1 rfl
    clear hP1 hD1
    clear hPc hDc hFc hCs hz hz1 hk1 ht hvm
    clear hP hD hS
    have hS := hS1
    obtain ⟨hP, hD⟩ := hjn
    clear hS1
    rw [← hQe]
    obtain ⟨hP9, hD9⟩ := xw_sub2 (wc := (fun (u : Nat → Nat) (xlv : Nat → Int32) (xmo : Nat → Int32) (xbo : Nat → Nat) => [(b0, .inr (0, [.ref b1, .ref b2, .ref b3, .int (nI (u 0))])), (b1, .inl (ax 0, 11, .inl xlv)), (b2, .inl (ax 0, 121, .inl xmo)), (b3, .inl (ax 0, 121, .inl (fun j => nI (xbo j))))]) (ixn [(u_33 0), (u_33 1)]) x_37 x_38 x_39) hP hD [0, 1, 2, 3] (by decide) rfl
    have hex0 : bnv x_38 x_39 ((u_33 0)) := hx_40
    have hex1 : bcv8 x_38 x_39 ((u_33 0)) := hx_41
    have hex2 : moW8 x_38 := hx_42
    have hex3 : bnQ8 mo lv (fun v => atc9 c9 t2.1 t3.1 (t3.2.toInt - t2.2.toInt) v) x_38 x_37 ((u_33 1)) := (hx_43.as (fun v => tk9_2 hw_32 en2 en3 (by first | assumption | omega)))
    have hsp0 : (u_33 1) ≤ 1 := (by first | assumption | omega)
    exact W.zret (v := nI (u_33 1)) hx hb hr (nI_bool (by first | assumption | omega)) (fun t ht hW => ⟨⟨nI (u_33 1), ixn [(u_33 0), (u_33 1)], rfl, ⟨rfl, hsp0⟩, ⟨x_37, x_38, x_39, hex0, hex1, hex2, hex3, by rw [ht]; exact hP9, hD9⟩⟩, hS.F ht⟩) hS.2.2 d_Bounds_take_75
  by_cases hw_44 : c9 = 3
  · refine W.eq (g2 := F0 m 22 ls [.int 3]) (by rw [hw_44]; rfl) ?_
    refine lv_tableIn (off := 66) (tgt := 88) hx hb d_Bounds_take_22 (by decide) (by decide) (by decide) (by decide) ?_
    refine lv_aload_n hx hb d_Bounds_take_88 rfl (lv_at hl1 3 rfl) ?_
    refine lv_iload hx hb d_Bounds_take_89 (lv_at hl1 1 rfl) ?_
    refine lv_iload hx hb d_Bounds_take_91 (lv_at hl1 2 rfl) ?_
    refine lv_iload hx hb d_Bounds_take_93 (lv_at hl1 0 rfl) ?_
    refine lv_ineg hx hb d_Bounds_take_95 ?_
    refine lv_topi (fun z_45 ez_45 => ?_)
    have hn8 : (z_45).toInt = -(z_5).toInt := by rw [ez_45]; exact i32_neg (by first | assumption | omega) (by first | assumption | omega)
    refine lv_iconst (v := 1) hx hb d_Bounds_take_96 (by decide) ?_
    refine lv_isub hx hb d_Bounds_take_97 ?_
    refine lv_topi (fun z_46 ez_46 => ?_)
    have h98 : (z_46).toInt = (z_45).toInt - 1 := by rw [ez_46, i32_sub (by first | assumption | omega) (by first | assumption | omega) (by decide) (by decide), i32_1]
    obtain ⟨hPc, hDc, hFc, hCs⟩ := xw_sub3 (wc := [(b0, .inr (0, [.ref b1, .ref b2, .ref b3, .int (nI bn)])), (b1, .inl (ax 0, 11, .inl lv)), (b2, .inl (ax 0, 121, .inl mo)), (b3, .inl (ax 0, 121, .inl (fun j => nI (bo j))))]) hP hD hS hA [0, 1, 2, 3] (by decide) rfl
    have hz := xz_of hN hS
    refine va_calli (va_runV (As := [.int (nI (i2n x3 % 16)), .int (nI (i2n x2 % 16)), .int z_46]) (rest := []) ⟨hx, hb, hml, hown, hts⟩ (c_B_bind l D ax b0 b1 b2 b3 bn lv mo bo (i2n x3 % 16) (i2n x2 % 16) z_46 s.heap.size (by first | assumption | omega) (by first | assumption | omega) hbv hW8 hcv hg8 (by first | assumption | omega)) (xcV (n := 3) hts wd_854 wd_7 wd_851 wd_853 ps_36 rfl rfl (by decide +kernel) ⟨Nat.le_of_ble_eq_true rfl, Nat.le_of_ble_eq_true rfl⟩) (xpV (ci := 0) (q0 := 0) (As := [.int (nI (i2n x3 % 16)), .int (nI (i2n x2 % 16)), .int z_46]) hPc hK hz hDc rfl rfl) rfl rfl hl1.1 rfl (lv_room (Nat.le_of_ble_eq_true rfl)) d_Bounds_take_98 ⟨Nat.le_of_ble_eq_true rfl, Nat.le_of_ble_eq_true rfl⟩) hS (fun q _ h => hFc q h) hFc (fun r_49 u_47 t H_48 locs ht hvm hw hB hz1 hk1 hS1 => ?_)
    try dsimp only at hw
    obtain ⟨hw, hs_50⟩ := hw
    subst hw
    obtain ⟨x_51, x_52, x_53, hx_54, hx_55, hx_56, hx_57, hP1, hD1⟩ := hB
    rw [ht] at hP1
    have hjn := xw_join3 (wl := [(b0, .inr (0, [.ref b1, .ref b2, .ref b3, .int (nI (u_47 0))])), (b1, .inl (ax 0, 11, .inl x_51)), (b2, .inl (ax 0, 121, .inl x_52)), (b3, .inl (ax 0, 121, .inl (fun j => nI (x_53 j))))]) hP hD [0, 1, 2, 3] [] hCs (by decide) (by decide) hk1 hFc hP1 hD1 rfl
    clear hP1 hD1
    clear hPc hDc hFc hCs hz hz1 hk1 ht hvm
    clear hP hD hS
    have hS := hS1
    obtain ⟨hP, hD⟩ := hjn
    clear hS1
    rw [← hQe]
    obtain ⟨hP9, hD9⟩ := xw_sub2 (wc := (fun (u : Nat → Nat) (xlv : Nat → Int32) (xmo : Nat → Int32) (xbo : Nat → Nat) => [(b0, .inr (0, [.ref b1, .ref b2, .ref b3, .int (nI (u 0))])), (b1, .inl (ax 0, 11, .inl xlv)), (b2, .inl (ax 0, 121, .inl xmo)), (b3, .inl (ax 0, 121, .inl (fun j => nI (xbo j))))]) (ixn [(u_47 0), (u_47 1)]) x_51 x_52 x_53) hP hD [0, 1, 2, 3] (by decide) rfl
    have hex0 : bnv x_52 x_53 ((u_47 0)) := hx_54
    have hex1 : bcv8 x_52 x_53 ((u_47 0)) := hx_55
    have hex2 : moW8 x_52 := hx_56
    have hex3 : bnQ8 mo lv (fun v => atc9 c9 t2.1 t3.1 (t3.2.toInt - t2.2.toInt) v) x_52 x_51 ((u_47 1)) := (hx_57.as (fun v => tk9_3 hw_44 en2 en3 (by first | assumption | omega)))
    have hsp0 : (u_47 1) ≤ 1 := (by first | assumption | omega)
    exact W.zret (v := nI (u_47 1)) hx hb hr (nI_bool (by first | assumption | omega)) (fun t ht hW => ⟨⟨nI (u_47 1), ixn [(u_47 0), (u_47 1)], rfl, ⟨rfl, hsp0⟩, ⟨x_51, x_52, x_53, hex0, hex1, hex2, hex3, by rw [ht]; exact hP9, hD9⟩⟩, hS.F ht⟩) hS.2.2 d_Bounds_take_101
  refine lv_tableOut (tgt := 102) hx hb d_Bounds_take_22 (by rw [nI_toInt (by first | assumption | omega)]; omega) (by decide) ?_
  refine lv_aload_n hx hb d_Bounds_take_102 rfl (lv_at hl1 3 rfl) ?_
  refine lv_iload hx hb d_Bounds_take_103 (lv_at hl1 2 rfl) ?_
  refine lv_iload hx hb d_Bounds_take_105 (lv_at hl1 1 rfl) ?_
  refine lv_iload hx hb d_Bounds_take_107 (lv_at hl1 0 rfl) ?_
  obtain ⟨hPc, hDc, hFc, hCs⟩ := xw_sub3 (wc := [(b0, .inr (0, [.ref b1, .ref b2, .ref b3, .int (nI bn)])), (b1, .inl (ax 0, 11, .inl lv)), (b2, .inl (ax 0, 121, .inl mo)), (b3, .inl (ax 0, 121, .inl (fun j => nI (bo j))))]) hP hD hS hA [0, 1, 2, 3] (by decide) rfl
  have hz := xz_of hN hS
  refine va_calli (va_runV (As := [.int (nI (i2n x2 % 16)), .int (nI (i2n x3 % 16)), .int z_5]) (rest := []) ⟨hx, hb, hml, hown, hts⟩ (c_B_bind l D ax b0 b1 b2 b3 bn lv mo bo (i2n x2 % 16) (i2n x3 % 16) z_5 s.heap.size (by first | assumption | omega) (by first | assumption | omega) hbv hW8 hcv hg8 (by first | assumption | omega)) (xcV (n := 3) hts wd_854 wd_7 wd_851 wd_853 ps_36 rfl rfl (by decide +kernel) ⟨Nat.le_of_ble_eq_true rfl, Nat.le_of_ble_eq_true rfl⟩) (xpV (ci := 0) (q0 := 0) (As := [.int (nI (i2n x2 % 16)), .int (nI (i2n x3 % 16)), .int z_5]) hPc hK hz hDc rfl rfl) rfl rfl hl1.1 rfl (lv_room (Nat.le_of_ble_eq_true rfl)) d_Bounds_take_109 ⟨Nat.le_of_ble_eq_true rfl, Nat.le_of_ble_eq_true rfl⟩) hS (fun q _ h => hFc q h) hFc (fun r_60 u_58 t H_59 locs ht hvm hw hB hz1 hk1 hS1 => ?_)
  try dsimp only at hw
  obtain ⟨hw, hs_61⟩ := hw
  subst hw
  obtain ⟨x_62, x_63, x_64, hx_65, hx_66, hx_67, hx_68, hP1, hD1⟩ := hB
  rw [ht] at hP1
  have hjn := xw_join3 (wl := [(b0, .inr (0, [.ref b1, .ref b2, .ref b3, .int (nI (u_58 0))])), (b1, .inl (ax 0, 11, .inl x_62)), (b2, .inl (ax 0, 121, .inl x_63)), (b3, .inl (ax 0, 121, .inl (fun j => nI (x_64 j))))]) hP hD [0, 1, 2, 3] [] hCs (by decide) (by decide) hk1 hFc hP1 hD1 rfl
  clear hP1 hD1
  clear hPc hDc hFc hCs hz hz1 hk1 ht hvm
  clear hP hD hS
  have hS := hS1
  obtain ⟨hP, hD⟩ := hjn
  clear hS1
  refine lv_if_eq (tgt := 133) hx hb d_Bounds_take_112 (by decide) (fun c_69 => ?_) (fun c_69 => ?_)
  · replace c_69 : u_58 1 = 0 := (nI_eq (a := u_58 1) (b := 0) (by first | exact Nat.lt_of_lt_of_le (by assumption) (by decide) | exact Nat.lt_of_le_of_lt (by assumption) (by decide) | omega) (by decide)).mp c_69
    refine lv_iconst (v := 0) hx hb d_Bounds_take_133 (by decide) ?_
    rw [← hQe]
    obtain ⟨hP9, hD9⟩ := xw_sub2 (wc := (fun (u : Nat → Nat) (xlv : Nat → Int32) (xmo : Nat → Int32) (xbo : Nat → Nat) => [(b0, .inr (0, [.ref b1, .ref b2, .ref b3, .int (nI (u 0))])), (b1, .inl (ax 0, 11, .inl xlv)), (b2, .inl (ax 0, 121, .inl xmo)), (b3, .inl (ax 0, 121, .inl (fun j => nI (xbo j))))]) (ixn [(u_58 0), 0]) x_62 x_63 x_64) hP hD [0, 1, 2, 3] (by decide) rfl
    have hex0 : bnv x_63 x_64 ((u_58 0)) := hx_65
    have hex1 : bcv8 x_63 x_64 ((u_58 0)) := hx_66
    have hex2 : moW8 x_63 := hx_67
    have hex3 : bnQ8 mo lv (fun v => atc9 c9 t2.1 t3.1 (t3.2.toInt - t2.2.toInt) v) x_63 x_62 (0) := ((hx_68.one (Q := fun v => v (i2n x3 % 16) ≤ v (i2n x2 % 16) + (-z_5).toInt) (by first | assumption | omega)).as (fun v => tk9_4 (by first | assumption | omega) en2 en3 (by first | assumption | omega) (by rw [i32_neg (by first | assumption | omega) (by first | assumption | omega)]; omega)))
    have hsp0 : 0 ≤ 1 := (by first | assumption | omega)
    exact W.zret (v := 0) hx hb hr rfl (fun t ht hW => ⟨⟨0, ixn [(u_58 0), 0], rfl, ⟨rfl, hsp0⟩, ⟨x_62, x_63, x_64, hex0, hex1, hex2, hex3, by rw [ht]; exact hP9, hD9⟩⟩, hS.F ht⟩) hS.2.2 d_Bounds_take_134
  · replace c_69 : ¬ u_58 1 = 0 := fun hq9 => c_69 ((nI_eq (a := u_58 1) (b := 0) (by first | exact Nat.lt_of_lt_of_le (by assumption) (by decide) | exact Nat.lt_of_le_of_lt (by assumption) (by decide) | omega) (by decide)).mpr hq9)
    refine lv_aload_n hx hb d_Bounds_take_115 rfl (lv_at hl1 3 rfl) ?_
    refine lv_iload hx hb d_Bounds_take_116 (lv_at hl1 1 rfl) ?_
    refine lv_iload hx hb d_Bounds_take_118 (lv_at hl1 2 rfl) ?_
    refine lv_iload hx hb d_Bounds_take_120 (lv_at hl1 0 rfl) ?_
    refine lv_ineg hx hb d_Bounds_take_122 ?_
    refine lv_topi (fun z_70 ez_70 => ?_)
    have hn8 : (z_70).toInt = -(z_5).toInt := by rw [ez_70]; exact i32_neg (by first | assumption | omega) (by first | assumption | omega)
    obtain ⟨hPc, hDc, hFc, hCs⟩ := xw_sub3 (wc := [(b0, .inr (0, [.ref b1, .ref b2, .ref b3, .int (nI (u_58 0))])), (b1, .inl (ax 0, 11, .inl x_62)), (b2, .inl (ax 0, 121, .inl x_63)), (b3, .inl (ax 0, 121, .inl (fun j => nI (x_64 j))))]) hP hD hS hA [0, 1, 2, 3] (by decide) rfl
    have hz := xz_of hN hS
    refine va_calli (va_runV (As := [.int (nI (i2n x3 % 16)), .int (nI (i2n x2 % 16)), .int z_70]) (rest := []) ⟨hx, hb, hml, hown, hts⟩ (c_B_bind l D ax b0 b1 b2 b3 (u_58 0) x_62 x_63 x_64 (i2n x3 % 16) (i2n x2 % 16) z_70 H_59.size (by first | assumption | omega) (by first | assumption | omega) hx_65 hx_67 hx_66 (hx_68.1 (by first | assumption | omega)).1.2 (by first | assumption | omega)) (xcV (n := 3) hts wd_854 wd_7 wd_851 wd_853 ps_36 rfl rfl (by decide +kernel) ⟨Nat.le_of_ble_eq_true rfl, Nat.le_of_ble_eq_true rfl⟩) (xpV (ci := 0) (q0 := 0) (As := [.int (nI (i2n x3 % 16)), .int (nI (i2n x2 % 16)), .int z_70]) hPc hK hz hDc rfl rfl) rfl rfl hl1.1 rfl (lv_room (Nat.le_of_ble_eq_true rfl)) d_Bounds_take_123 ⟨Nat.le_of_ble_eq_true rfl, Nat.le_of_ble_eq_true rfl⟩) hS (fun q _ h => hFc q h) hFc (fun r_73 u_71 t H_72 locs ht hvm hw hB hz1 hk1 hS1 => ?_)
    try dsimp only at hw
    obtain ⟨hw, hs_74⟩ := hw
    subst hw
    obtain ⟨x_75, x_76, x_77, hx_78, hx_79, hx_80, hx_81, hP1, hD1⟩ := hB
    rw [ht] at hP1
    have hjn := xw_join3 (wl := [(b0, .inr (0, [.ref b1, .ref b2, .ref b3, .int (nI (u_71 0))])), (b1, .inl (ax 0, 11, .inl x_75)), (b2, .inl (ax 0, 121, .inl x_76)), (b3, .inl (ax 0, 121, .inl (fun j => nI (x_77 j))))]) hP hD [0, 1, 2, 3] [] hCs (by decide) (by decide) hk1 hFc hP1 hD1 rfl
    clear hP1 hD1
    clear hPc hDc hFc hCs hz hz1 hk1 ht hvm
    clear hP hD hS
    have hS := hS1
    obtain ⟨hP, hD⟩ := hjn
    clear hS1
    refine lv_if_eq (tgt := 133) hx hb d_Bounds_take_126 (by decide) (fun c_82 => ?_) (fun c_82 => ?_)
    · replace c_82 : u_71 1 = 0 := (nI_eq (a := u_71 1) (b := 0) (by first | exact Nat.lt_of_lt_of_le (by assumption) (by decide) | exact Nat.lt_of_le_of_lt (by assumption) (by decide) | omega) (by decide)).mp c_82
      refine lv_iconst (v := 0) hx hb d_Bounds_take_133 (by decide) ?_
      rw [← hQe]
      obtain ⟨hP9, hD9⟩ := xw_sub2 (wc := (fun (u : Nat → Nat) (xlv : Nat → Int32) (xmo : Nat → Int32) (xbo : Nat → Nat) => [(b0, .inr (0, [.ref b1, .ref b2, .ref b3, .int (nI (u 0))])), (b1, .inl (ax 0, 11, .inl xlv)), (b2, .inl (ax 0, 121, .inl xmo)), (b3, .inl (ax 0, 121, .inl (fun j => nI (xbo j))))]) (ixn [(u_71 0), 0]) x_75 x_76 x_77) hP hD [0, 1, 2, 3] (by decide) rfl
      have hex0 : bnv x_76 x_77 ((u_71 0)) := hx_78
      have hex1 : bcv8 x_76 x_77 ((u_71 0)) := hx_79
      have hex2 : moW8 x_76 := hx_80
      have hex3 : bnQ8 mo lv (fun v => atc9 c9 t2.1 t3.1 (t3.2.toInt - t2.2.toInt) v) x_76 x_75 (0) := ((hx_68.two (Q := fun v => v (i2n x3 % 16) ≤ v (i2n x2 % 16) + (z_70).toInt) (by first | assumption | omega) (by have e9 : (u_71 1) = 0 := (by first | assumption | omega); rw [e9] at hx_81; exact hx_81)).as (fun v => tk9_4 (by first | assumption | omega) en2 en3 (by first | assumption | omega) (by first | assumption | omega)))
      have hsp0 : 0 ≤ 1 := (by first | assumption | omega)
      exact W.zret (v := 0) hx hb hr rfl (fun t ht hW => ⟨⟨0, ixn [(u_71 0), 0], rfl, ⟨rfl, hsp0⟩, ⟨x_75, x_76, x_77, hex0, hex1, hex2, hex3, by rw [ht]; exact hP9, hD9⟩⟩, hS.F ht⟩) hS.2.2 d_Bounds_take_134
    · replace c_82 : ¬ u_71 1 = 0 := fun hq9 => c_82 ((nI_eq (a := u_71 1) (b := 0) (by first | exact Nat.lt_of_lt_of_le (by assumption) (by decide) | exact Nat.lt_of_le_of_lt (by assumption) (by decide) | omega) (by decide)).mpr hq9)
      refine lv_iconst (v := 1) hx hb d_Bounds_take_129 (by decide) ?_
      refine lv_goto (tgt := 134) hx hb d_Bounds_take_130 (by decide) ?_
      rw [← hQe]
      obtain ⟨hP9, hD9⟩ := xw_sub2 (wc := (fun (u : Nat → Nat) (xlv : Nat → Int32) (xmo : Nat → Int32) (xbo : Nat → Nat) => [(b0, .inr (0, [.ref b1, .ref b2, .ref b3, .int (nI (u 0))])), (b1, .inl (ax 0, 11, .inl xlv)), (b2, .inl (ax 0, 121, .inl xmo)), (b3, .inl (ax 0, 121, .inl (fun j => nI (xbo j))))]) (ixn [(u_71 0), 1]) x_75 x_76 x_77) hP hD [0, 1, 2, 3] (by decide) rfl
      have hex0 : bnv x_76 x_77 ((u_71 0)) := hx_78
      have hex1 : bcv8 x_76 x_77 ((u_71 0)) := hx_79
      have hex2 : moW8 x_76 := hx_80
      have hex3 : bnQ8 mo lv (fun v => atc9 c9 t2.1 t3.1 (t3.2.toInt - t2.2.toInt) v) x_76 x_75 (1) := ((hx_68.two (Q := fun v => v (i2n x3 % 16) ≤ v (i2n x2 % 16) + (z_70).toInt) (by first | assumption | omega) (by have e9 : (u_71 1) = 1 := (by first | assumption | omega); rw [e9] at hx_81; exact hx_81)).as (fun v => tk9_4 (by first | assumption | omega) en2 en3 (by first | assumption | omega) (by first | assumption | omega)))
      have hsp0 : 1 ≤ 1 := (by first | assumption | omega)
      exact W.zret (v := 1) hx hb hr rfl (fun t ht hW => ⟨⟨1, ixn [(u_71 0), 1], rfl, ⟨rfl, hsp0⟩, ⟨x_75, x_76, x_77, hex0, hex1, hex2, hex3, by rw [ht]; exact hP9, hD9⟩⟩, hS.F ht⟩) hS.2.2 d_Bounds_take_134
