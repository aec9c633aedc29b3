theorem xw_inj {α : Type} : ∀ (a b : List α), a.map some = b.map some → a = b
  | [], [], _ => rfl
  | [], y :: b, h => by simp at h
  | x :: a, [], h => by simp at h
  | x :: a, y :: b, h => by
    simp only [List.map_cons, List.cons.injEq, Option.some.injEq] at h
    rw [h.1, xw_inj a b h.2]
theorem xw_fm {α : Type} {f : Nat → Option α} : ∀ (is : List Nat) (w : List α), is.map f = w.map some → is.filterMap f = w
  | [], [], _ => rfl
  | [], y :: b, h => by simp at h
  | i :: is, [], h => by simp at h
  | i :: is, a :: t, h => by
    simp only [List.map_cons, List.cons.injEq] at h
    simp only [List.filterMap_cons, h.1, xw_fm is t h.2]
theorem xw_split {α : Type} {f : Nat → Option α} {w1 : List α} : ∀ (is : List Nat) (wl : List α), is.map f ++ w1.map some = wl.map some → ∃ wr, is.map f = wr.map some ∧ wl = wr ++ w1
  | [], wl, h => ⟨[], rfl, (xw_inj w1 wl h).symm⟩
  | i :: is, [], h => by simp at h
  | i :: is, a :: t, h => by
    simp only [List.map_cons, List.cons_append, List.cons.injEq] at h
    obtain ⟨wr, h1, h2⟩ := xw_split is t h.2
    subst h2
    exact ⟨a :: wr, by simp only [List.map_cons, h.1, h1], rfl⟩
/-- some cells of a world, and that they are its own -/
theorem xw_sub3 {D : va_G} {cl : List vw_C} {A : Nat → Prop} {ws wc : va_W} {H0 H : Heap} {locs : List Loc} (hP : va_P D cl ws H) (hD : va_D A ws) (hS : va_S A H0 H locs) (hA : ∀ q, H0.size ≤ q → A q) (is : List Nat) (hn : va_nd is = true) (hs : is.map (fun i => ws[i]?) = wc.map some) : va_P D cl wc H ∧ va_D A wc ∧ (∀ q, va_A wc H.size q → A q) ∧ is.map (fun i => ws[i]?) = wc.map some :=
  ⟨hP.sub is (xw_fm is wc hs), hD.sub is hn hs, va_free hD hS hA is hs, hs⟩
theorem xw_sub2 {D : va_G} {cl : List vw_C} {A : Nat → Prop} {ws wc : va_W} {H : Heap} (hP : va_P D cl ws H) (hD : va_D A ws) (is : List Nat) (hn : va_nd is = true) (hs : is.map (fun i => ws[i]?) = wc.map some) : va_P D cl wc H ∧ va_D A wc :=
  ⟨hP.sub is (xw_fm is wc hs), hD.sub is hn hs⟩
/-- behind a call: the other cells and the callee's, as they are said -/
theorem xw_join3 {A0 : Nat → Prop} {D : va_G} {cl : List vw_C} {ws wc w1 wl : va_W} {H H1 : Heap} (hP : va_P D cl ws H) (hD : va_D A0 ws) (isC isR : List Nat) (hC : isC.map (fun i => ws[i]?) = wc.map some) (hn : va_nd isR = true) (hdis : ∀ i ∈ isR, i ∉ isC)
    (hk : ∀ q : Nat, q < H.size → ¬ va_A wc H.size q → H1[q]? = H[q]?) (hF : ∀ q, va_A wc H.size q → A0 q) (hP1 : va_P D cl w1 H1) (hD1 : va_D (va_A wc H.size) w1) (hl : isR.map (fun i => ws[i]?) ++ w1.map some = wl.map some) : va_P D cl wl H1 ∧ va_D A0 wl := by
  obtain ⟨wr, h1, h2⟩ := xw_split isR wl hl
  subst h2
  exact va_join hP hD isC isR hC h1 hn hdis hk hF hP1 hD1
theorem xw_gen {p : Program} {l : Launch} {e : Env} {R : Room} {s : State} {m : MethodId} {args : Array Value} {below : List Frame} {meth : Method} {c : Code} {H : Heap} {locs : List Loc} {cells slots : Nat} {Q : State → Prop} {f : JFrame} (h : ∀ Z : State → Prop, Q = Z → W p l e R s m args below meth c H locs cells slots Z f) : W p l e R s m args below meth c H locs cells slots Q f := h Q rfl
theorem xf_upd (i : Nat) (v : Int32) (f : Nat → Int32) : upd (fun j => if j < i then v else f j) i v = (fun j => if j < i + 1 then v else f j) := by
  funext j
  simp only [upd]
  by_cases h : j = i
  · subst h; simp
  · by_cases h2 : j < i
    · simp [h, h2, Nat.lt_succ_of_lt h2]
    · have h3 : ¬ j < i + 1 := by omega
      simp [h, h2, h3]
abbrev b_Arrays_fill_AII : ByteArray := prog_26_method_103_code
def y_Arrays_fill_AII : MethodName := ⟨R_Arrays, "fill", "([II)V"⟩
theorem d_Arrays_fill_AII_0 : decode b_Arrays_fill_AII 0 = .ok (.iconst 0, 1) := by decide +kernel
theorem d_Arrays_fill_AII_1 : decode b_Arrays_fill_AII 1 = .ok (.istore_n 2, 1) := by decide +kernel
theorem d_Arrays_fill_AII_2 : decode b_Arrays_fill_AII 2 = .ok (.aload_n 0, 1) := by decide +kernel
theorem d_Arrays_fill_AII_3 : decode b_Arrays_fill_AII 3 = .ok (.arraylength, 1) := by decide +kernel
theorem d_Arrays_fill_AII_4 : decode b_Arrays_fill_AII 4 = .ok (.istore_n 3, 1) := by decide +kernel
theorem d_Arrays_fill_AII_5 : decode b_Arrays_fill_AII 5 = .ok (.iload_n 2, 1) := by decide +kernel
theorem d_Arrays_fill_AII_6 : decode b_Arrays_fill_AII 6 = .ok (.iload_n 3, 1) := by decide +kernel
theorem d_Arrays_fill_AII_7 : decode b_Arrays_fill_AII 7 = .ok (.if_icmp .ge 13, 3) := by decide +kernel
theorem d_Arrays_fill_AII_10 : decode b_Arrays_fill_AII 10 = .ok (.aload_n 0, 1) := by decide +kernel
theorem d_Arrays_fill_AII_11 : decode b_Arrays_fill_AII 11 = .ok (.iload_n 2, 1) := by decide +kernel
theorem d_Arrays_fill_AII_12 : decode b_Arrays_fill_AII 12 = .ok (.iload_n 1, 1) := by decide +kernel
theorem d_Arrays_fill_AII_13 : decode b_Arrays_fill_AII 13 = .ok (.iastore, 1) := by decide +kernel
theorem d_Arrays_fill_AII_14 : decode b_Arrays_fill_AII 14 = .ok (.iinc 2 1, 3) := by decide +kernel
theorem d_Arrays_fill_AII_17 : decode b_Arrays_fill_AII 17 = .ok (.goto (-12), 3) := by decide +kernel
theorem d_Arrays_fill_AII_20 : decode b_Arrays_fill_AII 20 = .ok (.return_, 1) := by decide +kernel
set_option maxHeartbeats 40000000 in
set_option maxRecDepth 100000 in
theorem c_Arrays_fill_I (l : Launch) (D : va_G) (ax : Nat → ClassId) (h0 n : Nat) (f : Nat → Int32) (v : Int32) (sz : Nat) (hn : n < 2 ^ 31) : Met l y_Arrays_fill_AII (xws (.code y_Arrays_fill_AII b_Arrays_fill_AII 4 none)) ({ frames := 10, cells := 0, slots := 0, locals := 400 }) (va_Pc [.ref h0, .int v] (xo D ax [(h0, .inl (ax 0, n, .inl f))] sz)) ((va_Qv (fun (u : Nat → Nat) => True) (xb D (va_A [(h0, .inl (ax 0, n, .inl f))] sz) (fun u => [(h0, .inl (ax 0, n, .inl (fun j => if j < n then v else f j)))])) (va_A [(h0, .inl (ax 0, n, .inl f))] sz))) 0 0 (va_A [(h0, .inl (ax 0, n, .inl f))] sz) := by
  refine Met.ofW (cc := b_Arrays_fill_AII) (maxL := 4) (ret := none) (by decide) rfl ?_
  intro p e s m args below meth c s₁ B hml hv
  obtain ⟨rfl, hsz, hP, hK, hD0⟩ := hv
  have hx := B.exec
  have hb := B.bytes
  have hr := B.returns
  have hts := xw_hts B.pre
  have hown : s.vm.findClass R_Arrays = some m.cls := findClass_of_methodNamed B.named
  have hlocks := B.notSynchronized
  subst hsz
  have hD := hD0.self (sz := s.heap.size)
  have hN := xz_entry hP
  generalize hAe : va_A [(h0, .inl (ax 0, n, .inl f))] s.heap.size = A at hD hN ⊢
  have hA : ∀ q : Nat, s.heap.size ≤ q → A q := fun q h => by rw [← hAe]; exact Or.inr h
  have hS : va_S A s.heap s.heap [] := va_S.rf
  have hl0 := lv_entry ([.ref h0, .int v]) (n := 4) (Nat.le_of_ble_eq_true rfl)
  rw [lg_entry_eq]
  generalize (lg_sl ([.ref h0, .int v]) ++ List.replicate (4 - (lg_sl ([.ref h0, .int v])).length) Slot.unset).toArray = ls at hl0 ⊢
  have hl1 : lv_has ls 4 [(0, .ref h0), (1, .int v)] := hl0
  refine xw_gen (fun Z9 hQe => ?_)
  refine lv_iconst (v := 0) hx hb d_Arrays_fill_AII_0 (by decide) ?_
  refine lv_istore_n (lv' := [(2, .int 0), (0, .ref h0), (1, .int v)]) hx hb d_Arrays_fill_AII_1 rfl hl1 (by decide) rfl (fun ls hl2 => ?_)
  clear hl1; have hl1 := hl2; clear hl2
  refine lv_aload_n hx hb d_Arrays_fill_AII_2 rfl (lv_at hl1 1 rfl) ?_
  refine va_alen hx hb hK.1 hP 0 0 rfl rfl (v := _) rfl d_Arrays_fill_AII_3 ?_
  refine lv_istore_n (lv' := [(3, .int (nI n)), (2, .int 0), (0, .ref h0), (1, .int v)]) hx hb d_Arrays_fill_AII_4 rfl hl1 (by decide) rfl (fun ls hl2 => ?_)
  clear hl1; have hl1 := hl2; clear hl2
  suffices key_1 : ∀ (k : Nat) (i : Nat), n - i < k → i ≤ n → ∀ (H : Heap) (locs : List Loc) (ls : Array Slot), va_P D classes [(h0, .inl (ax 0, n, .inl (fun j => if j < i then v else f j)))] H → va_D A [(h0, .inl (ax 0, n, .inl (fun j => if j < i then v else f j)))] → va_S A s.heap H locs → lv_has ls 4 [(3, .int (nI n)), (2, .int (nI i)), (0, .ref h0), (1, .int v)] → W p l e (headSpec (xws (.code y_Arrays_fill_AII b_Arrays_fill_AII 4 none)) ({ frames := 10, cells := 0, slots := 0, locals := 400 })).room s m ([.ref h0, .int v] : List Value).toArray below meth c H locs 0 0 Z9 (F0 m 5 ls []) from key_1 (n - 0 + 1) 0 (Nat.lt_succ_self _) (by first | assumption | omega) _ _ _ (by simpa using hP) (by simpa using hD) hS (lv_sub hl1 [0, 1, 2, 3] rfl)
  intro k_2
  induction k_2 with
  | zero =>
    intro i hk_4
    exact absurd hk_4 (Nat.not_lt_zero _)
  | succ k_2 ih_3 =>
    clear hP hD hS hl1
    intro i hk_4 hi H locs ls hP hD hS hl1
    refine lv_iload_n hx hb d_Arrays_fill_AII_5 rfl (lv_at hl1 1 rfl) ?_
    refine lv_iload_n hx hb d_Arrays_fill_AII_6 rfl (lv_at hl1 0 rfl) ?_
    refine lv_icmp_ge (tgt := 20) hx hb d_Arrays_fill_AII_7 (by decide) (fun c_5 => ?_) (fun c_5 => ?_)
    · replace c_5 : n ≤ i := (nI_leI (a := n) (b := i) (by first | exact Nat.lt_of_lt_of_le (by assumption) (by decide) | exact Nat.lt_of_le_of_lt (by assumption) (by decide) | omega) (by first | exact Nat.lt_of_lt_of_le (by assumption) (by decide) | exact Nat.lt_of_le_of_lt (by assumption) (by decide) | omega)).mp c_5
      obtain rfl : i = n := by omega
      rw [← hQe]
      obtain ⟨hP9, hD9⟩ := xw_sub2 (wc := (fun u : Nat → Nat => [(h0, .inl (ax 0, i, .inl (fun j => if j < i then v else f j)))]) (ixn [])) hP hD [0] (by decide) rfl
      exact W.vret hx hb hr (fun t ht hW => ⟨⟨ixn [], rfl, trivial, ⟨by rw [ht]; exact hP9, hD9⟩⟩, hS.F ht⟩) hS.2.2 d_Arrays_fill_AII_20
    · replace c_5 : ¬ n ≤ i := fun hq9 => c_5 ((nI_leI (a := n) (b := i) (by first | exact Nat.lt_of_lt_of_le (by assumption) (by decide) | exact Nat.lt_of_le_of_lt (by assumption) (by decide) | omega) (by first | exact Nat.lt_of_lt_of_le (by assumption) (by decide) | exact Nat.lt_of_le_of_lt (by assumption) (by decide) | omega)).mpr hq9)
      refine lv_aload_n hx hb d_Arrays_fill_AII_10 rfl (lv_at hl1 2 rfl) ?_
      refine lv_iload_n hx hb d_Arrays_fill_AII_11 rfl (lv_at hl1 1 rfl) ?_
      refine lv_iload_n hx hb d_Arrays_fill_AII_12 rfl (lv_at hl1 3 rfl) ?_
      refine va_iast hx hb hK.1 hP hD hS 0 0 rfl rfl (vp_in_nI (by first | assumption | omega) (by first | exact Nat.lt_of_lt_of_le (by assumption) (by decide) | exact Nat.lt_of_le_of_lt (by assumption) (by decide) | omega)) d_Arrays_fill_AII_13 (fun H_6 locs hP1 hD1 hS1 => ?_)
      rw [nI_clamp (by first | exact Nat.lt_of_lt_of_le (by assumption) (by decide) | exact Nat.lt_of_le_of_lt (by assumption) (by decide) | omega)] at hP1 hD1
      clear hP hD hS
      have hS := hS1
      have hW7 : (fun w9 : va_W => va_P D classes w9 H_6 ∧ va_D A w9) [(h0, .inl (ax 0, n, .inl (upd (fun j => if j < i then v else f j) i v)))] := ⟨hP1, hD1⟩
      obtain ⟨hP, hD⟩ := hW7
      clear hP1 hD1 hS1
      refine lv_iinc (v := nI (i + 1)) (lv' := [(2, .int (nI (i + 1))), (3, .int (nI n)), (0, .ref h0), (1, .int v)]) hx hb d_Arrays_fill_AII_14 hl1 (k := 1) rfl (nI_add i 1) (by decide) rfl (fun ls hl2 => ?_)
      clear hl1; have hl1 := hl2; clear hl2
      refine lv_goto (tgt := 5) hx hb d_Arrays_fill_AII_17 (by decide) ?_
      rw [xf_upd i v f] at hP hD
      exact ih_3 (i + 1) (by first | assumption | omega) (by first | assumption | omega) _ _ _ (hP.sub [0] rfl) (hD.sub [0] (by decide) rfl) hS (lv_sub hl1 [1, 0, 2, 3] rfl)
