section XL
variable {p : Program} {l : Launch} {e : Env} {R : Room} {s : State} {m : MethodId} {args : Array Value} {below : List Frame} {meth : Method} {c : Code} {H : Heap} {T : State} {locs : List Loc} {cells slots : Nat} {Q Q' : State → Prop}
set_option maxHeartbeats 1000000 in
theorem xt_runS {y : MethodName} {bytes cc : ByteArray} {maxL nL mc ms n index : Nat} {ret : Option FieldType} {hs : List (Nat × Nat × Nat × Nat)} {rm : Room} {Pc : Array Value → State → Prop} {Qx : Array Value → State → Outcome → State → Prop} {free : Addr → Prop} {own : String} {As rest : List Value} {g : JFrame}
    (S : CallFix p m c cc nL s args lw_gd own) (hM : xt_Met l y (xws (.codeWith y bytes maxL ret hs)) rm Pc Qx mc ms free) (hc : Cond.codeWith y bytes maxL ret hs ∈ lw_gd) (hi : Cond.initialized y.cls ∈ lw_gd) (hl : Cond.methodLink own index y ∈ lw_gd) (hst : Cond.static y ∈ lw_gd) (hrc : rm.cells = mc) (hrs : rm.slots = ms)
    (hd : y.cls ≠ "java/lang/invoke/MethodHandle" ∧ y.cls ≠ "java/lang/invoke/VarHandle" ∧ (parseMethodDescriptor y.desc).map (fun d => d.parameters.length) = some n) (hR : rm.frames + 1 ≤ R.frames ∧ 8 + (maxL + 11) + rm.locals ≤ R.locals) (hp : PreS s H Pc As)
    (hg : g.method = m) (hn : As.length = n) (hsize : g.locals.size = nL) (hstack : g.stack = As.reverse ++ rest) (hW : 2 * g.monitorRoom + (rest.map fun v => v.category).sum ≤ 8) (hdg : decode cc g.pc = .ok (.invokestatic index, 3)) (hf : cells + mc ≤ R.cells ∧ slots + ms ≤ R.slots) :
    xt_Run p l e R s m args below meth c H locs cells slots mc ms g rest (Qx As.toArray) free := by
  obtain ⟨hx, hb, hml, ho, hts⟩ := S
  obtain ⟨hbl, hPc⟩ := hp
  intro T hT X
  obtain ⟨mk, methM, cM, hnamed, hmethM, hcodeM, hmaxL, hsig⟩ := xt_C.codeWith (hts _ hc)
  have hstatic : methM.isStatic = true := Cond.static_spec hnamed hmethM (hts _ hst)
  obtain ⟨kP, hkP, -⟩ := className_of_methodNamed hnamed
  have hinitP : kP.init = .initialized := Cond.initialized_spec (findClass_of_methodNamed hnamed) hkP (hts _ hi)
  have hlen : As.length = methM.sig.parameters.length := by
    have h2 := hd.2.2
    rw [hsig] at h2
    exact hn.trans (Option.some.inj h2).symm
  obtain ⟨vm₁, X₁, hstep₁⟩ := X.invokestatic hx ho (hts _ hl) hnamed hmethM hstatic hkP hinitP ⟨hd.1, hd.2.1⟩ (g := g) hg (argsL := As) (rest := rest) hlen hstack (by rw [hb]; exact hdg)
  have hnT : (T.setVm vm₁).methodNamed? y = some mk := X₁.named hnamed
  have hws := xw_mv hts hc
  obtain ⟨o, t, T', L, X', hL, e1, e2, hq, s1, s2⟩ := xt_call X₁ hM hrc hrs hR.1 hR.2 hws (fun a' U hW => word_at hW (Or.inl (by first | rfl | simp [Cond.onTables, Cond.keeps, Cond.steady])) (hts _ hi)) (xt_C.codeWith (a := #[]) (hws _ List.mem_cons_self #[] (T.setVm vm₁) X₁.warmed)) (g := { g with stack := rest }) hg (hsize.trans hml.symm) (by rw [hb]; exact hdg) hW hnT hf.1 hf.2 (a := As.toArray) (hbl _ _ _ _ (hPc (T.setVm vm₁) hT X₁.warmed))
  refine ⟨o, (T.setVm vm₁).calling { g with stack := rest } mk As.toArray, t, T', L, hT, X', hL, e1, e2, hq, fun v hv target h => hstep₁ _ fun acts => ?_, fun x hx tg h => hstep₁ _ fun acts => ?_⟩
  · rw [doInvoke_state]; exact (s1 v hv).trans h
  · rw [doInvoke_state]; exact (s2 x hx).trans h
theorem xt_toRun {mc ms : Nat} {g : JFrame} {rest : List Value} {Qa : State → Outcome → State → Prop} {free : Addr → Prop} (hr : xt_Run p l e R s m args below meth c H locs cells slots mc ms g rest Qa free) (hq : ∀ st o t, Qa st o t → ∃ v, o = .returned v) :
    va_Run p l e R s m args below meth c H locs cells slots mc ms g rest Qa free := by
  intro T hT X
  obtain ⟨o, st₀, t, T', L, h0, X', hL, e1, e2, q, s1, -⟩ := hr T hT X
  obtain ⟨v, rfl⟩ := hq _ _ _ q
  exact ⟨v, st₀, t, T', L, h0, X', hL, e1, e2, q, s1 v rfl⟩
theorem xt_Qi_ret {S : Type} {post : Int32 → S → Prop} {B : S → State → Prop} {A : Nat → Prop} {a : Array Value} : ∀ st o t, va_Qi post B A a st o t → ∃ v, o = Outcome.returned v := by
  rintro st o t ⟨⟨r, u, h, -⟩, -⟩
  exact ⟨_, h⟩
theorem xs_catch {A : Nat → Prop} {H0 H1 : Heap} {L : List Loc} (hS : va_S A H0 H locs) (h1 : H.size ≤ H1.size) (h2 : ∀ q : Nat, q < H.size → H1[q]? = H[q]?) (hL : ∀ q ∈ L, A q.base) : va_S A H0 H1 (locs ++ L) :=
  ⟨Nat.le_trans hS.1 h1, fun q hq hn => (h2 q (Nat.lt_of_lt_of_le hq hS.1)).trans (hS.2.1 q hq hn), fun q hq => (List.mem_append.mp hq).elim (hS.2.2 q) (hL q)⟩
theorem xp_kept {D : va_G} {ws : va_W} {H1 : Heap} (hP : va_P D classes ws H) (h2 : ∀ q : Nat, q < H.size → H1[q]? = H[q]?) : va_P D classes ws H1 := hP.kept (fun k x hx => h2 x.1 ((hP k x hx).lt))
end XL
def R_law : String := "TripleDeskLaw"
abbrev b_law_conditions : ByteArray := method_3_code
def y_law_conditions : MethodName := ⟨R_law, "conditions", "(LTripleDesk;[J)I"⟩
theorem d_law_conditions_0 : decode b_law_conditions 0 = .ok (.aload_n 1, 1) := by decide +kernel
theorem d_law_conditions_1 : decode b_law_conditions 1 = .ok (.iconst 0, 1) := by decide +kernel
theorem d_law_conditions_2 : decode b_law_conditions 2 = .ok (.aload_n 0, 1) := by decide +kernel
theorem d_law_conditions_3 : decode b_law_conditions 3 = .ok (.invokevirtual 7, 3) := by decide +kernel
theorem d_law_conditions_11 : decode b_law_conditions 11 = .ok (.astore_n 2, 1) := by decide +kernel
theorem d_law_conditions_12 : decode b_law_conditions 12 = .ok (.iconst 1, 1) := by decide +kernel
theorem d_law_conditions_13 : decode b_law_conditions 13 = .ok (.ireturn, 1) := by decide +kernel
set_option maxHeartbeats 4000000 in
set_option maxRecDepth 100000 in
theorem c_law_conditions (l : Launch) (hl : l.stackTraces = false) (D : va_G) (ax : Nat → ClassId) (d0 d1 d2 d3 d4 d5 d6 d7 d8 d9 d10 d11 d12 : Nat) (o0 : Nat) (sz : Nat) : xt_Met l y_law_conditions (xws (.codeWith y_law_conditions b_law_conditions 3 (some .int) [(0, 8, 11, 13)])) ({ frames := 130, cells := 1, slots := 6, locals := 5200 }) (va_Pc [.ref d0, .ref o0] (xo D ax [(d0, .inr (10, [.ref d1, .ref d2, .ref d3, .ref d4, .ref d5, .ref d6, .ref d7, .ref d8, .ref d9, .ref d10, .ref d11, .ref d12, .int 0])), (o0, .inl (ax 4, 1, .inr (.inl (fun _ => 0))))] sz)) ((va_Qi (fun (r : Int32) (u : Nat → Nat) => r = 1) (fun (_ : Nat → Nat) (_ : State) => True) (va_A [(d0, .inr (10, [.ref d1, .ref d2, .ref d3, .ref d4, .ref d5, .ref d6, .ref d7, .ref d8, .ref d9, .ref d10, .ref d11, .ref d12, .int 0])), (o0, .inl (ax 4, 1, .inr (.inl (fun _ => 0))))] sz))) 1 6 (va_A [(d0, .inr (10, [.ref d1, .ref d2, .ref d3, .ref d4, .ref d5, .ref d6, .ref d7, .ref d8, .ref d9, .ref d10, .ref d11, .ref d12, .int 0])), (o0, .inl (ax 4, 1, .inr (.inl (fun _ => 0))))] sz) := by
  refine xt_Met.ofWith (cc := b_law_conditions) (maxL := 3) (ret := (some .int)) (hs := [(0, 8, 11, 13)]) (by decide) rfl ?_
  intro p e s m args below meth c s₁ B hml htab hv
  obtain ⟨rfl, hsz, hP, hK, hD0⟩ := hv
  have hx := B.exec
  have hb := B.bytes
  have hr := B.returns
  have hts := xw_hts B.pre
  have hown : s.vm.findClass R_law = some m.cls := findClass_of_methodNamed B.named
  have hlocks := B.notSynchronized
  subst hsz
  have hD := hD0.self (sz := s.heap.size)
  have hN := xz_entry hP
  generalize hAe : va_A [(d0, .inr (10, [.ref d1, .ref d2, .ref d3, .ref d4, .ref d5, .ref d6, .ref d7, .ref d8, .ref d9, .ref d10, .ref d11, .ref d12, .int 0])), (o0, .inl (ax 4, 1, .inr (.inl (fun _ => 0))))] s.heap.size = A at hD hN ⊢
  have hA : ∀ q : Nat, s.heap.size ≤ q → A q := fun q h => by rw [← hAe]; exact Or.inr h
  have hS : va_S A s.heap s.heap [] := va_S.rf
  have hl0 := lv_entry ([.ref d0, .ref o0]) (n := 3) (Nat.le_of_ble_eq_true rfl)
  rw [lg_entry_eq]
  generalize (lg_sl ([.ref d0, .ref o0]) ++ List.replicate (3 - (lg_sl ([.ref d0, .ref o0])).length) Slot.unset).toArray = ls at hl0 ⊢
  have hl1 : lv_has ls 3 [(0, .ref d0), (1, .ref o0)] := hl0
  refine lv_aload_n hx hb d_law_conditions_0 rfl (lv_at hl1 1 rfl) ?_
  refine lv_iconst (v := 0) hx hb d_law_conditions_1 (by decide) ?_
  refine lv_aload_n hx hb d_law_conditions_2 rfl (lv_at hl1 0 rfl) ?_
  have hPc := hP.sub (ws' := [(d0, .inr (10, [.ref d1, .ref d2, .ref d3, .ref d4, .ref d5, .ref d6, .ref d7, .ref d8, .ref d9, .ref d10, .ref d11, .ref d12, .int 0]))]) [0] rfl
  have hDc := hD.sub (ws' := [(d0, .inr (10, [.ref d1, .ref d2, .ref d3, .ref d4, .ref d5, .ref d6, .ref d7, .ref d8, .ref d9, .ref d10, .ref d11, .ref d12, .int 0]))]) [0] (by decide) rfl
  have hFc := va_free (wc := [(d0, .inr (10, [.ref d1, .ref d2, .ref d3, .ref d4, .ref d5, .ref d6, .ref d7, .ref d8, .ref d9, .ref d10, .ref d11, .ref d12, .int 0]))]) hD hS hA [0] rfl
  have hz := xz_of hN hS
  refine xt_catch (fr2 := A) (own := R_law) (cls := "java/lang/IllegalStateException") (xt_runV (As := []) (rest := [.int 0, .ref o0]) ⟨hx, hb, hml, hown, hts⟩ (c_Desk_conditions l hl D ax d0 d1 d2 d3 d4 d5 d6 d7 d8 d9 d10 d11 d12 s.heap.size) (xcV (n := 0) hts wd_661 wd_1 wd_658 wd_659 wd_660 rfl rfl (by decide +kernel) ⟨Nat.le_of_ble_eq_true rfl, Nat.le_of_ble_eq_true rfl⟩) (xpV (ci := 10) (q0 := 0) (As := []) hPc hK hz hDc rfl rfl) rfl rfl hl1.1 rfl (lv_room (Nat.le_of_ble_eq_true rfl)) d_law_conditions_3 ⟨Nat.le_of_ble_eq_true rfl, Nat.le_of_ble_eq_true rfl⟩) (ent := ⟨0, 8, 11, 13⟩) (restT := []) htab (by decide) (by decide) hown (hts _ wd_657) (fun xq H_1 L hL hz1 hk1 => ?_)
  have hP := xp_kept hP hk1
  have hS := xs_catch hS hz1 hk1 (fun q hq => hFc _ (hL q hq))
  refine W.widen (k := 1) (n := 6) (Nat.le_of_ble_eq_true rfl) (Nat.le_of_ble_eq_true rfl) ?_
  refine lv_astore_n (lv' := [(2, .ref xq), (0, .ref d0), (1, .ref o0)]) hx hb d_law_conditions_11 rfl hl1 (by decide) rfl (fun ls hl1 => ?_)
  refine lv_iconst (v := 1) hx hb d_law_conditions_12 (by decide) ?_
  refine xt_weak (fun t h => xt_ofMQ h) ?_
  exact W.iret (v := 1) hx hb hr (fun t ht hW => ⟨⟨1, fun _ => 0, rfl, rfl, trivial⟩, hS.F ht⟩) hS.2.2 d_law_conditions_13
abbrev b_law_about : ByteArray := method_4_code
def y_law_about : MethodName := ⟨R_law, "about", "(LTripleDesk;II[J)I"⟩
theorem d_law_about_0 : decode b_law_about 0 = .ok (.aload_n 3, 1) := by decide +kernel
theorem d_law_about_1 : decode b_law_about 1 = .ok (.iconst 0, 1) := by decide +kernel
theorem d_law_about_2 : decode b_law_about 2 = .ok (.aload_n 0, 1) := by decide +kernel
theorem d_law_about_3 : decode b_law_about 3 = .ok (.iload_n 1, 1) := by decide +kernel
theorem d_law_about_4 : decode b_law_about 4 = .ok (.iload_n 2, 1) := by decide +kernel
theorem d_law_about_5 : decode b_law_about 5 = .ok (.invokevirtual 15, 3) := by decide +kernel
theorem d_law_about_13 : decode b_law_about 13 = .ok (.astore 4, 2) := by decide +kernel
theorem d_law_about_15 : decode b_law_about 15 = .ok (.iconst 1, 1) := by decide +kernel
theorem d_law_about_16 : decode b_law_about 16 = .ok (.ireturn, 1) := by decide +kernel
set_option maxHeartbeats 4000000 in
set_option maxRecDepth 100000 in
theorem c_law_about (l : Launch) (hl : l.stackTraces = false) (D : va_G) (ax : Nat → ClassId) (d0 d1 d2 d3 d4 d5 d6 d7 d8 d9 d10 d11 d12 : Nat) (o0 : Nat) (x1 x2 : Int32) (sz : Nat) : xt_Met l y_law_about (xws (.codeWith y_law_about b_law_about 5 (some .int) [(0, 10, 13, 13), (0, 10, 17, 19)])) ({ frames := 130, cells := 1, slots := 6, locals := 5200 }) (va_Pc [.ref d0, .int x1, .int x2, .ref o0] (xo D ax [(d0, .inr (10, [.ref d1, .ref d2, .ref d3, .ref d4, .ref d5, .ref d6, .ref d7, .ref d8, .ref d9, .ref d10, .ref d11, .ref d12, .int 0])), (o0, .inl (ax 4, 1, .inr (.inl (fun _ => 0))))] sz)) ((va_Qi (fun (r : Int32) (u : Nat → Nat) => r = 1) (fun (_ : Nat → Nat) (_ : State) => True) (va_A [(d0, .inr (10, [.ref d1, .ref d2, .ref d3, .ref d4, .ref d5, .ref d6, .ref d7, .ref d8, .ref d9, .ref d10, .ref d11, .ref d12, .int 0])), (o0, .inl (ax 4, 1, .inr (.inl (fun _ => 0))))] sz))) 1 6 (va_A [(d0, .inr (10, [.ref d1, .ref d2, .ref d3, .ref d4, .ref d5, .ref d6, .ref d7, .ref d8, .ref d9, .ref d10, .ref d11, .ref d12, .int 0])), (o0, .inl (ax 4, 1, .inr (.inl (fun _ => 0))))] sz) := by
  refine xt_Met.ofWith (cc := b_law_about) (maxL := 5) (ret := (some .int)) (hs := [(0, 10, 13, 13), (0, 10, 17, 19)]) (by decide) rfl ?_
  intro p e s m args below meth c s₁ B hml htab hv
  obtain ⟨rfl, hsz, hP, hK, hD0⟩ := hv
  have hx := B.exec
  have hb := B.bytes
  have hr := B.returns
  have hts := xw_hts B.pre
  have hown : s.vm.findClass R_law = some m.cls := findClass_of_methodNamed B.named
  have hlocks := B.notSynchronized
  subst hsz
  have hD := hD0.self (sz := s.heap.size)
  have hN := xz_entry hP
  generalize hAe : va_A [(d0, .inr (10, [.ref d1, .ref d2, .ref d3, .ref d4, .ref d5, .ref d6, .ref d7, .ref d8, .ref d9, .ref d10, .ref d11, .ref d12, .int 0])), (o0, .inl (ax 4, 1, .inr (.inl (fun _ => 0))))] s.heap.size = A at hD hN ⊢
  have hA : ∀ q : Nat, s.heap.size ≤ q → A q := fun q h => by rw [← hAe]; exact Or.inr h
  have hS : va_S A s.heap s.heap [] := va_S.rf
  have hl0 := lv_entry ([.ref d0, .int x1, .int x2, .ref o0]) (n := 5) (Nat.le_of_ble_eq_true rfl)
  rw [lg_entry_eq]
  generalize (lg_sl ([.ref d0, .int x1, .int x2, .ref o0]) ++ List.replicate (5 - (lg_sl ([.ref d0, .int x1, .int x2, .ref o0])).length) Slot.unset).toArray = ls at hl0 ⊢
  have hl1 : lv_has ls 5 [(0, .ref d0), (1, .int x1), (2, .int x2), (3, .ref o0)] := hl0
  refine lv_aload_n hx hb d_law_about_0 rfl (lv_at hl1 3 rfl) ?_
  refine lv_iconst (v := 0) hx hb d_law_about_1 (by decide) ?_
  refine lv_aload_n hx hb d_law_about_2 rfl (lv_at hl1 0 rfl) ?_
  refine lv_iload_n hx hb d_law_about_3 rfl (lv_at hl1 1 rfl) ?_
  refine lv_iload_n hx hb d_law_about_4 rfl (lv_at hl1 2 rfl) ?_
  have hPc := hP.sub (ws' := [(d0, .inr (10, [.ref d1, .ref d2, .ref d3, .ref d4, .ref d5, .ref d6, .ref d7, .ref d8, .ref d9, .ref d10, .ref d11, .ref d12, .int 0]))]) [0] rfl
  have hDc := hD.sub (ws' := [(d0, .inr (10, [.ref d1, .ref d2, .ref d3, .ref d4, .ref d5, .ref d6, .ref d7, .ref d8, .ref d9, .ref d10, .ref d11, .ref d12, .int 0]))]) [0] (by decide) rfl
  have hFc := va_free (wc := [(d0, .inr (10, [.ref d1, .ref d2, .ref d3, .ref d4, .ref d5, .ref d6, .ref d7, .ref d8, .ref d9, .ref d10, .ref d11, .ref d12, .int 0]))]) hD hS hA [0] rfl
  have hz := xz_of hN hS
  refine xt_catch (fr2 := A) (own := R_law) (cls := "java/lang/IllegalStateException") (xt_runV (As := [.int x1, .int x2]) (rest := [.int 0, .ref o0]) ⟨hx, hb, hml, hown, hts⟩ (c_Desk_about l hl D ax d0 d1 d2 d3 d4 d5 d6 d7 d8 d9 d10 d11 d12 x1 x2 s.heap.size) (xcV (n := 2) hts wd_736 wd_1 wd_733 wd_734 wd_735 rfl rfl (by decide +kernel) ⟨Nat.le_of_ble_eq_true rfl, Nat.le_of_ble_eq_true rfl⟩) (xpV (ci := 10) (q0 := 0) (As := [.int x1, .int x2]) hPc hK hz hDc rfl rfl) rfl rfl hl1.1 rfl (lv_room (Nat.le_of_ble_eq_true rfl)) d_law_about_5 ⟨Nat.le_of_ble_eq_true rfl, Nat.le_of_ble_eq_true rfl⟩) (ent := ⟨0, 10, 13, 13⟩) (restT := [⟨0, 10, 17, 19⟩]) htab (by decide) (by decide) hown (hts _ wd_657) (fun xq H_1 L hL hz1 hk1 => ?_)
  have hP := xp_kept hP hk1
  have hS := xs_catch hS hz1 hk1 (fun q hq => hFc _ (hL q hq))
  refine W.widen (k := 1) (n := 6) (Nat.le_of_ble_eq_true rfl) (Nat.le_of_ble_eq_true rfl) ?_
  refine lv_astore (lv' := [(4, .ref xq), (0, .ref d0), (1, .int x1), (2, .int x2), (3, .ref o0)]) hx hb d_law_about_13 hl1 (by decide) rfl (fun ls hl1 => ?_)
  refine lv_iconst (v := 1) hx hb d_law_about_15 (by decide) ?_
  refine xt_weak (fun t h => xt_ofMQ h) ?_
  exact W.iret (v := 1) hx hb hr (fun t ht hW => ⟨⟨1, fun _ => 0, rfl, rfl, trivial⟩, hS.F ht⟩) hS.2.2 d_law_about_16
abbrev b_law_valid : ByteArray := method_5_code
def y_law_valid : MethodName := ⟨R_law, "valid", "(LTripleDesk;I[J)I"⟩
theorem d_law_valid_0 : decode b_law_valid 0 = .ok (.aload_n 2, 1) := by decide +kernel
theorem d_law_valid_1 : decode b_law_valid 1 = .ok (.iconst 0, 1) := by decide +kernel
theorem d_law_valid_2 : decode b_law_valid 2 = .ok (.aload_n 0, 1) := by decide +kernel
theorem d_law_valid_3 : decode b_law_valid 3 = .ok (.iload_n 1, 1) := by decide +kernel
theorem d_law_valid_4 : decode b_law_valid 4 = .ok (.invokevirtual 21, 3) := by decide +kernel
theorem d_law_valid_12 : decode b_law_valid 12 = .ok (.astore_n 3, 1) := by decide +kernel
theorem d_law_valid_13 : decode b_law_valid 13 = .ok (.iconst 1, 1) := by decide +kernel
theorem d_law_valid_14 : decode b_law_valid 14 = .ok (.ireturn, 1) := by decide +kernel
set_option maxHeartbeats 4000000 in
set_option maxRecDepth 100000 in
theorem c_law_valid (l : Launch) (hl : l.stackTraces = false) (D : va_G) (ax : Nat → ClassId) (d0 d1 d2 d3 d4 d5 d6 d7 d8 d9 d10 d11 d12 : Nat) (o0 : Nat) (x1 : Int32) (sz : Nat) : xt_Met l y_law_valid (xws (.codeWith y_law_valid b_law_valid 4 (some .int) [(0, 9, 12, 13), (0, 9, 15, 19)])) ({ frames := 130, cells := 1, slots := 6, locals := 5200 }) (va_Pc [.ref d0, .int x1, .ref o0] (xo D ax [(d0, .inr (10, [.ref d1, .ref d2, .ref d3, .ref d4, .ref d5, .ref d6, .ref d7, .ref d8, .ref d9, .ref d10, .ref d11, .ref d12, .int 0])), (o0, .inl (ax 4, 1, .inr (.inl (fun _ => 0))))] sz)) ((va_Qi (fun (r : Int32) (u : Nat → Nat) => r = 1) (fun (_ : Nat → Nat) (_ : State) => True) (va_A [(d0, .inr (10, [.ref d1, .ref d2, .ref d3, .ref d4, .ref d5, .ref d6, .ref d7, .ref d8, .ref d9, .ref d10, .ref d11, .ref d12, .int 0])), (o0, .inl (ax 4, 1, .inr (.inl (fun _ => 0))))] sz))) 1 6 (va_A [(d0, .inr (10, [.ref d1, .ref d2, .ref d3, .ref d4, .ref d5, .ref d6, .ref d7, .ref d8, .ref d9, .ref d10, .ref d11, .ref d12, .int 0])), (o0, .inl (ax 4, 1, .inr (.inl (fun _ => 0))))] sz) := by
  refine xt_Met.ofWith (cc := b_law_valid) (maxL := 4) (ret := (some .int)) (hs := [(0, 9, 12, 13), (0, 9, 15, 19)]) (by decide) rfl ?_
  intro p e s m args below meth c s₁ B hml htab hv
  obtain ⟨rfl, hsz, hP, hK, hD0⟩ := hv
  have hx := B.exec
  have hb := B.bytes
  have hr := B.returns
  have hts := xw_hts B.pre
  have hown : s.vm.findClass R_law = some m.cls := findClass_of_methodNamed B.named
  have hlocks := B.notSynchronized
  subst hsz
  have hD := hD0.self (sz := s.heap.size)
  have hN := xz_entry hP
  generalize hAe : va_A [(d0, .inr (10, [.ref d1, .ref d2, .ref d3, .ref d4, .ref d5, .ref d6, .ref d7, .ref d8, .ref d9, .ref d10, .ref d11, .ref d12, .int 0])), (o0, .inl (ax 4, 1, .inr (.inl (fun _ => 0))))] s.heap.size = A at hD hN ⊢
  have hA : ∀ q : Nat, s.heap.size ≤ q → A q := fun q h => by rw [← hAe]; exact Or.inr h
  have hS : va_S A s.heap s.heap [] := va_S.rf
  have hl0 := lv_entry ([.ref d0, .int x1, .ref o0]) (n := 4) (Nat.le_of_ble_eq_true rfl)
  rw [lg_entry_eq]
  generalize (lg_sl ([.ref d0, .int x1, .ref o0]) ++ List.replicate (4 - (lg_sl ([.ref d0, .int x1, .ref o0])).length) Slot.unset).toArray = ls at hl0 ⊢
  have hl1 : lv_has ls 4 [(0, .ref d0), (1, .int x1), (2, .ref o0)] := hl0
  refine lv_aload_n hx hb d_law_valid_0 rfl (lv_at hl1 2 rfl) ?_
  refine lv_iconst (v := 0) hx hb d_law_valid_1 (by decide) ?_
  refine lv_aload_n hx hb d_law_valid_2 rfl (lv_at hl1 0 rfl) ?_
  refine lv_iload_n hx hb d_law_valid_3 rfl (lv_at hl1 1 rfl) ?_
  have hPc := hP.sub (ws' := [(d0, .inr (10, [.ref d1, .ref d2, .ref d3, .ref d4, .ref d5, .ref d6, .ref d7, .ref d8, .ref d9, .ref d10, .ref d11, .ref d12, .int 0]))]) [0] rfl
  have hDc := hD.sub (ws' := [(d0, .inr (10, [.ref d1, .ref d2, .ref d3, .ref d4, .ref d5, .ref d6, .ref d7, .ref d8, .ref d9, .ref d10, .ref d11, .ref d12, .int 0]))]) [0] (by decide) rfl
  have hFc := va_free (wc := [(d0, .inr (10, [.ref d1, .ref d2, .ref d3, .ref d4, .ref d5, .ref d6, .ref d7, .ref d8, .ref d9, .ref d10, .ref d11, .ref d12, .int 0]))]) hD hS hA [0] rfl
  have hz := xz_of hN hS
  refine xt_catch (fr2 := A) (own := R_law) (cls := "java/lang/IllegalStateException") (xt_runV (As := [.int x1]) (rest := [.int 0, .ref o0]) ⟨hx, hb, hml, hown, hts⟩ (c_Desk_valid l hl D ax d0 d1 d2 d3 d4 d5 d6 d7 d8 d9 d10 d11 d12 x1 s.heap.size) (xcV (n := 1) hts wd_888 wd_1 wd_885 wd_886 wd_887 rfl rfl (by decide +kernel) ⟨Nat.le_of_ble_eq_true rfl, Nat.le_of_ble_eq_true rfl⟩) (xpV (ci := 10) (q0 := 0) (As := [.int x1]) hPc hK hz hDc rfl rfl) rfl rfl hl1.1 rfl (lv_room (Nat.le_of_ble_eq_true rfl)) d_law_valid_4 ⟨Nat.le_of_ble_eq_true rfl, Nat.le_of_ble_eq_true rfl⟩) (ent := ⟨0, 9, 12, 13⟩) (restT := [⟨0, 9, 15, 19⟩]) htab (by decide) (by decide) hown (hts _ wd_657) (fun xq H_1 L hL hz1 hk1 => ?_)
  have hP := xp_kept hP hk1
  have hS := xs_catch hS hz1 hk1 (fun q hq => hFc _ (hL q hq))
  refine W.widen (k := 1) (n := 6) (Nat.le_of_ble_eq_true rfl) (Nat.le_of_ble_eq_true rfl) ?_
  refine lv_astore_n (lv' := [(3, .ref xq), (0, .ref d0), (1, .int x1), (2, .ref o0)]) hx hb d_law_valid_12 rfl hl1 (by decide) rfl (fun ls hl1 => ?_)
  refine lv_iconst (v := 1) hx hb d_law_valid_13 (by decide) ?_
  refine xt_weak (fun t h => xt_ofMQ h) ?_
  exact W.iret (v := 1) hx hb hr (fun t ht hW => ⟨⟨1, fun _ => 0, rfl, rfl, trivial⟩, hS.F ht⟩) hS.2.2 d_law_valid_14
abbrev b_law_proved : ByteArray := method_6_code
def y_law_proved : MethodName := ⟨R_law, "proved", "(LTripleDesk;[J)I"⟩
theorem d_law_proved_0 : decode b_law_proved 0 = .ok (.aload_n 1, 1) := by decide +kernel
theorem d_law_proved_1 : decode b_law_proved 1 = .ok (.iconst 0, 1) := by decide +kernel
theorem d_law_proved_2 : decode b_law_proved 2 = .ok (.aload_n 0, 1) := by decide +kernel
theorem d_law_proved_3 : decode b_law_proved 3 = .ok (.invokevirtual 25, 3) := by decide +kernel
theorem d_law_proved_18 : decode b_law_proved 18 = .ok (.astore_n 2, 1) := by decide +kernel
theorem d_law_proved_19 : decode b_law_proved 19 = .ok (.iconst 1, 1) := by decide +kernel
theorem d_law_proved_20 : decode b_law_proved 20 = .ok (.ireturn, 1) := by decide +kernel
set_option maxHeartbeats 4000000 in
set_option maxRecDepth 100000 in
theorem c_law_proved (l : Launch) (hl : l.stackTraces = false) (D : va_G) (ax : Nat → ClassId) (d0 d1 d2 d3 d4 d5 d6 d7 d8 d9 d10 d11 d12 : Nat) (o0 : Nat) (sz : Nat) : xt_Met l y_law_proved (xws (.codeWith y_law_proved b_law_proved 3 (some .int) [(0, 15, 18, 13)])) ({ frames := 130, cells := 1, slots := 6, locals := 5200 }) (va_Pc [.ref d0, .ref o0] (xo D ax [(d0, .inr (10, [.ref d1, .ref d2, .ref d3, .ref d4, .ref d5, .ref d6, .ref d7, .ref d8, .ref d9, .ref d10, .ref d11, .ref d12, .int 0])), (o0, .inl (ax 4, 1, .inr (.inl (fun _ => 0))))] sz)) ((va_Qi (fun (r : Int32) (u : Nat → Nat) => r = 1) (fun (_ : Nat → Nat) (_ : State) => True) (va_A [(d0, .inr (10, [.ref d1, .ref d2, .ref d3, .ref d4, .ref d5, .ref d6, .ref d7, .ref d8, .ref d9, .ref d10, .ref d11, .ref d12, .int 0])), (o0, .inl (ax 4, 1, .inr (.inl (fun _ => 0))))] sz))) 1 6 (va_A [(d0, .inr (10, [.ref d1, .ref d2, .ref d3, .ref d4, .ref d5, .ref d6, .ref d7, .ref d8, .ref d9, .ref d10, .ref d11, .ref d12, .int 0])), (o0, .inl (ax 4, 1, .inr (.inl (fun _ => 0))))] sz) := by
  refine xt_Met.ofWith (cc := b_law_proved) (maxL := 3) (ret := (some .int)) (hs := [(0, 15, 18, 13)]) (by decide) rfl ?_
  intro p e s m args below meth c s₁ B hml htab hv
  obtain ⟨rfl, hsz, hP, hK, hD0⟩ := hv
  have hx := B.exec
  have hb := B.bytes
  have hr := B.returns
  have hts := xw_hts B.pre
  have hown : s.vm.findClass R_law = some m.cls := findClass_of_methodNamed B.named
  have hlocks := B.notSynchronized
  subst hsz
  have hD := hD0.self (sz := s.heap.size)
  have hN := xz_entry hP
  generalize hAe : va_A [(d0, .inr (10, [.ref d1, .ref d2, .ref d3, .ref d4, .ref d5, .ref d6, .ref d7, .ref d8, .ref d9, .ref d10, .ref d11, .ref d12, .int 0])), (o0, .inl (ax 4, 1, .inr (.inl (fun _ => 0))))] s.heap.size = A at hD hN ⊢
  have hA : ∀ q : Nat, s.heap.size ≤ q → A q := fun q h => by rw [← hAe]; exact Or.inr h
  have hS : va_S A s.heap s.heap [] := va_S.rf
  have hl0 := lv_entry ([.ref d0, .ref o0]) (n := 3) (Nat.le_of_ble_eq_true rfl)
  rw [lg_entry_eq]
  generalize (lg_sl ([.ref d0, .ref o0]) ++ List.replicate (3 - (lg_sl ([.ref d0, .ref o0])).length) Slot.unset).toArray = ls at hl0 ⊢
  have hl1 : lv_has ls 3 [(0, .ref d0), (1, .ref o0)] := hl0
  refine lv_aload_n hx hb d_law_proved_0 rfl (lv_at hl1 1 rfl) ?_
  refine lv_iconst (v := 0) hx hb d_law_proved_1 (by decide) ?_
  refine lv_aload_n hx hb d_law_proved_2 rfl (lv_at hl1 0 rfl) ?_
  have hPc := hP.sub (ws' := [(d0, .inr (10, [.ref d1, .ref d2, .ref d3, .ref d4, .ref d5, .ref d6, .ref d7, .ref d8, .ref d9, .ref d10, .ref d11, .ref d12, .int 0]))]) [0] rfl
  have hDc := hD.sub (ws' := [(d0, .inr (10, [.ref d1, .ref d2, .ref d3, .ref d4, .ref d5, .ref d6, .ref d7, .ref d8, .ref d9, .ref d10, .ref d11, .ref d12, .int 0]))]) [0] (by decide) rfl
  have hFc := va_free (wc := [(d0, .inr (10, [.ref d1, .ref d2, .ref d3, .ref d4, .ref d5, .ref d6, .ref d7, .ref d8, .ref d9, .ref d10, .ref d11, .ref d12, .int 0]))]) hD hS hA [0] rfl
  have hz := xz_of hN hS
  refine xt_catch (fr2 := A) (own := R_law) (cls := "java/lang/IllegalStateException") (xt_runV (As := []) (rest := [.int 0, .ref o0]) ⟨hx, hb, hml, hown, hts⟩ (c_Desk_proved l hl D ax d0 d1 d2 d3 d4 d5 d6 d7 d8 d9 d10 d11 d12 s.heap.size) (xcV (n := 0) hts wd_899 wd_1 wd_896 wd_897 wd_898 rfl rfl (by decide +kernel) ⟨Nat.le_of_ble_eq_true rfl, Nat.le_of_ble_eq_true rfl⟩) (xpV (ci := 10) (q0 := 0) (As := []) hPc hK hz hDc rfl rfl) rfl rfl hl1.1 rfl (lv_room (Nat.le_of_ble_eq_true rfl)) d_law_proved_3 ⟨Nat.le_of_ble_eq_true rfl, Nat.le_of_ble_eq_true rfl⟩) (ent := ⟨0, 15, 18, 13⟩) (restT := []) htab (by decide) (by decide) hown (hts _ wd_657) (fun xq H_1 L hL hz1 hk1 => ?_)
  have hP := xp_kept hP hk1
  have hS := xs_catch hS hz1 hk1 (fun q hq => hFc _ (hL q hq))
  refine W.widen (k := 1) (n := 6) (Nat.le_of_ble_eq_true rfl) (Nat.le_of_ble_eq_true rfl) ?_
  refine lv_astore_n (lv' := [(2, .ref xq), (0, .ref d0), (1, .ref o0)]) hx hb d_law_proved_18 rfl hl1 (by decide) rfl (fun ls hl1 => ?_)
  refine lv_iconst (v := 1) hx hb d_law_proved_19 (by decide) ?_
  refine xt_weak (fun t h => xt_ofMQ h) ?_
  exact W.iret (v := 1) hx hb hr (fun t ht hW => ⟨⟨1, fun _ => 0, rfl, rfl, trivial⟩, hS.F ht⟩) hS.2.2 d_law_proved_20
abbrev b_law_counter : ByteArray := method_7_code
def y_law_counter : MethodName := ⟨R_law, "counter", "(LTripleDesk;II[J)I"⟩
theorem d_law_counter_0 : decode b_law_counter 0 = .ok (.aload_n 3, 1) := by decide +kernel
theorem d_law_counter_1 : decode b_law_counter 1 = .ok (.iconst 0, 1) := by decide +kernel
theorem d_law_counter_2 : decode b_law_counter 2 = .ok (.aload_n 0, 1) := by decide +kernel
theorem d_law_counter_3 : decode b_law_counter 3 = .ok (.iload_n 1, 1) := by decide +kernel
theorem d_law_counter_4 : decode b_law_counter 4 = .ok (.iload_n 2, 1) := by decide +kernel
theorem d_law_counter_5 : decode b_law_counter 5 = .ok (.invokevirtual 29, 3) := by decide +kernel
theorem d_law_counter_13 : decode b_law_counter 13 = .ok (.astore 4, 2) := by decide +kernel
theorem d_law_counter_15 : decode b_law_counter 15 = .ok (.iconst 1, 1) := by decide +kernel
theorem d_law_counter_16 : decode b_law_counter 16 = .ok (.ireturn, 1) := by decide +kernel
set_option maxHeartbeats 4000000 in
set_option maxRecDepth 100000 in
theorem c_law_counter (l : Launch) (hl : l.stackTraces = false) (D : va_G) (ax : Nat → ClassId) (d0 d1 d2 d3 d4 d5 d6 d7 d8 d9 d10 d11 d12 : Nat) (o0 : Nat) (x1 x2 : Int32) (sz : Nat) : xt_Met l y_law_counter (xws (.codeWith y_law_counter b_law_counter 5 (some .int) [(0, 10, 13, 13), (0, 10, 17, 19)])) ({ frames := 130, cells := 1, slots := 6, locals := 5200 }) (va_Pc [.ref d0, .int x1, .int x2, .ref o0] (xo D ax [(d0, .inr (10, [.ref d1, .ref d2, .ref d3, .ref d4, .ref d5, .ref d6, .ref d7, .ref d8, .ref d9, .ref d10, .ref d11, .ref d12, .int 0])), (o0, .inl (ax 4, 1, .inr (.inl (fun _ => 0))))] sz)) ((va_Qi (fun (r : Int32) (u : Nat → Nat) => r = 1) (fun (_ : Nat → Nat) (_ : State) => True) (va_A [(d0, .inr (10, [.ref d1, .ref d2, .ref d3, .ref d4, .ref d5, .ref d6, .ref d7, .ref d8, .ref d9, .ref d10, .ref d11, .ref d12, .int 0])), (o0, .inl (ax 4, 1, .inr (.inl (fun _ => 0))))] sz))) 1 6 (va_A [(d0, .inr (10, [.ref d1, .ref d2, .ref d3, .ref d4, .ref d5, .ref d6, .ref d7, .ref d8, .ref d9, .ref d10, .ref d11, .ref d12, .int 0])), (o0, .inl (ax 4, 1, .inr (.inl (fun _ => 0))))] sz) := by
  refine xt_Met.ofWith (cc := b_law_counter) (maxL := 5) (ret := (some .int)) (hs := [(0, 10, 13, 13), (0, 10, 17, 19)]) (by decide) rfl ?_
  intro p e s m args below meth c s₁ B hml htab hv
  obtain ⟨rfl, hsz, hP, hK, hD0⟩ := hv
  have hx := B.exec
  have hb := B.bytes
  have hr := B.returns
  have hts := xw_hts B.pre
  have hown : s.vm.findClass R_law = some m.cls := findClass_of_methodNamed B.named
  have hlocks := B.notSynchronized
  subst hsz
  have hD := hD0.self (sz := s.heap.size)
  have hN := xz_entry hP
  generalize hAe : va_A [(d0, .inr (10, [.ref d1, .ref d2, .ref d3, .ref d4, .ref d5, .ref d6, .ref d7, .ref d8, .ref d9, .ref d10, .ref d11, .ref d12, .int 0])), (o0, .inl (ax 4, 1, .inr (.inl (fun _ => 0))))] s.heap.size = A at hD hN ⊢
  have hA : ∀ q : Nat, s.heap.size ≤ q → A q := fun q h => by rw [← hAe]; exact Or.inr h
  have hS : va_S A s.heap s.heap [] := va_S.rf
  have hl0 := lv_entry ([.ref d0, .int x1, .int x2, .ref o0]) (n := 5) (Nat.le_of_ble_eq_true rfl)
  rw [lg_entry_eq]
  generalize (lg_sl ([.ref d0, .int x1, .int x2, .ref o0]) ++ List.replicate (5 - (lg_sl ([.ref d0, .int x1, .int x2, .ref o0])).length) Slot.unset).toArray = ls at hl0 ⊢
  have hl1 : lv_has ls 5 [(0, .ref d0), (1, .int x1), (2, .int x2), (3, .ref o0)] := hl0
  refine lv_aload_n hx hb d_law_counter_0 rfl (lv_at hl1 3 rfl) ?_
  refine lv_iconst (v := 0) hx hb d_law_counter_1 (by decide) ?_
  refine lv_aload_n hx hb d_law_counter_2 rfl (lv_at hl1 0 rfl) ?_
  refine lv_iload_n hx hb d_law_counter_3 rfl (lv_at hl1 1 rfl) ?_
  refine lv_iload_n hx hb d_law_counter_4 rfl (lv_at hl1 2 rfl) ?_
  have hPc := hP.sub (ws' := [(d0, .inr (10, [.ref d1, .ref d2, .ref d3, .ref d4, .ref d5, .ref d6, .ref d7, .ref d8, .ref d9, .ref d10, .ref d11, .ref d12, .int 0]))]) [0] rfl
  have hDc := hD.sub (ws' := [(d0, .inr (10, [.ref d1, .ref d2, .ref d3, .ref d4, .ref d5, .ref d6, .ref d7, .ref d8, .ref d9, .ref d10, .ref d11, .ref d12, .int 0]))]) [0] (by decide) rfl
  have hFc := va_free (wc := [(d0, .inr (10, [.ref d1, .ref d2, .ref d3, .ref d4, .ref d5, .ref d6, .ref d7, .ref d8, .ref d9, .ref d10, .ref d11, .ref d12, .int 0]))]) hD hS hA [0] rfl
  have hz := xz_of hN hS
  refine xt_catch (fr2 := A) (own := R_law) (cls := "java/lang/IllegalStateException") (xt_runV (As := [.int x1, .int x2]) (rest := [.int 0, .ref o0]) ⟨hx, hb, hml, hown, hts⟩ (c_Desk_counter l hl D ax d0 d1 d2 d3 d4 d5 d6 d7 d8 d9 d10 d11 d12 x1 x2 s.heap.size) (xcV (n := 2) hts wd_906 wd_1 wd_903 wd_904 wd_905 rfl rfl (by decide +kernel) ⟨Nat.le_of_ble_eq_true rfl, Nat.le_of_ble_eq_true rfl⟩) (xpV (ci := 10) (q0 := 0) (As := [.int x1, .int x2]) hPc hK hz hDc rfl rfl) rfl rfl hl1.1 rfl (lv_room (Nat.le_of_ble_eq_true rfl)) d_law_counter_5 ⟨Nat.le_of_ble_eq_true rfl, Nat.le_of_ble_eq_true rfl⟩) (ent := ⟨0, 10, 13, 13⟩) (restT := [⟨0, 10, 17, 19⟩]) htab (by decide) (by decide) hown (hts _ wd_657) (fun xq H_1 L hL hz1 hk1 => ?_)
  have hP := xp_kept hP hk1
  have hS := xs_catch hS hz1 hk1 (fun q hq => hFc _ (hL q hq))
  refine W.widen (k := 1) (n := 6) (Nat.le_of_ble_eq_true rfl) (Nat.le_of_ble_eq_true rfl) ?_
  refine lv_astore (lv' := [(4, .ref xq), (0, .ref d0), (1, .int x1), (2, .int x2), (3, .ref o0)]) hx hb d_law_counter_13 hl1 (by decide) rfl (fun ls hl1 => ?_)
  refine lv_iconst (v := 1) hx hb d_law_counter_15 (by decide) ?_
  refine xt_weak (fun t h => xt_ofMQ h) ?_
  exact W.iret (v := 1) hx hb hr (fun t ht hW => ⟨⟨1, fun _ => 0, rfl, rfl, trivial⟩, hS.F ht⟩) hS.2.2 d_law_counter_16
abbrev b_law_say : ByteArray := method_8_code
def y_law_say : MethodName := ⟨R_law, "say", "(LTripleDesk;I[J)I"⟩
theorem d_law_say_0 : decode b_law_say 0 = .ok (.aload_n 2, 1) := by decide +kernel
theorem d_law_say_1 : decode b_law_say 1 = .ok (.iconst 0, 1) := by decide +kernel
theorem d_law_say_2 : decode b_law_say 2 = .ok (.aload_n 0, 1) := by decide +kernel
theorem d_law_say_3 : decode b_law_say 3 = .ok (.iload_n 1, 1) := by decide +kernel
theorem d_law_say_4 : decode b_law_say 4 = .ok (.invokevirtual 32, 3) := by decide +kernel
theorem d_law_say_12 : decode b_law_say 12 = .ok (.astore_n 3, 1) := by decide +kernel
theorem d_law_say_13 : decode b_law_say 13 = .ok (.iconst 1, 1) := by decide +kernel
theorem d_law_say_14 : decode b_law_say 14 = .ok (.ireturn, 1) := by decide +kernel
set_option maxHeartbeats 4000000 in
set_option maxRecDepth 100000 in
theorem c_law_say (l : Launch) (hl : l.stackTraces = false) (D : va_G) (ax : Nat → ClassId) (d0 d1 d2 d3 d4 d5 d6 d7 d8 d9 d10 d11 d12 : Nat) (o0 : Nat) (x1 : Int32) (sz : Nat) : xt_Met l y_law_say (xws (.codeWith y_law_say b_law_say 4 (some .int) [(0, 9, 12, 13), (0, 9, 15, 19)])) ({ frames := 130, cells := 1, slots := 6, locals := 5200 }) (va_Pc [.ref d0, .int x1, .ref o0] (xo D ax [(d0, .inr (10, [.ref d1, .ref d2, .ref d3, .ref d4, .ref d5, .ref d6, .ref d7, .ref d8, .ref d9, .ref d10, .ref d11, .ref d12, .int 0])), (o0, .inl (ax 4, 1, .inr (.inl (fun _ => 0))))] sz)) ((va_Qi (fun (r : Int32) (u : Nat → Nat) => r = 1) (fun (_ : Nat → Nat) (_ : State) => True) (va_A [(d0, .inr (10, [.ref d1, .ref d2, .ref d3, .ref d4, .ref d5, .ref d6, .ref d7, .ref d8, .ref d9, .ref d10, .ref d11, .ref d12, .int 0])), (o0, .inl (ax 4, 1, .inr (.inl (fun _ => 0))))] sz))) 1 6 (va_A [(d0, .inr (10, [.ref d1, .ref d2, .ref d3, .ref d4, .ref d5, .ref d6, .ref d7, .ref d8, .ref d9, .ref d10, .ref d11, .ref d12, .int 0])), (o0, .inl (ax 4, 1, .inr (.inl (fun _ => 0))))] sz) := by
  refine xt_Met.ofWith (cc := b_law_say) (maxL := 4) (ret := (some .int)) (hs := [(0, 9, 12, 13), (0, 9, 15, 19)]) (by decide) rfl ?_
  intro p e s m args below meth c s₁ B hml htab hv
  obtain ⟨rfl, hsz, hP, hK, hD0⟩ := hv
  have hx := B.exec
  have hb := B.bytes
  have hr := B.returns
  have hts := xw_hts B.pre
  have hown : s.vm.findClass R_law = some m.cls := findClass_of_methodNamed B.named
  have hlocks := B.notSynchronized
  subst hsz
  have hD := hD0.self (sz := s.heap.size)
  have hN := xz_entry hP
  generalize hAe : va_A [(d0, .inr (10, [.ref d1, .ref d2, .ref d3, .ref d4, .ref d5, .ref d6, .ref d7, .ref d8, .ref d9, .ref d10, .ref d11, .ref d12, .int 0])), (o0, .inl (ax 4, 1, .inr (.inl (fun _ => 0))))] s.heap.size = A at hD hN ⊢
  have hA : ∀ q : Nat, s.heap.size ≤ q → A q := fun q h => by rw [← hAe]; exact Or.inr h
  have hS : va_S A s.heap s.heap [] := va_S.rf
  have hl0 := lv_entry ([.ref d0, .int x1, .ref o0]) (n := 4) (Nat.le_of_ble_eq_true rfl)
  rw [lg_entry_eq]
  generalize (lg_sl ([.ref d0, .int x1, .ref o0]) ++ List.replicate (4 - (lg_sl ([.ref d0, .int x1, .ref o0])).length) Slot.unset).toArray = ls at hl0 ⊢
  have hl1 : lv_has ls 4 [(0, .ref d0), (1, .int x1), (2, .ref o0)] := hl0
  refine lv_aload_n hx hb d_law_say_0 rfl (lv_at hl1 2 rfl) ?_
  refine lv_iconst (v := 0) hx hb d_law_say_1 (by decide) ?_
  refine lv_aload_n hx hb d_law_say_2 rfl (lv_at hl1 0 rfl) ?_
  refine lv_iload_n hx hb d_law_say_3 rfl (lv_at hl1 1 rfl) ?_
  have hPc := hP.sub (ws' := [(d0, .inr (10, [.ref d1, .ref d2, .ref d3, .ref d4, .ref d5, .ref d6, .ref d7, .ref d8, .ref d9, .ref d10, .ref d11, .ref d12, .int 0]))]) [0] rfl
  have hDc := hD.sub (ws' := [(d0, .inr (10, [.ref d1, .ref d2, .ref d3, .ref d4, .ref d5, .ref d6, .ref d7, .ref d8, .ref d9, .ref d10, .ref d11, .ref d12, .int 0]))]) [0] (by decide) rfl
  have hFc := va_free (wc := [(d0, .inr (10, [.ref d1, .ref d2, .ref d3, .ref d4, .ref d5, .ref d6, .ref d7, .ref d8, .ref d9, .ref d10, .ref d11, .ref d12, .int 0]))]) hD hS hA [0] rfl
  have hz := xz_of hN hS
  refine xt_catch (fr2 := A) (own := R_law) (cls := "java/lang/IllegalStateException") (xt_runV (As := [.int x1]) (rest := [.int 0, .ref o0]) ⟨hx, hb, hml, hown, hts⟩ (c_Desk_say l hl D ax d0 d1 d2 d3 d4 d5 d6 d7 d8 d9 d10 d11 d12 x1 s.heap.size) (xcV (n := 1) hts wd_917 wd_1 wd_914 wd_915 wd_916 rfl rfl (by decide +kernel) ⟨Nat.le_of_ble_eq_true rfl, Nat.le_of_ble_eq_true rfl⟩) (xpV (ci := 10) (q0 := 0) (As := [.int x1]) hPc hK hz hDc rfl rfl) rfl rfl hl1.1 rfl (lv_room (Nat.le_of_ble_eq_true rfl)) d_law_say_4 ⟨Nat.le_of_ble_eq_true rfl, Nat.le_of_ble_eq_true rfl⟩) (ent := ⟨0, 9, 12, 13⟩) (restT := [⟨0, 9, 15, 19⟩]) htab (by decide) (by decide) hown (hts _ wd_657) (fun xq H_1 L hL hz1 hk1 => ?_)
  have hP := xp_kept hP hk1
  have hS := xs_catch hS hz1 hk1 (fun q hq => hFc _ (hL q hq))
  refine W.widen (k := 1) (n := 6) (Nat.le_of_ble_eq_true rfl) (Nat.le_of_ble_eq_true rfl) ?_
  refine lv_astore_n (lv' := [(3, .ref xq), (0, .ref d0), (1, .int x1), (2, .ref o0)]) hx hb d_law_say_12 rfl hl1 (by decide) rfl (fun ls hl1 => ?_)
  refine lv_iconst (v := 1) hx hb d_law_say_13 (by decide) ?_
  refine xt_weak (fun t h => xt_ofMQ h) ?_
  exact W.iret (v := 1) hx hb hr (fun t ht hW => ⟨⟨1, fun _ => 0, rfl, rfl, trivial⟩, hS.F ht⟩) hS.2.2 d_law_say_14
abbrev b_law_run : ByteArray := method_11_code
def y_law_run : MethodName := ⟨R_law, "run", "(LTripleDesk;I[J)I"⟩
theorem d_law_run_0 : decode b_law_run 0 = .ok (.aload_n 2, 1) := by decide +kernel
theorem d_law_run_1 : decode b_law_run 1 = .ok (.iconst 0, 1) := by decide +kernel
theorem d_law_run_2 : decode b_law_run 2 = .ok (.aload_n 0, 1) := by decide +kernel
theorem d_law_run_3 : decode b_law_run 3 = .ok (.iload_n 1, 1) := by decide +kernel
theorem d_law_run_4 : decode b_law_run 4 = .ok (.invokevirtual 42, 3) := by decide +kernel
theorem d_law_run_12 : decode b_law_run 12 = .ok (.astore_n 3, 1) := by decide +kernel
theorem d_law_run_13 : decode b_law_run 13 = .ok (.iconst 1, 1) := by decide +kernel
theorem d_law_run_14 : decode b_law_run 14 = .ok (.ireturn, 1) := by decide +kernel
set_option maxHeartbeats 4000000 in
set_option maxRecDepth 100000 in
theorem c_law_run (l : Launch) (hl : l.stackTraces = false) (D : va_G) (ax : Nat → ClassId) (d0 d1 d2 d3 d4 d5 d6 d7 d8 d9 d10 d11 d12 : Nat) (o0 : Nat) (x1 : Int32) (sz : Nat) : xt_Met l y_law_run (xws (.codeWith y_law_run b_law_run 4 (some .int) [(0, 9, 12, 13), (0, 9, 15, 45)])) ({ frames := 130, cells := 1, slots := 6, locals := 5200 }) (va_Pc [.ref d0, .int x1, .ref o0] (xo D ax [(d0, .inr (10, [.ref d1, .ref d2, .ref d3, .ref d4, .ref d5, .ref d6, .ref d7, .ref d8, .ref d9, .ref d10, .ref d11, .ref d12, .int 0])), (o0, .inl (ax 4, 1, .inr (.inl (fun _ => 0))))] sz)) ((va_Qi (fun (r : Int32) (u : Nat → Nat) => r = 1) (fun (_ : Nat → Nat) (_ : State) => True) (va_A [(d0, .inr (10, [.ref d1, .ref d2, .ref d3, .ref d4, .ref d5, .ref d6, .ref d7, .ref d8, .ref d9, .ref d10, .ref d11, .ref d12, .int 0])), (o0, .inl (ax 4, 1, .inr (.inl (fun _ => 0))))] sz))) 1 6 (va_A [(d0, .inr (10, [.ref d1, .ref d2, .ref d3, .ref d4, .ref d5, .ref d6, .ref d7, .ref d8, .ref d9, .ref d10, .ref d11, .ref d12, .int 0])), (o0, .inl (ax 4, 1, .inr (.inl (fun _ => 0))))] sz) := by
  refine xt_Met.ofWith (cc := b_law_run) (maxL := 4) (ret := (some .int)) (hs := [(0, 9, 12, 13), (0, 9, 15, 45)]) (by decide) rfl ?_
  intro p e s m args below meth c s₁ B hml htab hv
  obtain ⟨rfl, hsz, hP, hK, hD0⟩ := hv
  have hx := B.exec
  have hb := B.bytes
  have hr := B.returns
  have hts := xw_hts B.pre
  have hown : s.vm.findClass R_law = some m.cls := findClass_of_methodNamed B.named
  have hlocks := B.notSynchronized
  subst hsz
  have hD := hD0.self (sz := s.heap.size)
  have hN := xz_entry hP
  generalize hAe : va_A [(d0, .inr (10, [.ref d1, .ref d2, .ref d3, .ref d4, .ref d5, .ref d6, .ref d7, .ref d8, .ref d9, .ref d10, .ref d11, .ref d12, .int 0])), (o0, .inl (ax 4, 1, .inr (.inl (fun _ => 0))))] s.heap.size = A at hD hN ⊢
  have hA : ∀ q : Nat, s.heap.size ≤ q → A q := fun q h => by rw [← hAe]; exact Or.inr h
  have hS : va_S A s.heap s.heap [] := va_S.rf
  have hl0 := lv_entry ([.ref d0, .int x1, .ref o0]) (n := 4) (Nat.le_of_ble_eq_true rfl)
  rw [lg_entry_eq]
  generalize (lg_sl ([.ref d0, .int x1, .ref o0]) ++ List.replicate (4 - (lg_sl ([.ref d0, .int x1, .ref o0])).length) Slot.unset).toArray = ls at hl0 ⊢
  have hl1 : lv_has ls 4 [(0, .ref d0), (1, .int x1), (2, .ref o0)] := hl0
  refine lv_aload_n hx hb d_law_run_0 rfl (lv_at hl1 2 rfl) ?_
  refine lv_iconst (v := 0) hx hb d_law_run_1 (by decide) ?_
  refine lv_aload_n hx hb d_law_run_2 rfl (lv_at hl1 0 rfl) ?_
  refine lv_iload_n hx hb d_law_run_3 rfl (lv_at hl1 1 rfl) ?_
  have hPc := hP.sub (ws' := [(d0, .inr (10, [.ref d1, .ref d2, .ref d3, .ref d4, .ref d5, .ref d6, .ref d7, .ref d8, .ref d9, .ref d10, .ref d11, .ref d12, .int 0]))]) [0] rfl
  have hDc := hD.sub (ws' := [(d0, .inr (10, [.ref d1, .ref d2, .ref d3, .ref d4, .ref d5, .ref d6, .ref d7, .ref d8, .ref d9, .ref d10, .ref d11, .ref d12, .int 0]))]) [0] (by decide) rfl
  have hFc := va_free (wc := [(d0, .inr (10, [.ref d1, .ref d2, .ref d3, .ref d4, .ref d5, .ref d6, .ref d7, .ref d8, .ref d9, .ref d10, .ref d11, .ref d12, .int 0]))]) hD hS hA [0] rfl
  have hz := xz_of hN hS
  refine xt_catch (fr2 := A) (own := R_law) (cls := "java/lang/IllegalStateException") (xt_runV (As := [.int x1]) (rest := [.int 0, .ref o0]) ⟨hx, hb, hml, hown, hts⟩ (c_Desk_run l hl D ax d0 d1 d2 d3 d4 d5 d6 d7 d8 d9 d10 d11 d12 x1 s.heap.size) (xcV (n := 1) hts wd_973 wd_1 wd_970 wd_971 wd_972 rfl rfl (by decide +kernel) ⟨Nat.le_of_ble_eq_true rfl, Nat.le_of_ble_eq_true rfl⟩) (xpV (ci := 10) (q0 := 0) (As := [.int x1]) hPc hK hz hDc rfl rfl) rfl rfl hl1.1 rfl (lv_room (Nat.le_of_ble_eq_true rfl)) d_law_run_4 ⟨Nat.le_of_ble_eq_true rfl, Nat.le_of_ble_eq_true rfl⟩) (ent := ⟨0, 9, 12, 13⟩) (restT := [⟨0, 9, 15, 45⟩]) htab (by decide) (by decide) hown (hts _ wd_657) (fun xq H_1 L hL hz1 hk1 => ?_)
  have hP := xp_kept hP hk1
  have hS := xs_catch hS hz1 hk1 (fun q hq => hFc _ (hL q hq))
  refine W.widen (k := 1) (n := 6) (Nat.le_of_ble_eq_true rfl) (Nat.le_of_ble_eq_true rfl) ?_
  refine lv_astore_n (lv' := [(3, .ref xq), (0, .ref d0), (1, .int x1), (2, .ref o0)]) hx hb d_law_run_12 rfl hl1 (by decide) rfl (fun ls hl1 => ?_)
  refine lv_iconst (v := 1) hx hb d_law_run_13 (by decide) ?_
  refine xt_weak (fun t h => xt_ofMQ h) ?_
  exact W.iret (v := 1) hx hb hr (fun t ht hW => ⟨⟨1, fun _ => 0, rfl, rfl, trivial⟩, hS.F ht⟩) hS.2.2 d_law_run_14
abbrev b_law_out : ByteArray := method_9_code
def y_law_out : MethodName := ⟨R_law, "out", "(LTripleDesk;I[J)I"⟩
theorem d_law_out_0 : decode b_law_out 0 = .ok (.aload_n 2, 1) := by decide +kernel
theorem d_law_out_1 : decode b_law_out 1 = .ok (.iconst 0, 1) := by decide +kernel
theorem d_law_out_2 : decode b_law_out 2 = .ok (.aload_n 0, 1) := by decide +kernel
theorem d_law_out_3 : decode b_law_out 3 = .ok (.iload_n 1, 1) := by decide +kernel
theorem d_law_out_4 : decode b_law_out 4 = .ok (.invokevirtual 35, 3) := by decide +kernel
theorem d_law_out_12 : decode b_law_out 12 = .ok (.astore_n 3, 1) := by decide +kernel
theorem d_law_out_13 : decode b_law_out 13 = .ok (.iconst 1, 1) := by decide +kernel
theorem d_law_out_14 : decode b_law_out 14 = .ok (.ireturn, 1) := by decide +kernel
set_option maxHeartbeats 4000000 in
set_option maxRecDepth 100000 in
theorem c_law_out (l : Launch) (hl : l.stackTraces = false) (D : va_G) (ax : Nat → ClassId) (d0 d1 d2 d3 d4 d5 d6 d7 d8 d9 d10 d11 d12 : Nat) (o0 e1 : Nat) (x1 : Int32) (sz : Nat) : xt_Met l y_law_out (xws (.codeWith y_law_out b_law_out 4 (some .int) [(0, 9, 12, 19)])) ({ frames := 130, cells := 1, slots := 6, locals := 5200 }) (va_Pc [.ref d0, .int x1, .ref o0] (xo D ax [(d0, .inr (10, [.ref d1, .ref d2, .ref d3, .ref d4, .ref d5, .ref d6, .ref d7, .ref d8, .ref d9, .ref d10, .ref d11, .ref d12, .int 0])), (d6, .inr (5, [.ref e1, .int 0])), (o0, .inl (ax 4, 1, .inr (.inl (fun _ => 0))))] sz)) ((va_Qi (fun (r : Int32) (u : Nat → Nat) => r = 1) (fun (_ : Nat → Nat) (_ : State) => True) (va_A [(d0, .inr (10, [.ref d1, .ref d2, .ref d3, .ref d4, .ref d5, .ref d6, .ref d7, .ref d8, .ref d9, .ref d10, .ref d11, .ref d12, .int 0])), (d6, .inr (5, [.ref e1, .int 0])), (o0, .inl (ax 4, 1, .inr (.inl (fun _ => 0))))] sz))) 1 6 (va_A [(d0, .inr (10, [.ref d1, .ref d2, .ref d3, .ref d4, .ref d5, .ref d6, .ref d7, .ref d8, .ref d9, .ref d10, .ref d11, .ref d12, .int 0])), (d6, .inr (5, [.ref e1, .int 0])), (o0, .inl (ax 4, 1, .inr (.inl (fun _ => 0))))] sz) := by
  refine xt_Met.ofWith (cc := b_law_out) (maxL := 4) (ret := (some .int)) (hs := [(0, 9, 12, 19)]) (by decide) rfl ?_
  intro p e s m args below meth c s₁ B hml htab hv
  obtain ⟨rfl, hsz, hP, hK, hD0⟩ := hv
  have hx := B.exec
  have hb := B.bytes
  have hr := B.returns
  have hts := xw_hts B.pre
  have hown : s.vm.findClass R_law = some m.cls := findClass_of_methodNamed B.named
  have hlocks := B.notSynchronized
  subst hsz
  have hD := hD0.self (sz := s.heap.size)
  have hN := xz_entry hP
  generalize hAe : va_A [(d0, .inr (10, [.ref d1, .ref d2, .ref d3, .ref d4, .ref d5, .ref d6, .ref d7, .ref d8, .ref d9, .ref d10, .ref d11, .ref d12, .int 0])), (d6, .inr (5, [.ref e1, .int 0])), (o0, .inl (ax 4, 1, .inr (.inl (fun _ => 0))))] s.heap.size = A at hD hN ⊢
  have hA : ∀ q : Nat, s.heap.size ≤ q → A q := fun q h => by rw [← hAe]; exact Or.inr h
  have hS : va_S A s.heap s.heap [] := va_S.rf
  have hl0 := lv_entry ([.ref d0, .int x1, .ref o0]) (n := 4) (Nat.le_of_ble_eq_true rfl)
  rw [lg_entry_eq]
  generalize (lg_sl ([.ref d0, .int x1, .ref o0]) ++ List.replicate (4 - (lg_sl ([.ref d0, .int x1, .ref o0])).length) Slot.unset).toArray = ls at hl0 ⊢
  have hl1 : lv_has ls 4 [(0, .ref d0), (1, .int x1), (2, .ref o0)] := hl0
  refine lv_aload_n hx hb d_law_out_0 rfl (lv_at hl1 2 rfl) ?_
  refine lv_iconst (v := 0) hx hb d_law_out_1 (by decide) ?_
  refine lv_aload_n hx hb d_law_out_2 rfl (lv_at hl1 0 rfl) ?_
  refine lv_iload_n hx hb d_law_out_3 rfl (lv_at hl1 1 rfl) ?_
  have hPc := hP.sub (ws' := [(d0, .inr (10, [.ref d1, .ref d2, .ref d3, .ref d4, .ref d5, .ref d6, .ref d7, .ref d8, .ref d9, .ref d10, .ref d11, .ref d12, .int 0])), (d6, .inr (5, [.ref e1, .int 0]))]) [0, 1] rfl
  have hDc := hD.sub (ws' := [(d0, .inr (10, [.ref d1, .ref d2, .ref d3, .ref d4, .ref d5, .ref d6, .ref d7, .ref d8, .ref d9, .ref d10, .ref d11, .ref d12, .int 0])), (d6, .inr (5, [.ref e1, .int 0]))]) [0, 1] (by decide) rfl
  have hFc := va_free (wc := [(d0, .inr (10, [.ref d1, .ref d2, .ref d3, .ref d4, .ref d5, .ref d6, .ref d7, .ref d8, .ref d9, .ref d10, .ref d11, .ref d12, .int 0])), (d6, .inr (5, [.ref e1, .int 0]))]) hD hS hA [0, 1] rfl
  have hz := xz_of hN hS
  refine xt_catch (fr2 := A) (own := R_law) (cls := "java/lang/IndexOutOfBoundsException") (xt_runV (As := [.int x1]) (rest := [.int 0, .ref o0]) ⟨hx, hb, hml, hown, hts⟩ (c_Desk_out l hl D ax d0 d1 d2 d3 d4 d5 d6 d7 d8 d9 d10 d11 d12 e1 x1 s.heap.size) (xcV (n := 1) hts wd_954 wd_1 wd_951 wd_952 wd_953 rfl rfl (by decide +kernel) ⟨Nat.le_of_ble_eq_true rfl, Nat.le_of_ble_eq_true rfl⟩) (xpV (ci := 10) (q0 := 0) (As := [.int x1]) hPc hK hz hDc rfl rfl) rfl rfl hl1.1 rfl (lv_room (Nat.le_of_ble_eq_true rfl)) d_law_out_4 ⟨Nat.le_of_ble_eq_true rfl, Nat.le_of_ble_eq_true rfl⟩) (ent := ⟨0, 9, 12, 19⟩) (restT := []) htab (by decide) (by decide) hown (hts _ wd_732) (fun xq H_1 L hL hz1 hk1 => ?_)
  have hP := xp_kept hP hk1
  have hS := xs_catch hS hz1 hk1 (fun q hq => hFc _ (hL q hq))
  refine W.widen (k := 1) (n := 6) (Nat.le_of_ble_eq_true rfl) (Nat.le_of_ble_eq_true rfl) ?_
  refine lv_astore_n (lv' := [(3, .ref xq), (0, .ref d0), (1, .int x1), (2, .ref o0)]) hx hb d_law_out_12 rfl hl1 (by decide) rfl (fun ls hl1 => ?_)
  refine lv_iconst (v := 1) hx hb d_law_out_13 (by decide) ?_
  refine xt_weak (fun t h => xt_ofMQ h) ?_
  exact W.iret (v := 1) hx hb hr (fun t ht hW => ⟨⟨1, fun _ => 0, rfl, rfl, trivial⟩, hS.F ht⟩) hS.2.2 d_law_out_14
abbrev b_law_start : ByteArray := method_10_code
def y_law_start : MethodName := ⟨R_law, "start", "(LTripleDesk;II)I"⟩
theorem d_law_start_0 : decode b_law_start 0 = .ok (.aload_n 0, 1) := by decide +kernel
theorem d_law_start_1 : decode b_law_start 1 = .ok (.iload_n 1, 1) := by decide +kernel
theorem d_law_start_2 : decode b_law_start 2 = .ok (.iload_n 2, 1) := by decide +kernel
theorem d_law_start_3 : decode b_law_start 3 = .ok (.invokevirtual 38, 3) := by decide +kernel
theorem d_law_start_6 : decode b_law_start 6 = .ok (.goto 6, 3) := by decide +kernel
theorem d_law_start_9 : decode b_law_start 9 = .ok (.astore_n 3, 1) := by decide +kernel
theorem d_law_start_10 : decode b_law_start 10 = .ok (.iconst 1, 1) := by decide +kernel
theorem d_law_start_11 : decode b_law_start 11 = .ok (.ireturn, 1) := by decide +kernel
theorem d_law_start_12 : decode b_law_start 12 = .ok (.iconst 0, 1) := by decide +kernel
theorem d_law_start_13 : decode b_law_start 13 = .ok (.ireturn, 1) := by decide +kernel
set_option maxHeartbeats 4000000 in
set_option maxRecDepth 100000 in
theorem c_law_start_bad (l : Launch) (hl : l.stackTraces = false) (D : va_G) (ax : Nat → ClassId) (d0 d1 d2 d3 d4 d5 d6 d7 d8 d9 d10 d11 d12 : Nat) (x1 x2 : Int32) (sz : Nat) (hq0 : ¬ (¬ x1 < 0 ∧ x1 < 6)) : xt_Met l y_law_start (xws (.codeWith y_law_start b_law_start 4 (some .int) [(0, 6, 9, 19)])) ({ frames := 130, cells := 1, slots := 6, locals := 5200 }) (va_Pc [.ref d0, .int x1, .int x2] (xo D ax [(d0, .inr (10, [.ref d1, .ref d2, .ref d3, .ref d4, .ref d5, .ref d6, .ref d7, .ref d8, .ref d9, .ref d10, .ref d11, .ref d12, .int 0]))] sz)) ((va_Qi (fun (r : Int32) (u : Nat → Nat) => r = 1) (fun (_ : Nat → Nat) (_ : State) => True) (va_A [(d0, .inr (10, [.ref d1, .ref d2, .ref d3, .ref d4, .ref d5, .ref d6, .ref d7, .ref d8, .ref d9, .ref d10, .ref d11, .ref d12, .int 0]))] sz))) 1 6 (va_A [(d0, .inr (10, [.ref d1, .ref d2, .ref d3, .ref d4, .ref d5, .ref d6, .ref d7, .ref d8, .ref d9, .ref d10, .ref d11, .ref d12, .int 0]))] sz) := by
  refine xt_Met.ofWith (cc := b_law_start) (maxL := 4) (ret := (some .int)) (hs := [(0, 6, 9, 19)]) (by decide) rfl ?_
  intro p e s m args below meth c s₁ B hml htab hv
  obtain ⟨rfl, hsz, hP, hK, hD0⟩ := hv
  have hx := B.exec
  have hb := B.bytes
  have hr := B.returns
  have hts := xw_hts B.pre
  have hown : s.vm.findClass R_law = some m.cls := findClass_of_methodNamed B.named
  have hlocks := B.notSynchronized
  subst hsz
  have hD := hD0.self (sz := s.heap.size)
  have hN := xz_entry hP
  generalize hAe : va_A [(d0, .inr (10, [.ref d1, .ref d2, .ref d3, .ref d4, .ref d5, .ref d6, .ref d7, .ref d8, .ref d9, .ref d10, .ref d11, .ref d12, .int 0]))] s.heap.size = A at hD hN ⊢
  have hA : ∀ q : Nat, s.heap.size ≤ q → A q := fun q h => by rw [← hAe]; exact Or.inr h
  have hS : va_S A s.heap s.heap [] := va_S.rf
  have hl0 := lv_entry ([.ref d0, .int x1, .int x2]) (n := 4) (Nat.le_of_ble_eq_true rfl)
  rw [lg_entry_eq]
  generalize (lg_sl ([.ref d0, .int x1, .int x2]) ++ List.replicate (4 - (lg_sl ([.ref d0, .int x1, .int x2])).length) Slot.unset).toArray = ls at hl0 ⊢
  have hl1 : lv_has ls 4 [(0, .ref d0), (1, .int x1), (2, .int x2)] := hl0
  refine lv_aload_n hx hb d_law_start_0 rfl (lv_at hl1 0 rfl) ?_
  refine lv_iload_n hx hb d_law_start_1 rfl (lv_at hl1 1 rfl) ?_
  refine lv_iload_n hx hb d_law_start_2 rfl (lv_at hl1 2 rfl) ?_
  have hPc := hP.sub (ws' := [(d0, .inr (10, [.ref d1, .ref d2, .ref d3, .ref d4, .ref d5, .ref d6, .ref d7, .ref d8, .ref d9, .ref d10, .ref d11, .ref d12, .int 0]))]) [0] rfl
  have hDc := hD.sub (ws' := [(d0, .inr (10, [.ref d1, .ref d2, .ref d3, .ref d4, .ref d5, .ref d6, .ref d7, .ref d8, .ref d9, .ref d10, .ref d11, .ref d12, .int 0]))]) [0] (by decide) rfl
  have hFc := va_free (wc := [(d0, .inr (10, [.ref d1, .ref d2, .ref d3, .ref d4, .ref d5, .ref d6, .ref d7, .ref d8, .ref d9, .ref d10, .ref d11, .ref d12, .int 0]))]) hD hS hA [0] rfl
  have hz := xz_of hN hS
  refine xt_catch (fr2 := A) (own := R_law) (cls := "java/lang/IndexOutOfBoundsException") (xt_runV (As := [.int x1, .int x2]) (rest := []) ⟨hx, hb, hml, hown, hts⟩ (c_Desk_start_bad l hl D ax d0 d1 d2 d3 d4 d5 d6 d7 d8 d9 d10 d11 d12 x1 x2 s.heap.size hq0) (xcV (n := 2) hts wd_961 wd_1 wd_958 wd_959 wd_960 rfl rfl (by decide +kernel) ⟨Nat.le_of_ble_eq_true rfl, Nat.le_of_ble_eq_true rfl⟩) (xpV (ci := 10) (q0 := 0) (As := [.int x1, .int x2]) hPc hK hz hDc rfl rfl) rfl rfl hl1.1 rfl (lv_room (Nat.le_of_ble_eq_true rfl)) d_law_start_3 ⟨Nat.le_of_ble_eq_true rfl, Nat.le_of_ble_eq_true rfl⟩) (ent := ⟨0, 6, 9, 19⟩) (restT := []) htab (by decide) (by decide) hown (hts _ wd_732) (fun xq H_1 L hL hz1 hk1 => ?_)
  have hP := xp_kept hP hk1
  have hS := xs_catch hS hz1 hk1 (fun q hq => hFc _ (hL q hq))
  refine W.widen (k := 1) (n := 6) (Nat.le_of_ble_eq_true rfl) (Nat.le_of_ble_eq_true rfl) ?_
  refine lv_astore_n (lv' := [(3, .ref xq), (0, .ref d0), (1, .int x1), (2, .int x2)]) hx hb d_law_start_9 rfl hl1 (by decide) rfl (fun ls hl1 => ?_)
  refine lv_iconst (v := 1) hx hb d_law_start_10 (by decide) ?_
  refine xt_weak (fun t h => xt_ofMQ h) ?_
  exact W.iret (v := 1) hx hb hr (fun t ht hW => ⟨⟨1, fun _ => 0, rfl, rfl, trivial⟩, hS.F ht⟩) hS.2.2 d_law_start_11
abbrev b_law_value : ByteArray := method_12_code
def y_law_value : MethodName := ⟨R_law, "value", "(LTripleDesk;I[J)I"⟩
theorem d_law_value_0 : decode b_law_value 0 = .ok (.aload_n 2, 1) := by decide +kernel
theorem d_law_value_1 : decode b_law_value 1 = .ok (.iconst 0, 1) := by decide +kernel
theorem d_law_value_2 : decode b_law_value 2 = .ok (.aload_n 0, 1) := by decide +kernel
theorem d_law_value_3 : decode b_law_value 3 = .ok (.iload_n 1, 1) := by decide +kernel
theorem d_law_value_4 : decode b_law_value 4 = .ok (.invokevirtual 47, 3) := by decide +kernel
theorem d_law_value_7 : decode b_law_value 7 = .ok (.lastore, 1) := by decide +kernel
theorem d_law_value_8 : decode b_law_value 8 = .ok (.goto 6, 3) := by decide +kernel
theorem d_law_value_11 : decode b_law_value 11 = .ok (.astore_n 3, 1) := by decide +kernel
theorem d_law_value_12 : decode b_law_value 12 = .ok (.iconst 1, 1) := by decide +kernel
theorem d_law_value_13 : decode b_law_value 13 = .ok (.ireturn, 1) := by decide +kernel
theorem d_law_value_14 : decode b_law_value 14 = .ok (.iconst 0, 1) := by decide +kernel
theorem d_law_value_15 : decode b_law_value 15 = .ok (.ireturn, 1) := by decide +kernel
set_option maxHeartbeats 4000000 in
set_option maxRecDepth 100000 in
theorem c_law_value_bad (l : Launch) (hl : l.stackTraces = false) (D : va_G) (ax : Nat → ClassId) (d0 d1 d2 d3 d4 d5 d6 d7 d8 d9 d10 d11 d12 : Nat) (o0 : Nat) (x1 : Int32) (sz : Nat) (hq0 : ¬ (¬ x1 < 0 ∧ x1 < 6)) : xt_Met l y_law_value (xws (.codeWith y_law_value b_law_value 4 (some .int) [(0, 8, 11, 19)])) ({ frames := 130, cells := 1, slots := 6, locals := 5200 }) (va_Pc [.ref d0, .int x1, .ref o0] (xo D ax [(d0, .inr (10, [.ref d1, .ref d2, .ref d3, .ref d4, .ref d5, .ref d6, .ref d7, .ref d8, .ref d9, .ref d10, .ref d11, .ref d12, .int 0])), (o0, .inl (ax 4, 1, .inr (.inl (fun _ => 0))))] sz)) ((va_Qi (fun (r : Int32) (u : Nat → Nat) => r = 1) (fun (_ : Nat → Nat) (_ : State) => True) (va_A [(d0, .inr (10, [.ref d1, .ref d2, .ref d3, .ref d4, .ref d5, .ref d6, .ref d7, .ref d8, .ref d9, .ref d10, .ref d11, .ref d12, .int 0])), (o0, .inl (ax 4, 1, .inr (.inl (fun _ => 0))))] sz))) 1 6 (va_A [(d0, .inr (10, [.ref d1, .ref d2, .ref d3, .ref d4, .ref d5, .ref d6, .ref d7, .ref d8, .ref d9, .ref d10, .ref d11, .ref d12, .int 0])), (o0, .inl (ax 4, 1, .inr (.inl (fun _ => 0))))] sz) := by
  refine xt_Met.ofWith (cc := b_law_value) (maxL := 4) (ret := (some .int)) (hs := [(0, 8, 11, 19)]) (by decide) rfl ?_
  intro p e s m args below meth c s₁ B hml htab hv
  obtain ⟨rfl, hsz, hP, hK, hD0⟩ := hv
  have hx := B.exec
  have hb := B.bytes
  have hr := B.returns
  have hts := xw_hts B.pre
  have hown : s.vm.findClass R_law = some m.cls := findClass_of_methodNamed B.named
  have hlocks := B.notSynchronized
  subst hsz
  have hD := hD0.self (sz := s.heap.size)
  have hN := xz_entry hP
  generalize hAe : va_A [(d0, .inr (10, [.ref d1, .ref d2, .ref d3, .ref d4, .ref d5, .ref d6, .ref d7, .ref d8, .ref d9, .ref d10, .ref d11, .ref d12, .int 0])), (o0, .inl (ax 4, 1, .inr (.inl (fun _ => 0))))] s.heap.size = A at hD hN ⊢
  have hA : ∀ q : Nat, s.heap.size ≤ q → A q := fun q h => by rw [← hAe]; exact Or.inr h
  have hS : va_S A s.heap s.heap [] := va_S.rf
  have hl0 := lv_entry ([.ref d0, .int x1, .ref o0]) (n := 4) (Nat.le_of_ble_eq_true rfl)
  rw [lg_entry_eq]
  generalize (lg_sl ([.ref d0, .int x1, .ref o0]) ++ List.replicate (4 - (lg_sl ([.ref d0, .int x1, .ref o0])).length) Slot.unset).toArray = ls at hl0 ⊢
  have hl1 : lv_has ls 4 [(0, .ref d0), (1, .int x1), (2, .ref o0)] := hl0
  refine lv_aload_n hx hb d_law_value_0 rfl (lv_at hl1 2 rfl) ?_
  refine lv_iconst (v := 0) hx hb d_law_value_1 (by decide) ?_
  refine lv_aload_n hx hb d_law_value_2 rfl (lv_at hl1 0 rfl) ?_
  refine lv_iload_n hx hb d_law_value_3 rfl (lv_at hl1 1 rfl) ?_
  have hPc := hP.sub (ws' := [(d0, .inr (10, [.ref d1, .ref d2, .ref d3, .ref d4, .ref d5, .ref d6, .ref d7, .ref d8, .ref d9, .ref d10, .ref d11, .ref d12, .int 0]))]) [0] rfl
  have hDc := hD.sub (ws' := [(d0, .inr (10, [.ref d1, .ref d2, .ref d3, .ref d4, .ref d5, .ref d6, .ref d7, .ref d8, .ref d9, .ref d10, .ref d11, .ref d12, .int 0]))]) [0] (by decide) rfl
  have hFc := va_free (wc := [(d0, .inr (10, [.ref d1, .ref d2, .ref d3, .ref d4, .ref d5, .ref d6, .ref d7, .ref d8, .ref d9, .ref d10, .ref d11, .ref d12, .int 0]))]) hD hS hA [0] rfl
  have hz := xz_of hN hS
  refine xt_catch (fr2 := A) (own := R_law) (cls := "java/lang/IndexOutOfBoundsException") (xt_runV (As := [.int x1]) (rest := [.int 0, .ref o0]) ⟨hx, hb, hml, hown, hts⟩ (c_Desk_value_bad l hl D ax d0 d1 d2 d3 d4 d5 d6 d7 d8 d9 d10 d11 d12 x1 s.heap.size hq0) (xcV (n := 1) hts wd_1015 wd_1 wd_1012 wd_1013 wd_1014 rfl rfl (by decide +kernel) ⟨Nat.le_of_ble_eq_true rfl, Nat.le_of_ble_eq_true rfl⟩) (xpV (ci := 10) (q0 := 0) (As := [.int x1]) hPc hK hz hDc rfl rfl) rfl rfl hl1.1 rfl (lv_room (Nat.le_of_ble_eq_true rfl)) d_law_value_4 ⟨Nat.le_of_ble_eq_true rfl, Nat.le_of_ble_eq_true rfl⟩) (ent := ⟨0, 8, 11, 19⟩) (restT := []) htab (by decide) (by decide) hown (hts _ wd_732) (fun xq H_1 L hL hz1 hk1 => ?_)
  have hP := xp_kept hP hk1
  have hS := xs_catch hS hz1 hk1 (fun q hq => hFc _ (hL q hq))
  refine W.widen (k := 1) (n := 6) (Nat.le_of_ble_eq_true rfl) (Nat.le_of_ble_eq_true rfl) ?_
  refine lv_astore_n (lv' := [(3, .ref xq), (0, .ref d0), (1, .int x1), (2, .ref o0)]) hx hb d_law_value_11 rfl hl1 (by decide) rfl (fun ls hl1 => ?_)
  refine lv_iconst (v := 1) hx hb d_law_value_12 (by decide) ?_
  refine xt_weak (fun t h => xt_ofMQ h) ?_
  exact W.iret (v := 1) hx hb hr (fun t ht hW => ⟨⟨1, fun _ => 0, rfl, rfl, trivial⟩, hS.F ht⟩) hS.2.2 d_law_value_13
abbrev b_law_holds : ByteArray := method_13_code
def y_law_holds : MethodName := ⟨R_law, "holds", "(LTripleDesk;I[J)I"⟩
theorem d_law_holds_0 : decode b_law_holds 0 = .ok (.aload_n 2, 1) := by decide +kernel
theorem d_law_holds_1 : decode b_law_holds 1 = .ok (.iconst 0, 1) := by decide +kernel
theorem d_law_holds_2 : decode b_law_holds 2 = .ok (.aload_n 0, 1) := by decide +kernel
theorem d_law_holds_3 : decode b_law_holds 3 = .ok (.iload_n 1, 1) := by decide +kernel
theorem d_law_holds_4 : decode b_law_holds 4 = .ok (.invokevirtual 51, 3) := by decide +kernel
theorem d_law_holds_7 : decode b_law_holds 7 = .ok (.ifCond .eq 7, 3) := by decide +kernel
theorem d_law_holds_10 : decode b_law_holds 10 = .ok (.lconst 1, 1) := by decide +kernel
theorem d_law_holds_11 : decode b_law_holds 11 = .ok (.goto 4, 3) := by decide +kernel
theorem d_law_holds_15 : decode b_law_holds 15 = .ok (.lastore, 1) := by decide +kernel
theorem d_law_holds_16 : decode b_law_holds 16 = .ok (.goto 6, 3) := by decide +kernel
theorem d_law_holds_19 : decode b_law_holds 19 = .ok (.astore_n 3, 1) := by decide +kernel
theorem d_law_holds_20 : decode b_law_holds 20 = .ok (.iconst 1, 1) := by decide +kernel
theorem d_law_holds_21 : decode b_law_holds 21 = .ok (.ireturn, 1) := by decide +kernel
theorem d_law_holds_22 : decode b_law_holds 22 = .ok (.iconst 0, 1) := by decide +kernel
theorem d_law_holds_23 : decode b_law_holds 23 = .ok (.ireturn, 1) := by decide +kernel
set_option maxHeartbeats 4000000 in
set_option maxRecDepth 100000 in
theorem c_law_holds_bad (l : Launch) (hl : l.stackTraces = false) (D : va_G) (ax : Nat → ClassId) (d0 d1 d2 d3 d4 d5 d6 d7 d8 d9 d10 d11 d12 : Nat) (o0 : Nat) (x1 : Int32) (sz : Nat) (hq0 : ¬ x1 = 0) (hq1 : ¬ x1 = 1) : xt_Met l y_law_holds (xws (.codeWith y_law_holds b_law_holds 4 (some .int) [(0, 16, 19, 19)])) ({ frames := 130, cells := 1, slots := 6, locals := 5200 }) (va_Pc [.ref d0, .int x1, .ref o0] (xo D ax [(d0, .inr (10, [.ref d1, .ref d2, .ref d3, .ref d4, .ref d5, .ref d6, .ref d7, .ref d8, .ref d9, .ref d10, .ref d11, .ref d12, .int 0])), (o0, .inl (ax 4, 1, .inr (.inl (fun _ => 0))))] sz)) ((va_Qi (fun (r : Int32) (u : Nat → Nat) => r = 1) (fun (_ : Nat → Nat) (_ : State) => True) (va_A [(d0, .inr (10, [.ref d1, .ref d2, .ref d3, .ref d4, .ref d5, .ref d6, .ref d7, .ref d8, .ref d9, .ref d10, .ref d11, .ref d12, .int 0])), (o0, .inl (ax 4, 1, .inr (.inl (fun _ => 0))))] sz))) 1 6 (va_A [(d0, .inr (10, [.ref d1, .ref d2, .ref d3, .ref d4, .ref d5, .ref d6, .ref d7, .ref d8, .ref d9, .ref d10, .ref d11, .ref d12, .int 0])), (o0, .inl (ax 4, 1, .inr (.inl (fun _ => 0))))] sz) := by
  refine xt_Met.ofWith (cc := b_law_holds) (maxL := 4) (ret := (some .int)) (hs := [(0, 16, 19, 19)]) (by decide) rfl ?_
  intro p e s m args below meth c s₁ B hml htab hv
  obtain ⟨rfl, hsz, hP, hK, hD0⟩ := hv
  have hx := B.exec
  have hb := B.bytes
  have hr := B.returns
  have hts := xw_hts B.pre
  have hown : s.vm.findClass R_law = some m.cls := findClass_of_methodNamed B.named
  have hlocks := B.notSynchronized
  subst hsz
  have hD := hD0.self (sz := s.heap.size)
  have hN := xz_entry hP
  generalize hAe : va_A [(d0, .inr (10, [.ref d1, .ref d2, .ref d3, .ref d4, .ref d5, .ref d6, .ref d7, .ref d8, .ref d9, .ref d10, .ref d11, .ref d12, .int 0])), (o0, .inl (ax 4, 1, .inr (.inl (fun _ => 0))))] s.heap.size = A at hD hN ⊢
  have hA : ∀ q : Nat, s.heap.size ≤ q → A q := fun q h => by rw [← hAe]; exact Or.inr h
  have hS : va_S A s.heap s.heap [] := va_S.rf
  have hl0 := lv_entry ([.ref d0, .int x1, .ref o0]) (n := 4) (Nat.le_of_ble_eq_true rfl)
  rw [lg_entry_eq]
  generalize (lg_sl ([.ref d0, .int x1, .ref o0]) ++ List.replicate (4 - (lg_sl ([.ref d0, .int x1, .ref o0])).length) Slot.unset).toArray = ls at hl0 ⊢
  have hl1 : lv_has ls 4 [(0, .ref d0), (1, .int x1), (2, .ref o0)] := hl0
  refine lv_aload_n hx hb d_law_holds_0 rfl (lv_at hl1 2 rfl) ?_
  refine lv_iconst (v := 0) hx hb d_law_holds_1 (by decide) ?_
  refine lv_aload_n hx hb d_law_holds_2 rfl (lv_at hl1 0 rfl) ?_
  refine lv_iload_n hx hb d_law_holds_3 rfl (lv_at hl1 1 rfl) ?_
  have hPc := hP.sub (ws' := [(d0, .inr (10, [.ref d1, .ref d2, .ref d3, .ref d4, .ref d5, .ref d6, .ref d7, .ref d8, .ref d9, .ref d10, .ref d11, .ref d12, .int 0]))]) [0] rfl
  have hDc := hD.sub (ws' := [(d0, .inr (10, [.ref d1, .ref d2, .ref d3, .ref d4, .ref d5, .ref d6, .ref d7, .ref d8, .ref d9, .ref d10, .ref d11, .ref d12, .int 0]))]) [0] (by decide) rfl
  have hFc := va_free (wc := [(d0, .inr (10, [.ref d1, .ref d2, .ref d3, .ref d4, .ref d5, .ref d6, .ref d7, .ref d8, .ref d9, .ref d10, .ref d11, .ref d12, .int 0]))]) hD hS hA [0] rfl
  have hz := xz_of hN hS
  refine xt_catch (fr2 := A) (own := R_law) (cls := "java/lang/IndexOutOfBoundsException") (xt_runV (As := [.int x1]) (rest := [.int 0, .ref o0]) ⟨hx, hb, hml, hown, hts⟩ (c_Desk_holds_bad l hl D ax d0 d1 d2 d3 d4 d5 d6 d7 d8 d9 d10 d11 d12 x1 s.heap.size hq0 hq1) (xcV (n := 1) hts wd_1022 wd_1 wd_1019 wd_1020 wd_1021 rfl rfl (by decide +kernel) ⟨Nat.le_of_ble_eq_true rfl, Nat.le_of_ble_eq_true rfl⟩) (xpV (ci := 10) (q0 := 0) (As := [.int x1]) hPc hK hz hDc rfl rfl) rfl rfl hl1.1 rfl (lv_room (Nat.le_of_ble_eq_true rfl)) d_law_holds_4 ⟨Nat.le_of_ble_eq_true rfl, Nat.le_of_ble_eq_true rfl⟩) (ent := ⟨0, 16, 19, 19⟩) (restT := []) htab (by decide) (by decide) hown (hts _ wd_732) (fun xq H_1 L hL hz1 hk1 => ?_)
  have hP := xp_kept hP hk1
  have hS := xs_catch hS hz1 hk1 (fun q hq => hFc _ (hL q hq))
  refine W.widen (k := 1) (n := 6) (Nat.le_of_ble_eq_true rfl) (Nat.le_of_ble_eq_true rfl) ?_
  refine lv_astore_n (lv' := [(3, .ref xq), (0, .ref d0), (1, .int x1), (2, .ref o0)]) hx hb d_law_holds_19 rfl hl1 (by decide) rfl (fun ls hl1 => ?_)
  refine lv_iconst (v := 1) hx hb d_law_holds_20 (by decide) ?_
  refine xt_weak (fun t h => xt_ofMQ h) ?_
  exact W.iret (v := 1) hx hb hr (fun t ht hW => ⟨⟨1, fun _ => 0, rfl, rfl, trivial⟩, hS.F ht⟩) hS.2.2 d_law_holds_21
set_option maxHeartbeats 4000000 in
set_option maxRecDepth 100000 in
theorem c_law_start_0 (l : Launch) (hl : l.stackTraces = false) (D : va_G) (ax : Nat → ClassId) (d0 d1 d2 d3 d4 d5 d6 d7 d8 d9 d10 d11 d12 : Nat) (e1 : Nat) (x2 : Int32) (sz : Nat) : xt_Met l y_law_start (xws (.codeWith y_law_start b_law_start 4 (some .int) [(0, 6, 9, 19)])) ({ frames := 130, cells := 0, slots := 0, locals := 5200 }) (va_Pc [.ref d0, .int 0, .int x2] (xo D ax [(d0, .inr (10, [.ref d1, .ref d2, .ref d3, .ref d4, .ref d5, .ref d6, .ref d7, .ref d8, .ref d9, .ref d10, .ref d11, .ref d12, .int 0])), (d7, .inr (8, [.ref e1])), (e1, .inl (ax 4, 6, .inr (.inl (fun _ => 0))))] sz)) ((va_Qi (fun (r : Int32) (u : Nat → Nat) => r = 0) (fun (_ : Nat → Nat) (_ : State) => True) (va_A [(d0, .inr (10, [.ref d1, .ref d2, .ref d3, .ref d4, .ref d5, .ref d6, .ref d7, .ref d8, .ref d9, .ref d10, .ref d11, .ref d12, .int 0])), (d7, .inr (8, [.ref e1])), (e1, .inl (ax 4, 6, .inr (.inl (fun _ => 0))))] sz))) 0 0 (va_A [(d0, .inr (10, [.ref d1, .ref d2, .ref d3, .ref d4, .ref d5, .ref d6, .ref d7, .ref d8, .ref d9, .ref d10, .ref d11, .ref d12, .int 0])), (d7, .inr (8, [.ref e1])), (e1, .inl (ax 4, 6, .inr (.inl (fun _ => 0))))] sz) := by
  refine xt_Met.ofWith (cc := b_law_start) (maxL := 4) (ret := (some .int)) (hs := [(0, 6, 9, 19)]) (by decide) rfl ?_
  intro p e s m args below meth c s₁ B hml htab hv
  obtain ⟨rfl, hsz, hP, hK, hD0⟩ := hv
  have hx := B.exec
  have hb := B.bytes
  have hr := B.returns
  have hts := xw_hts B.pre
  have hown : s.vm.findClass R_law = some m.cls := findClass_of_methodNamed B.named
  have hlocks := B.notSynchronized
  subst hsz
  have hD := hD0.self (sz := s.heap.size)
  have hN := xz_entry hP
  generalize hAe : va_A [(d0, .inr (10, [.ref d1, .ref d2, .ref d3, .ref d4, .ref d5, .ref d6, .ref d7, .ref d8, .ref d9, .ref d10, .ref d11, .ref d12, .int 0])), (d7, .inr (8, [.ref e1])), (e1, .inl (ax 4, 6, .inr (.inl (fun _ => 0))))] s.heap.size = A at hD hN ⊢
  have hA : ∀ q : Nat, s.heap.size ≤ q → A q := fun q h => by rw [← hAe]; exact Or.inr h
  have hS : va_S A s.heap s.heap [] := va_S.rf
  have hl0 := lv_entry ([.ref d0, .int 0, .int x2]) (n := 4) (Nat.le_of_ble_eq_true rfl)
  rw [lg_entry_eq]
  generalize (lg_sl ([.ref d0, .int 0, .int x2]) ++ List.replicate (4 - (lg_sl ([.ref d0, .int 0, .int x2])).length) Slot.unset).toArray = ls at hl0 ⊢
  have hl1 : lv_has ls 4 [(0, .ref d0), (1, .int 0), (2, .int x2)] := hl0
  refine lv_aload_n hx hb d_law_start_0 rfl (lv_at hl1 0 rfl) ?_
  refine lv_iload_n hx hb d_law_start_1 rfl (lv_at hl1 1 rfl) ?_
  refine lv_iload_n hx hb d_law_start_2 rfl (lv_at hl1 2 rfl) ?_
  have hPc := hP.sub (ws' := [(d0, .inr (10, [.ref d1, .ref d2, .ref d3, .ref d4, .ref d5, .ref d6, .ref d7, .ref d8, .ref d9, .ref d10, .ref d11, .ref d12, .int 0])), (d7, .inr (8, [.ref e1])), (e1, .inl (ax 4, 6, .inr (.inl (fun _ => 0))))]) [0, 1, 2] rfl
  have hDc := hD.sub (ws' := [(d0, .inr (10, [.ref d1, .ref d2, .ref d3, .ref d4, .ref d5, .ref d6, .ref d7, .ref d8, .ref d9, .ref d10, .ref d11, .ref d12, .int 0])), (d7, .inr (8, [.ref e1])), (e1, .inl (ax 4, 6, .inr (.inl (fun _ => 0))))]) [0, 1, 2] (by decide) rfl
  have hFc := va_free (wc := [(d0, .inr (10, [.ref d1, .ref d2, .ref d3, .ref d4, .ref d5, .ref d6, .ref d7, .ref d8, .ref d9, .ref d10, .ref d11, .ref d12, .int 0])), (d7, .inr (8, [.ref e1])), (e1, .inl (ax 4, 6, .inr (.inl (fun _ => 0))))]) hD hS hA [0, 1, 2] rfl
  have hz := xz_of hN hS
  refine va_callv (va_runV (As := [.int 0, .int x2]) (rest := []) ⟨hx, hb, hml, hown, hts⟩ (c_Desk_start_0 l D ax d0 d1 d2 d3 d4 d5 d6 d7 d8 d9 d10 d11 d12 e1 x2 s.heap.size) (xcV (n := 2) hts wd_961 wd_1 wd_958 wd_959 wd_960 rfl rfl (by decide +kernel) ⟨Nat.le_of_ble_eq_true rfl, Nat.le_of_ble_eq_true rfl⟩) (xpV (ci := 10) (q0 := 0) (As := [.int 0, .int x2]) hPc hK hz hDc rfl rfl) rfl rfl hl1.1 rfl (lv_room (Nat.le_of_ble_eq_true rfl)) d_law_start_3 ⟨Nat.le_of_ble_eq_true rfl, Nat.le_of_ble_eq_true rfl⟩) hS (fun q _ h => hFc q h) hFc (fun u_1 t H_2 locs ht hvm hw hB hz1 hk1 hS => ?_)
  try dsimp only at hw
  obtain ⟨hP, hD⟩ := va_join (wr := []) (w1 := []) hP hD [0, 1, 2] [] rfl rfl (by decide) (by decide) hk1 hFc x_nilP x_nilD
  have hP : va_P D classes [] H_2 := hP
  have hD : va_D A [] := hD
  refine lv_goto (tgt := 12) hx hb d_law_start_6 (by decide) ?_
  refine lv_iconst (v := 0) hx hb d_law_start_12 (by decide) ?_
  refine xt_weak (fun t h => xt_ofMQ h) ?_
  exact W.iret (v := 0) hx hb hr (fun t ht hW => ⟨⟨0, fun _ => 0, rfl, rfl, trivial⟩, hS.F ht⟩) hS.2.2 d_law_start_13
set_option maxHeartbeats 4000000 in
set_option maxRecDepth 100000 in
theorem c_law_value_0 (l : Launch) (hl : l.stackTraces = false) (D : va_G) (ax : Nat → ClassId) (d0 d1 d2 d3 d4 d5 d6 d7 d8 d9 d10 d11 d12 : Nat) (o0 e1 : Nat) (sz : Nat) : xt_Met l y_law_value (xws (.codeWith y_law_value b_law_value 4 (some .int) [(0, 8, 11, 19)])) ({ frames := 130, cells := 0, slots := 0, locals := 5200 }) (va_Pc [.ref d0, .int 0, .ref o0] (xo D ax [(d0, .inr (10, [.ref d1, .ref d2, .ref d3, .ref d4, .ref d5, .ref d6, .ref d7, .ref d8, .ref d9, .ref d10, .ref d11, .ref d12, .int 0])), (d7, .inr (8, [.ref e1])), (e1, .inl (ax 4, 6, .inr (.inl (fun _ => 0)))), (o0, .inl (ax 4, 1, .inr (.inl (fun _ => 0))))] sz)) ((va_Qi (fun (r : Int32) (u : Nat → Nat) => r = 0) (xb D (va_A [(d0, .inr (10, [.ref d1, .ref d2, .ref d3, .ref d4, .ref d5, .ref d6, .ref d7, .ref d8, .ref d9, .ref d10, .ref d11, .ref d12, .int 0])), (d7, .inr (8, [.ref e1])), (e1, .inl (ax 4, 6, .inr (.inl (fun _ => 0)))), (o0, .inl (ax 4, 1, .inr (.inl (fun _ => 0))))] sz) (fun u => [(o0, .inl (ax 4, 1, .inr (.inl (vp_updL (fun _ => 0) 0 0))))])) (va_A [(d0, .inr (10, [.ref d1, .ref d2, .ref d3, .ref d4, .ref d5, .ref d6, .ref d7, .ref d8, .ref d9, .ref d10, .ref d11, .ref d12, .int 0])), (d7, .inr (8, [.ref e1])), (e1, .inl (ax 4, 6, .inr (.inl (fun _ => 0)))), (o0, .inl (ax 4, 1, .inr (.inl (fun _ => 0))))] sz))) 0 0 (va_A [(d0, .inr (10, [.ref d1, .ref d2, .ref d3, .ref d4, .ref d5, .ref d6, .ref d7, .ref d8, .ref d9, .ref d10, .ref d11, .ref d12, .int 0])), (d7, .inr (8, [.ref e1])), (e1, .inl (ax 4, 6, .inr (.inl (fun _ => 0)))), (o0, .inl (ax 4, 1, .inr (.inl (fun _ => 0))))] sz) := by
  refine xt_Met.ofWith (cc := b_law_value) (maxL := 4) (ret := (some .int)) (hs := [(0, 8, 11, 19)]) (by decide) rfl ?_
  intro p e s m args below meth c s₁ B hml htab hv
  obtain ⟨rfl, hsz, hP, hK, hD0⟩ := hv
  have hx := B.exec
  have hb := B.bytes
  have hr := B.returns
  have hts := xw_hts B.pre
  have hown : s.vm.findClass R_law = some m.cls := findClass_of_methodNamed B.named
  have hlocks := B.notSynchronized
  subst hsz
  have hD := hD0.self (sz := s.heap.size)
  have hN := xz_entry hP
  generalize hAe : va_A [(d0, .inr (10, [.ref d1, .ref d2, .ref d3, .ref d4, .ref d5, .ref d6, .ref d7, .ref d8, .ref d9, .ref d10, .ref d11, .ref d12, .int 0])), (d7, .inr (8, [.ref e1])), (e1, .inl (ax 4, 6, .inr (.inl (fun _ => 0)))), (o0, .inl (ax 4, 1, .inr (.inl (fun _ => 0))))] s.heap.size = A at hD hN ⊢
  have hA : ∀ q : Nat, s.heap.size ≤ q → A q := fun q h => by rw [← hAe]; exact Or.inr h
  have hS : va_S A s.heap s.heap [] := va_S.rf
  have hl0 := lv_entry ([.ref d0, .int 0, .ref o0]) (n := 4) (Nat.le_of_ble_eq_true rfl)
  rw [lg_entry_eq]
  generalize (lg_sl ([.ref d0, .int 0, .ref o0]) ++ List.replicate (4 - (lg_sl ([.ref d0, .int 0, .ref o0])).length) Slot.unset).toArray = ls at hl0 ⊢
  have hl1 : lv_has ls 4 [(0, .ref d0), (1, .int 0), (2, .ref o0)] := hl0
  refine lv_aload_n hx hb d_law_value_0 rfl (lv_at hl1 2 rfl) ?_
  refine lv_iconst (v := 0) hx hb d_law_value_1 (by decide) ?_
  refine lv_aload_n hx hb d_law_value_2 rfl (lv_at hl1 0 rfl) ?_
  refine lv_iload_n hx hb d_law_value_3 rfl (lv_at hl1 1 rfl) ?_
  have hPc := hP.sub (ws' := [(d0, .inr (10, [.ref d1, .ref d2, .ref d3, .ref d4, .ref d5, .ref d6, .ref d7, .ref d8, .ref d9, .ref d10, .ref d11, .ref d12, .int 0])), (d7, .inr (8, [.ref e1])), (e1, .inl (ax 4, 6, .inr (.inl (fun _ => 0))))]) [0, 1, 2] rfl
  have hDc := hD.sub (ws' := [(d0, .inr (10, [.ref d1, .ref d2, .ref d3, .ref d4, .ref d5, .ref d6, .ref d7, .ref d8, .ref d9, .ref d10, .ref d11, .ref d12, .int 0])), (d7, .inr (8, [.ref e1])), (e1, .inl (ax 4, 6, .inr (.inl (fun _ => 0))))]) [0, 1, 2] (by decide) rfl
  have hFc := va_free (wc := [(d0, .inr (10, [.ref d1, .ref d2, .ref d3, .ref d4, .ref d5, .ref d6, .ref d7, .ref d8, .ref d9, .ref d10, .ref d11, .ref d12, .int 0])), (d7, .inr (8, [.ref e1])), (e1, .inl (ax 4, 6, .inr (.inl (fun _ => 0))))]) hD hS hA [0, 1, 2] rfl
  have hz := xz_of hN hS
  refine va_calll (va_runV (As := [.int 0]) (rest := [.int 0, .ref o0]) ⟨hx, hb, hml, hown, hts⟩ (c_Desk_value_0 l D ax d0 d1 d2 d3 d4 d5 d6 d7 d8 d9 d10 d11 d12 e1 s.heap.size) (xcV (n := 1) hts wd_1015 wd_1 wd_1012 wd_1013 wd_1014 rfl rfl (by decide +kernel) ⟨Nat.le_of_ble_eq_true rfl, Nat.le_of_ble_eq_true rfl⟩) (xpV (ci := 10) (q0 := 0) (As := [.int 0]) hPc hK hz hDc rfl rfl) rfl rfl hl1.1 rfl (lv_room (Nat.le_of_ble_eq_true rfl)) d_law_value_4 ⟨Nat.le_of_ble_eq_true rfl, Nat.le_of_ble_eq_true rfl⟩) hS (fun q _ h => hFc q h) hFc (fun r_3 u_1 t H_2 locs ht hvm hw hB hz1 hk1 hS => ?_)
  try dsimp only at hw
  subst hw
  obtain ⟨hP, hD⟩ := va_join (wr := [(o0, .inl (ax 4, 1, .inr (.inl (fun _ => 0))))]) (w1 := []) hP hD [0, 1, 2] [3] rfl rfl (by decide) (by decide) hk1 hFc x_nilP x_nilD
  have hP : va_P D classes [(o0, .inl (ax 4, 1, .inr (.inl (fun _ => 0))))] H_2 := hP
  have hD : va_D A [(o0, .inl (ax 4, 1, .inr (.inl (fun _ => 0))))] := hD
  refine va_last hx hb hK.1 hP hD hS 0 4 rfl rfl (by unfold vp_in; decide) d_law_value_7 (fun H_4 locs hP hD hS => ?_)
  have hP : va_P D classes [(o0, .inl (ax 4, 1, .inr (.inl (vp_updL (fun _ => 0) 0 0))))] H_4 := hP
  have hD : va_D A [(o0, .inl (ax 4, 1, .inr (.inl (vp_updL (fun _ => 0) 0 0))))] := hD
  refine lv_goto (tgt := 14) hx hb d_law_value_8 (by decide) ?_
  refine lv_iconst (v := 0) hx hb d_law_value_14 (by decide) ?_
  refine xt_weak (fun t h => xt_ofMQ h) ?_
  have hP9 := hP.sub (ws' := (fun u : Nat → Nat => [(o0, .inl (ax 4, 1, .inr (.inl (vp_updL (fun _ => 0) 0 0))))]) (ixn [])) [0] rfl
  have hD9 := hD.sub (ws' := (fun u : Nat → Nat => [(o0, .inl (ax 4, 1, .inr (.inl (vp_updL (fun _ => 0) 0 0))))]) (ixn [])) [0] (by decide) rfl
  exact W.iret (v := 0) hx hb hr (fun t ht hW => ⟨⟨0, ixn [], rfl, rfl, ⟨by rw [ht]; exact hP9, hD9⟩⟩, hS.F ht⟩) hS.2.2 d_law_value_15
set_option maxHeartbeats 4000000 in
set_option maxRecDepth 100000 in
theorem c_law_start_1 (l : Launch) (hl : l.stackTraces = false) (D : va_G) (ax : Nat → ClassId) (d0 d1 d2 d3 d4 d5 d6 d7 d8 d9 d10 d11 d12 : Nat) (e1 : Nat) (x2 : Int32) (sz : Nat) : xt_Met l y_law_start (xws (.codeWith y_law_start b_law_start 4 (some .int) [(0, 6, 9, 19)])) ({ frames := 130, cells := 0, slots := 0, locals := 5200 }) (va_Pc [.ref d0, .int 1, .int x2] (xo D ax [(d0, .inr (10, [.ref d1, .ref d2, .ref d3, .ref d4, .ref d5, .ref d6, .ref d7, .ref d8, .ref d9, .ref d10, .ref d11, .ref d12, .int 0])), (d7, .inr (8, [.ref e1])), (e1, .inl (ax 4, 6, .inr (.inl (fun _ => 0))))] sz)) ((va_Qi (fun (r : Int32) (u : Nat → Nat) => r = 0) (fun (_ : Nat → Nat) (_ : State) => True) (va_A [(d0, .inr (10, [.ref d1, .ref d2, .ref d3, .ref d4, .ref d5, .ref d6, .ref d7, .ref d8, .ref d9, .ref d10, .ref d11, .ref d12, .int 0])), (d7, .inr (8, [.ref e1])), (e1, .inl (ax 4, 6, .inr (.inl (fun _ => 0))))] sz))) 0 0 (va_A [(d0, .inr (10, [.ref d1, .ref d2, .ref d3, .ref d4, .ref d5, .ref d6, .ref d7, .ref d8, .ref d9, .ref d10, .ref d11, .ref d12, .int 0])), (d7, .inr (8, [.ref e1])), (e1, .inl (ax 4, 6, .inr (.inl (fun _ => 0))))] sz) := by
  refine xt_Met.ofWith (cc := b_law_start) (maxL := 4) (ret := (some .int)) (hs := [(0, 6, 9, 19)]) (by decide) rfl ?_
  intro p e s m args below meth c s₁ B hml htab hv
  obtain ⟨rfl, hsz, hP, hK, hD0⟩ := hv
  have hx := B.exec
  have hb := B.bytes
  have hr := B.returns
  have hts := xw_hts B.pre
  have hown : s.vm.findClass R_law = some m.cls := findClass_of_methodNamed B.named
  have hlocks := B.notSynchronized
  subst hsz
  have hD := hD0.self (sz := s.heap.size)
  have hN := xz_entry hP
  generalize hAe : va_A [(d0, .inr (10, [.ref d1, .ref d2, .ref d3, .ref d4, .ref d5, .ref d6, .ref d7, .ref d8, .ref d9, .ref d10, .ref d11, .ref d12, .int 0])), (d7, .inr (8, [.ref e1])), (e1, .inl (ax 4, 6, .inr (.inl (fun _ => 0))))] s.heap.size = A at hD hN ⊢
  have hA : ∀ q : Nat, s.heap.size ≤ q → A q := fun q h => by rw [← hAe]; exact Or.inr h
  have hS : va_S A s.heap s.heap [] := va_S.rf
  have hl0 := lv_entry ([.ref d0, .int 1, .int x2]) (n := 4) (Nat.le_of_ble_eq_true rfl)
  rw [lg_entry_eq]
  generalize (lg_sl ([.ref d0, .int 1, .int x2]) ++ List.replicate (4 - (lg_sl ([.ref d0, .int 1, .int x2])).length) Slot.unset).toArray = ls at hl0 ⊢
  have hl1 : lv_has ls 4 [(0, .ref d0), (1, .int 1), (2, .int x2)] := hl0
  refine lv_aload_n hx hb d_law_start_0 rfl (lv_at hl1 0 rfl) ?_
  refine lv_iload_n hx hb d_law_start_1 rfl (lv_at hl1 1 rfl) ?_
  refine lv_iload_n hx hb d_law_start_2 rfl (lv_at hl1 2 rfl) ?_
  have hPc := hP.sub (ws' := [(d0, .inr (10, [.ref d1, .ref d2, .ref d3, .ref d4, .ref d5, .ref d6, .ref d7, .ref d8, .ref d9, .ref d10, .ref d11, .ref d12, .int 0])), (d7, .inr (8, [.ref e1])), (e1, .inl (ax 4, 6, .inr (.inl (fun _ => 0))))]) [0, 1, 2] rfl
  have hDc := hD.sub (ws' := [(d0, .inr (10, [.ref d1, .ref d2, .ref d3, .ref d4, .ref d5, .ref d6, .ref d7, .ref d8, .ref d9, .ref d10, .ref d11, .ref d12, .int 0])), (d7, .inr (8, [.ref e1])), (e1, .inl (ax 4, 6, .inr (.inl (fun _ => 0))))]) [0, 1, 2] (by decide) rfl
  have hFc := va_free (wc := [(d0, .inr (10, [.ref d1, .ref d2, .ref d3, .ref d4, .ref d5, .ref d6, .ref d7, .ref d8, .ref d9, .ref d10, .ref d11, .ref d12, .int 0])), (d7, .inr (8, [.ref e1])), (e1, .inl (ax 4, 6, .inr (.inl (fun _ => 0))))]) hD hS hA [0, 1, 2] rfl
  have hz := xz_of hN hS
  refine va_callv (va_runV (As := [.int 1, .int x2]) (rest := []) ⟨hx, hb, hml, hown, hts⟩ (c_Desk_start_1 l D ax d0 d1 d2 d3 d4 d5 d6 d7 d8 d9 d10 d11 d12 e1 x2 s.heap.size) (xcV (n := 2) hts wd_961 wd_1 wd_958 wd_959 wd_960 rfl rfl (by decide +kernel) ⟨Nat.le_of_ble_eq_true rfl, Nat.le_of_ble_eq_true rfl⟩) (xpV (ci := 10) (q0 := 0) (As := [.int 1, .int x2]) hPc hK hz hDc rfl rfl) rfl rfl hl1.1 rfl (lv_room (Nat.le_of_ble_eq_true rfl)) d_law_start_3 ⟨Nat.le_of_ble_eq_true rfl, Nat.le_of_ble_eq_true rfl⟩) hS (fun q _ h => hFc q h) hFc (fun u_1 t H_2 locs ht hvm hw hB hz1 hk1 hS => ?_)
  try dsimp only at hw
  obtain ⟨hP, hD⟩ := va_join (wr := []) (w1 := []) hP hD [0, 1, 2] [] rfl rfl (by decide) (by decide) hk1 hFc x_nilP x_nilD
  have hP : va_P D classes [] H_2 := hP
  have hD : va_D A [] := hD
  refine lv_goto (tgt := 12) hx hb d_law_start_6 (by decide) ?_
  refine lv_iconst (v := 0) hx hb d_law_start_12 (by decide) ?_
  refine xt_weak (fun t h => xt_ofMQ h) ?_
  exact W.iret (v := 0) hx hb hr (fun t ht hW => ⟨⟨0, fun _ => 0, rfl, rfl, trivial⟩, hS.F ht⟩) hS.2.2 d_law_start_13
set_option maxHeartbeats 4000000 in
set_option maxRecDepth 100000 in
theorem c_law_value_1 (l : Launch) (hl : l.stackTraces = false) (D : va_G) (ax : Nat → ClassId) (d0 d1 d2 d3 d4 d5 d6 d7 d8 d9 d10 d11 d12 : Nat) (o0 e1 : Nat) (sz : Nat) : xt_Met l y_law_value (xws (.codeWith y_law_value b_law_value 4 (some .int) [(0, 8, 11, 19)])) ({ frames := 130, cells := 0, slots := 0, locals := 5200 }) (va_Pc [.ref d0, .int 1, .ref o0] (xo D ax [(d0, .inr (10, [.ref d1, .ref d2, .ref d3, .ref d4, .ref d5, .ref d6, .ref d7, .ref d8, .ref d9, .ref d10, .ref d11, .ref d12, .int 0])), (d7, .inr (8, [.ref e1])), (e1, .inl (ax 4, 6, .inr (.inl (fun _ => 0)))), (o0, .inl (ax 4, 1, .inr (.inl (fun _ => 0))))] sz)) ((va_Qi (fun (r : Int32) (u : Nat → Nat) => r = 0) (xb D (va_A [(d0, .inr (10, [.ref d1, .ref d2, .ref d3, .ref d4, .ref d5, .ref d6, .ref d7, .ref d8, .ref d9, .ref d10, .ref d11, .ref d12, .int 0])), (d7, .inr (8, [.ref e1])), (e1, .inl (ax 4, 6, .inr (.inl (fun _ => 0)))), (o0, .inl (ax 4, 1, .inr (.inl (fun _ => 0))))] sz) (fun u => [(o0, .inl (ax 4, 1, .inr (.inl (vp_updL (fun _ => 0) 0 0))))])) (va_A [(d0, .inr (10, [.ref d1, .ref d2, .ref d3, .ref d4, .ref d5, .ref d6, .ref d7, .ref d8, .ref d9, .ref d10, .ref d11, .ref d12, .int 0])), (d7, .inr (8, [.ref e1])), (e1, .inl (ax 4, 6, .inr (.inl (fun _ => 0)))), (o0, .inl (ax 4, 1, .inr (.inl (fun _ => 0))))] sz))) 0 0 (va_A [(d0, .inr (10, [.ref d1, .ref d2, .ref d3, .ref d4, .ref d5, .ref d6, .ref d7, .ref d8, .ref d9, .ref d10, .ref d11, .ref d12, .int 0])), (d7, .inr (8, [.ref e1])), (e1, .inl (ax 4, 6, .inr (.inl (fun _ => 0)))), (o0, .inl (ax 4, 1, .inr (.inl (fun _ => 0))))] sz) := by
  refine xt_Met.ofWith (cc := b_law_value) (maxL := 4) (ret := (some .int)) (hs := [(0, 8, 11, 19)]) (by decide) rfl ?_
  intro p e s m args below meth c s₁ B hml htab hv
  obtain ⟨rfl, hsz, hP, hK, hD0⟩ := hv
  have hx := B.exec
  have hb := B.bytes
  have hr := B.returns
  have hts := xw_hts B.pre
  have hown : s.vm.findClass R_law = some m.cls := findClass_of_methodNamed B.named
  have hlocks := B.notSynchronized
  subst hsz
  have hD := hD0.self (sz := s.heap.size)
  have hN := xz_entry hP
  generalize hAe : va_A [(d0, .inr (10, [.ref d1, .ref d2, .ref d3, .ref d4, .ref d5, .ref d6, .ref d7, .ref d8, .ref d9, .ref d10, .ref d11, .ref d12, .int 0])), (d7, .inr (8, [.ref e1])), (e1, .inl (ax 4, 6, .inr (.inl (fun _ => 0)))), (o0, .inl (ax 4, 1, .inr (.inl (fun _ => 0))))] s.heap.size = A at hD hN ⊢
  have hA : ∀ q : Nat, s.heap.size ≤ q → A q := fun q h => by rw [← hAe]; exact Or.inr h
  have hS : va_S A s.heap s.heap [] := va_S.rf
  have hl0 := lv_entry ([.ref d0, .int 1, .ref o0]) (n := 4) (Nat.le_of_ble_eq_true rfl)
  rw [lg_entry_eq]
  generalize (lg_sl ([.ref d0, .int 1, .ref o0]) ++ List.replicate (4 - (lg_sl ([.ref d0, .int 1, .ref o0])).length) Slot.unset).toArray = ls at hl0 ⊢
  have hl1 : lv_has ls 4 [(0, .ref d0), (1, .int 1), (2, .ref o0)] := hl0
  refine lv_aload_n hx hb d_law_value_0 rfl (lv_at hl1 2 rfl) ?_
  refine lv_iconst (v := 0) hx hb d_law_value_1 (by decide) ?_
  refine lv_aload_n hx hb d_law_value_2 rfl (lv_at hl1 0 rfl) ?_
  refine lv_iload_n hx hb d_law_value_3 rfl (lv_at hl1 1 rfl) ?_
  have hPc := hP.sub (ws' := [(d0, .inr (10, [.ref d1, .ref d2, .ref d3, .ref d4, .ref d5, .ref d6, .ref d7, .ref d8, .ref d9, .ref d10, .ref d11, .ref d12, .int 0])), (d7, .inr (8, [.ref e1])), (e1, .inl (ax 4, 6, .inr (.inl (fun _ => 0))))]) [0, 1, 2] rfl
  have hDc := hD.sub (ws' := [(d0, .inr (10, [.ref d1, .ref d2, .ref d3, .ref d4, .ref d5, .ref d6, .ref d7, .ref d8, .ref d9, .ref d10, .ref d11, .ref d12, .int 0])), (d7, .inr (8, [.ref e1])), (e1, .inl (ax 4, 6, .inr (.inl (fun _ => 0))))]) [0, 1, 2] (by decide) rfl
  have hFc := va_free (wc := [(d0, .inr (10, [.ref d1, .ref d2, .ref d3, .ref d4, .ref d5, .ref d6, .ref d7, .ref d8, .ref d9, .ref d10, .ref d11, .ref d12, .int 0])), (d7, .inr (8, [.ref e1])), (e1, .inl (ax 4, 6, .inr (.inl (fun _ => 0))))]) hD hS hA [0, 1, 2] rfl
  have hz := xz_of hN hS
  refine va_calll (va_runV (As := [.int 1]) (rest := [.int 0, .ref o0]) ⟨hx, hb, hml, hown, hts⟩ (c_Desk_value_1 l D ax d0 d1 d2 d3 d4 d5 d6 d7 d8 d9 d10 d11 d12 e1 s.heap.size) (xcV (n := 1) hts wd_1015 wd_1 wd_1012 wd_1013 wd_1014 rfl rfl (by decide +kernel) ⟨Nat.le_of_ble_eq_true rfl, Nat.le_of_ble_eq_true rfl⟩) (xpV (ci := 10) (q0 := 0) (As := [.int 1]) hPc hK hz hDc rfl rfl) rfl rfl hl1.1 rfl (lv_room (Nat.le_of_ble_eq_true rfl)) d_law_value_4 ⟨Nat.le_of_ble_eq_true rfl, Nat.le_of_ble_eq_true rfl⟩) hS (fun q _ h => hFc q h) hFc (fun r_3 u_1 t H_2 locs ht hvm hw hB hz1 hk1 hS => ?_)
  try dsimp only at hw
  subst hw
  obtain ⟨hP, hD⟩ := va_join (wr := [(o0, .inl (ax 4, 1, .inr (.inl (fun _ => 0))))]) (w1 := []) hP hD [0, 1, 2] [3] rfl rfl (by decide) (by decide) hk1 hFc x_nilP x_nilD
  have hP : va_P D classes [(o0, .inl (ax 4, 1, .inr (.inl (fun _ => 0))))] H_2 := hP
  have hD : va_D A [(o0, .inl (ax 4, 1, .inr (.inl (fun _ => 0))))] := hD
  refine va_last hx hb hK.1 hP hD hS 0 4 rfl rfl (by unfold vp_in; decide) d_law_value_7 (fun H_4 locs hP hD hS => ?_)
  have hP : va_P D classes [(o0, .inl (ax 4, 1, .inr (.inl (vp_updL (fun _ => 0) 0 0))))] H_4 := hP
  have hD : va_D A [(o0, .inl (ax 4, 1, .inr (.inl (vp_updL (fun _ => 0) 0 0))))] := hD
  refine lv_goto (tgt := 14) hx hb d_law_value_8 (by decide) ?_
  refine lv_iconst (v := 0) hx hb d_law_value_14 (by decide) ?_
  refine xt_weak (fun t h => xt_ofMQ h) ?_
  have hP9 := hP.sub (ws' := (fun u : Nat → Nat => [(o0, .inl (ax 4, 1, .inr (.inl (vp_updL (fun _ => 0) 0 0))))]) (ixn [])) [0] rfl
  have hD9 := hD.sub (ws' := (fun u : Nat → Nat => [(o0, .inl (ax 4, 1, .inr (.inl (vp_updL (fun _ => 0) 0 0))))]) (ixn [])) [0] (by decide) rfl
  exact W.iret (v := 0) hx hb hr (fun t ht hW => ⟨⟨0, ixn [], rfl, rfl, ⟨by rw [ht]; exact hP9, hD9⟩⟩, hS.F ht⟩) hS.2.2 d_law_value_15
set_option maxHeartbeats 4000000 in
set_option maxRecDepth 100000 in
theorem c_law_start_2 (l : Launch) (hl : l.stackTraces = false) (D : va_G) (ax : Nat → ClassId) (d0 d1 d2 d3 d4 d5 d6 d7 d8 d9 d10 d11 d12 : Nat) (e1 : Nat) (x2 : Int32) (sz : Nat) : xt_Met l y_law_start (xws (.codeWith y_law_start b_law_start 4 (some .int) [(0, 6, 9, 19)])) ({ frames := 130, cells := 0, slots := 0, locals := 5200 }) (va_Pc [.ref d0, .int 2, .int x2] (xo D ax [(d0, .inr (10, [.ref d1, .ref d2, .ref d3, .ref d4, .ref d5, .ref d6, .ref d7, .ref d8, .ref d9, .ref d10, .ref d11, .ref d12, .int 0])), (d7, .inr (8, [.ref e1])), (e1, .inl (ax 4, 6, .inr (.inl (fun _ => 0))))] sz)) ((va_Qi (fun (r : Int32) (u : Nat → Nat) => r = 0) (fun (_ : Nat → Nat) (_ : State) => True) (va_A [(d0, .inr (10, [.ref d1, .ref d2, .ref d3, .ref d4, .ref d5, .ref d6, .ref d7, .ref d8, .ref d9, .ref d10, .ref d11, .ref d12, .int 0])), (d7, .inr (8, [.ref e1])), (e1, .inl (ax 4, 6, .inr (.inl (fun _ => 0))))] sz))) 0 0 (va_A [(d0, .inr (10, [.ref d1, .ref d2, .ref d3, .ref d4, .ref d5, .ref d6, .ref d7, .ref d8, .ref d9, .ref d10, .ref d11, .ref d12, .int 0])), (d7, .inr (8, [.ref e1])), (e1, .inl (ax 4, 6, .inr (.inl (fun _ => 0))))] sz) := by
  refine xt_Met.ofWith (cc := b_law_start) (maxL := 4) (ret := (some .int)) (hs := [(0, 6, 9, 19)]) (by decide) rfl ?_
  intro p e s m args below meth c s₁ B hml htab hv
  obtain ⟨rfl, hsz, hP, hK, hD0⟩ := hv
  have hx := B.exec
  have hb := B.bytes
  have hr := B.returns
  have hts := xw_hts B.pre
  have hown : s.vm.findClass R_law = some m.cls := findClass_of_methodNamed B.named
  have hlocks := B.notSynchronized
  subst hsz
  have hD := hD0.self (sz := s.heap.size)
  have hN := xz_entry hP
  generalize hAe : va_A [(d0, .inr (10, [.ref d1, .ref d2, .ref d3, .ref d4, .ref d5, .ref d6, .ref d7, .ref d8, .ref d9, .ref d10, .ref d11, .ref d12, .int 0])), (d7, .inr (8, [.ref e1])), (e1, .inl (ax 4, 6, .inr (.inl (fun _ => 0))))] s.heap.size = A at hD hN ⊢
  have hA : ∀ q : Nat, s.heap.size ≤ q → A q := fun q h => by rw [← hAe]; exact Or.inr h
  have hS : va_S A s.heap s.heap [] := va_S.rf
  have hl0 := lv_entry ([.ref d0, .int 2, .int x2]) (n := 4) (Nat.le_of_ble_eq_true rfl)
  rw [lg_entry_eq]
  generalize (lg_sl ([.ref d0, .int 2, .int x2]) ++ List.replicate (4 - (lg_sl ([.ref d0, .int 2, .int x2])).length) Slot.unset).toArray = ls at hl0 ⊢
  have hl1 : lv_has ls 4 [(0, .ref d0), (1, .int 2), (2, .int x2)] := hl0
  refine lv_aload_n hx hb d_law_start_0 rfl (lv_at hl1 0 rfl) ?_
  refine lv_iload_n hx hb d_law_start_1 rfl (lv_at hl1 1 rfl) ?_
  refine lv_iload_n hx hb d_law_start_2 rfl (lv_at hl1 2 rfl) ?_
  have hPc := hP.sub (ws' := [(d0, .inr (10, [.ref d1, .ref d2, .ref d3, .ref d4, .ref d5, .ref d6, .ref d7, .ref d8, .ref d9, .ref d10, .ref d11, .ref d12, .int 0])), (d7, .inr (8, [.ref e1])), (e1, .inl (ax 4, 6, .inr (.inl (fun _ => 0))))]) [0, 1, 2] rfl
  have hDc := hD.sub (ws' := [(d0, .inr (10, [.ref d1, .ref d2, .ref d3, .ref d4, .ref d5, .ref d6, .ref d7, .ref d8, .ref d9, .ref d10, .ref d11, .ref d12, .int 0])), (d7, .inr (8, [.ref e1])), (e1, .inl (ax 4, 6, .inr (.inl (fun _ => 0))))]) [0, 1, 2] (by decide) rfl
  have hFc := va_free (wc := [(d0, .inr (10, [.ref d1, .ref d2, .ref d3, .ref d4, .ref d5, .ref d6, .ref d7, .ref d8, .ref d9, .ref d10, .ref d11, .ref d12, .int 0])), (d7, .inr (8, [.ref e1])), (e1, .inl (ax 4, 6, .inr (.inl (fun _ => 0))))]) hD hS hA [0, 1, 2] rfl
  have hz := xz_of hN hS
  refine va_callv (va_runV (As := [.int 2, .int x2]) (rest := []) ⟨hx, hb, hml, hown, hts⟩ (c_Desk_start_2 l D ax d0 d1 d2 d3 d4 d5 d6 d7 d8 d9 d10 d11 d12 e1 x2 s.heap.size) (xcV (n := 2) hts wd_961 wd_1 wd_958 wd_959 wd_960 rfl rfl (by decide +kernel) ⟨Nat.le_of_ble_eq_true rfl, Nat.le_of_ble_eq_true rfl⟩) (xpV (ci := 10) (q0 := 0) (As := [.int 2, .int x2]) hPc hK hz hDc rfl rfl) rfl rfl hl1.1 rfl (lv_room (Nat.le_of_ble_eq_true rfl)) d_law_start_3 ⟨Nat.le_of_ble_eq_true rfl, Nat.le_of_ble_eq_true rfl⟩) hS (fun q _ h => hFc q h) hFc (fun u_1 t H_2 locs ht hvm hw hB hz1 hk1 hS => ?_)
  try dsimp only at hw
  obtain ⟨hP, hD⟩ := va_join (wr := []) (w1 := []) hP hD [0, 1, 2] [] rfl rfl (by decide) (by decide) hk1 hFc x_nilP x_nilD
  have hP : va_P D classes [] H_2 := hP
  have hD : va_D A [] := hD
  refine lv_goto (tgt := 12) hx hb d_law_start_6 (by decide) ?_
  refine lv_iconst (v := 0) hx hb d_law_start_12 (by decide) ?_
  refine xt_weak (fun t h => xt_ofMQ h) ?_
  exact W.iret (v := 0) hx hb hr (fun t ht hW => ⟨⟨0, fun _ => 0, rfl, rfl, trivial⟩, hS.F ht⟩) hS.2.2 d_law_start_13
set_option maxHeartbeats 4000000 in
set_option maxRecDepth 100000 in
theorem c_law_value_2 (l : Launch) (hl : l.stackTraces = false) (D : va_G) (ax : Nat → ClassId) (d0 d1 d2 d3 d4 d5 d6 d7 d8 d9 d10 d11 d12 : Nat) (o0 e1 : Nat) (sz : Nat) : xt_Met l y_law_value (xws (.codeWith y_law_value b_law_value 4 (some .int) [(0, 8, 11, 19)])) ({ frames := 130, cells := 0, slots := 0, locals := 5200 }) (va_Pc [.ref d0, .int 2, .ref o0] (xo D ax [(d0, .inr (10, [.ref d1, .ref d2, .ref d3, .ref d4, .ref d5, .ref d6, .ref d7, .ref d8, .ref d9, .ref d10, .ref d11, .ref d12, .int 0])), (d7, .inr (8, [.ref e1])), (e1, .inl (ax 4, 6, .inr (.inl (fun _ => 0)))), (o0, .inl (ax 4, 1, .inr (.inl (fun _ => 0))))] sz)) ((va_Qi (fun (r : Int32) (u : Nat → Nat) => r = 0) (xb D (va_A [(d0, .inr (10, [.ref d1, .ref d2, .ref d3, .ref d4, .ref d5, .ref d6, .ref d7, .ref d8, .ref d9, .ref d10, .ref d11, .ref d12, .int 0])), (d7, .inr (8, [.ref e1])), (e1, .inl (ax 4, 6, .inr (.inl (fun _ => 0)))), (o0, .inl (ax 4, 1, .inr (.inl (fun _ => 0))))] sz) (fun u => [(o0, .inl (ax 4, 1, .inr (.inl (vp_updL (fun _ => 0) 0 0))))])) (va_A [(d0, .inr (10, [.ref d1, .ref d2, .ref d3, .ref d4, .ref d5, .ref d6, .ref d7, .ref d8, .ref d9, .ref d10, .ref d11, .ref d12, .int 0])), (d7, .inr (8, [.ref e1])), (e1, .inl (ax 4, 6, .inr (.inl (fun _ => 0)))), (o0, .inl (ax 4, 1, .inr (.inl (fun _ => 0))))] sz))) 0 0 (va_A [(d0, .inr (10, [.ref d1, .ref d2, .ref d3, .ref d4, .ref d5, .ref d6, .ref d7, .ref d8, .ref d9, .ref d10, .ref d11, .ref d12, .int 0])), (d7, .inr (8, [.ref e1])), (e1, .inl (ax 4, 6, .inr (.inl (fun _ => 0)))), (o0, .inl (ax 4, 1, .inr (.inl (fun _ => 0))))] sz) := by
  refine xt_Met.ofWith (cc := b_law_value) (maxL := 4) (ret := (some .int)) (hs := [(0, 8, 11, 19)]) (by decide) rfl ?_
  intro p e s m args below meth c s₁ B hml htab hv
  obtain ⟨rfl, hsz, hP, hK, hD0⟩ := hv
  have hx := B.exec
  have hb := B.bytes
  have hr := B.returns
  have hts := xw_hts B.pre
  have hown : s.vm.findClass R_law = some m.cls := findClass_of_methodNamed B.named
  have hlocks := B.notSynchronized
  subst hsz
  have hD := hD0.self (sz := s.heap.size)
  have hN := xz_entry hP
  generalize hAe : va_A [(d0, .inr (10, [.ref d1, .ref d2, .ref d3, .ref d4, .ref d5, .ref d6, .ref d7, .ref d8, .ref d9, .ref d10, .ref d11, .ref d12, .int 0])), (d7, .inr (8, [.ref e1])), (e1, .inl (ax 4, 6, .inr (.inl (fun _ => 0)))), (o0, .inl (ax 4, 1, .inr (.inl (fun _ => 0))))] s.heap.size = A at hD hN ⊢
  have hA : ∀ q : Nat, s.heap.size ≤ q → A q := fun q h => by rw [← hAe]; exact Or.inr h
  have hS : va_S A s.heap s.heap [] := va_S.rf
  have hl0 := lv_entry ([.ref d0, .int 2, .ref o0]) (n := 4) (Nat.le_of_ble_eq_true rfl)
  rw [lg_entry_eq]
  generalize (lg_sl ([.ref d0, .int 2, .ref o0]) ++ List.replicate (4 - (lg_sl ([.ref d0, .int 2, .ref o0])).length) Slot.unset).toArray = ls at hl0 ⊢
  have hl1 : lv_has ls 4 [(0, .ref d0), (1, .int 2), (2, .ref o0)] := hl0
  refine lv_aload_n hx hb d_law_value_0 rfl (lv_at hl1 2 rfl) ?_
  refine lv_iconst (v := 0) hx hb d_law_value_1 (by decide) ?_
  refine lv_aload_n hx hb d_law_value_2 rfl (lv_at hl1 0 rfl) ?_
  refine lv_iload_n hx hb d_law_value_3 rfl (lv_at hl1 1 rfl) ?_
  have hPc := hP.sub (ws' := [(d0, .inr (10, [.ref d1, .ref d2, .ref d3, .ref d4, .ref d5, .ref d6, .ref d7, .ref d8, .ref d9, .ref d10, .ref d11, .ref d12, .int 0])), (d7, .inr (8, [.ref e1])), (e1, .inl (ax 4, 6, .inr (.inl (fun _ => 0))))]) [0, 1, 2] rfl
  have hDc := hD.sub (ws' := [(d0, .inr (10, [.ref d1, .ref d2, .ref d3, .ref d4, .ref d5, .ref d6, .ref d7, .ref d8, .ref d9, .ref d10, .ref d11, .ref d12, .int 0])), (d7, .inr (8, [.ref e1])), (e1, .inl (ax 4, 6, .inr (.inl (fun _ => 0))))]) [0, 1, 2] (by decide) rfl
  have hFc := va_free (wc := [(d0, .inr (10, [.ref d1, .ref d2, .ref d3, .ref d4, .ref d5, .ref d6, .ref d7, .ref d8, .ref d9, .ref d10, .ref d11, .ref d12, .int 0])), (d7, .inr (8, [.ref e1])), (e1, .inl (ax 4, 6, .inr (.inl (fun _ => 0))))]) hD hS hA [0, 1, 2] rfl
  have hz := xz_of hN hS
  refine va_calll (va_runV (As := [.int 2]) (rest := [.int 0, .ref o0]) ⟨hx, hb, hml, hown, hts⟩ (c_Desk_value_2 l D ax d0 d1 d2 d3 d4 d5 d6 d7 d8 d9 d10 d11 d12 e1 s.heap.size) (xcV (n := 1) hts wd_1015 wd_1 wd_1012 wd_1013 wd_1014 rfl rfl (by decide +kernel) ⟨Nat.le_of_ble_eq_true rfl, Nat.le_of_ble_eq_true rfl⟩) (xpV (ci := 10) (q0 := 0) (As := [.int 2]) hPc hK hz hDc rfl rfl) rfl rfl hl1.1 rfl (lv_room (Nat.le_of_ble_eq_true rfl)) d_law_value_4 ⟨Nat.le_of_ble_eq_true rfl, Nat.le_of_ble_eq_true rfl⟩) hS (fun q _ h => hFc q h) hFc (fun r_3 u_1 t H_2 locs ht hvm hw hB hz1 hk1 hS => ?_)
  try dsimp only at hw
  subst hw
  obtain ⟨hP, hD⟩ := va_join (wr := [(o0, .inl (ax 4, 1, .inr (.inl (fun _ => 0))))]) (w1 := []) hP hD [0, 1, 2] [3] rfl rfl (by decide) (by decide) hk1 hFc x_nilP x_nilD
  have hP : va_P D classes [(o0, .inl (ax 4, 1, .inr (.inl (fun _ => 0))))] H_2 := hP
  have hD : va_D A [(o0, .inl (ax 4, 1, .inr (.inl (fun _ => 0))))] := hD
  refine va_last hx hb hK.1 hP hD hS 0 4 rfl rfl (by unfold vp_in; decide) d_law_value_7 (fun H_4 locs hP hD hS => ?_)
  have hP : va_P D classes [(o0, .inl (ax 4, 1, .inr (.inl (vp_updL (fun _ => 0) 0 0))))] H_4 := hP
  have hD : va_D A [(o0, .inl (ax 4, 1, .inr (.inl (vp_updL (fun _ => 0) 0 0))))] := hD
  refine lv_goto (tgt := 14) hx hb d_law_value_8 (by decide) ?_
  refine lv_iconst (v := 0) hx hb d_law_value_14 (by decide) ?_
  refine xt_weak (fun t h => xt_ofMQ h) ?_
  have hP9 := hP.sub (ws' := (fun u : Nat → Nat => [(o0, .inl (ax 4, 1, .inr (.inl (vp_updL (fun _ => 0) 0 0))))]) (ixn [])) [0] rfl
  have hD9 := hD.sub (ws' := (fun u : Nat → Nat => [(o0, .inl (ax 4, 1, .inr (.inl (vp_updL (fun _ => 0) 0 0))))]) (ixn [])) [0] (by decide) rfl
  exact W.iret (v := 0) hx hb hr (fun t ht hW => ⟨⟨0, ixn [], rfl, rfl, ⟨by rw [ht]; exact hP9, hD9⟩⟩, hS.F ht⟩) hS.2.2 d_law_value_15
set_option maxHeartbeats 4000000 in
set_option maxRecDepth 100000 in
theorem c_law_start_3 (l : Launch) (hl : l.stackTraces = false) (D : va_G) (ax : Nat → ClassId) (d0 d1 d2 d3 d4 d5 d6 d7 d8 d9 d10 d11 d12 : Nat) (e1 : Nat) (x2 : Int32) (sz : Nat) : xt_Met l y_law_start (xws (.codeWith y_law_start b_law_start 4 (some .int) [(0, 6, 9, 19)])) ({ frames := 130, cells := 0, slots := 0, locals := 5200 }) (va_Pc [.ref d0, .int 3, .int x2] (xo D ax [(d0, .inr (10, [.ref d1, .ref d2, .ref d3, .ref d4, .ref d5, .ref d6, .ref d7, .ref d8, .ref d9, .ref d10, .ref d11, .ref d12, .int 0])), (d7, .inr (8, [.ref e1])), (e1, .inl (ax 4, 6, .inr (.inl (fun _ => 0))))] sz)) ((va_Qi (fun (r : Int32) (u : Nat → Nat) => r = 0) (fun (_ : Nat → Nat) (_ : State) => True) (va_A [(d0, .inr (10, [.ref d1, .ref d2, .ref d3, .ref d4, .ref d5, .ref d6, .ref d7, .ref d8, .ref d9, .ref d10, .ref d11, .ref d12, .int 0])), (d7, .inr (8, [.ref e1])), (e1, .inl (ax 4, 6, .inr (.inl (fun _ => 0))))] sz))) 0 0 (va_A [(d0, .inr (10, [.ref d1, .ref d2, .ref d3, .ref d4, .ref d5, .ref d6, .ref d7, .ref d8, .ref d9, .ref d10, .ref d11, .ref d12, .int 0])), (d7, .inr (8, [.ref e1])), (e1, .inl (ax 4, 6, .inr (.inl (fun _ => 0))))] sz) := by
  refine xt_Met.ofWith (cc := b_law_start) (maxL := 4) (ret := (some .int)) (hs := [(0, 6, 9, 19)]) (by decide) rfl ?_
  intro p e s m args below meth c s₁ B hml htab hv
  obtain ⟨rfl, hsz, hP, hK, hD0⟩ := hv
  have hx := B.exec
  have hb := B.bytes
  have hr := B.returns
  have hts := xw_hts B.pre
  have hown : s.vm.findClass R_law = some m.cls := findClass_of_methodNamed B.named
  have hlocks := B.notSynchronized
  subst hsz
  have hD := hD0.self (sz := s.heap.size)
  have hN := xz_entry hP
  generalize hAe : va_A [(d0, .inr (10, [.ref d1, .ref d2, .ref d3, .ref d4, .ref d5, .ref d6, .ref d7, .ref d8, .ref d9, .ref d10, .ref d11, .ref d12, .int 0])), (d7, .inr (8, [.ref e1])), (e1, .inl (ax 4, 6, .inr (.inl (fun _ => 0))))] s.heap.size = A at hD hN ⊢
  have hA : ∀ q : Nat, s.heap.size ≤ q → A q := fun q h => by rw [← hAe]; exact Or.inr h
  have hS : va_S A s.heap s.heap [] := va_S.rf
  have hl0 := lv_entry ([.ref d0, .int 3, .int x2]) (n := 4) (Nat.le_of_ble_eq_true rfl)
  rw [lg_entry_eq]
  generalize (lg_sl ([.ref d0, .int 3, .int x2]) ++ List.replicate (4 - (lg_sl ([.ref d0, .int 3, .int x2])).length) Slot.unset).toArray = ls at hl0 ⊢
  have hl1 : lv_has ls 4 [(0, .ref d0), (1, .int 3), (2, .int x2)] := hl0
  refine lv_aload_n hx hb d_law_start_0 rfl (lv_at hl1 0 rfl) ?_
  refine lv_iload_n hx hb d_law_start_1 rfl (lv_at hl1 1 rfl) ?_
  refine lv_iload_n hx hb d_law_start_2 rfl (lv_at hl1 2 rfl) ?_
  have hPc := hP.sub (ws' := [(d0, .inr (10, [.ref d1, .ref d2, .ref d3, .ref d4, .ref d5, .ref d6, .ref d7, .ref d8, .ref d9, .ref d10, .ref d11, .ref d12, .int 0])), (d7, .inr (8, [.ref e1])), (e1, .inl (ax 4, 6, .inr (.inl (fun _ => 0))))]) [0, 1, 2] rfl
  have hDc := hD.sub (ws' := [(d0, .inr (10, [.ref d1, .ref d2, .ref d3, .ref d4, .ref d5, .ref d6, .ref d7, .ref d8, .ref d9, .ref d10, .ref d11, .ref d12, .int 0])), (d7, .inr (8, [.ref e1])), (e1, .inl (ax 4, 6, .inr (.inl (fun _ => 0))))]) [0, 1, 2] (by decide) rfl
  have hFc := va_free (wc := [(d0, .inr (10, [.ref d1, .ref d2, .ref d3, .ref d4, .ref d5, .ref d6, .ref d7, .ref d8, .ref d9, .ref d10, .ref d11, .ref d12, .int 0])), (d7, .inr (8, [.ref e1])), (e1, .inl (ax 4, 6, .inr (.inl (fun _ => 0))))]) hD hS hA [0, 1, 2] rfl
  have hz := xz_of hN hS
  refine va_callv (va_runV (As := [.int 3, .int x2]) (rest := []) ⟨hx, hb, hml, hown, hts⟩ (c_Desk_start_3 l D ax d0 d1 d2 d3 d4 d5 d6 d7 d8 d9 d10 d11 d12 e1 x2 s.heap.size) (xcV (n := 2) hts wd_961 wd_1 wd_958 wd_959 wd_960 rfl rfl (by decide +kernel) ⟨Nat.le_of_ble_eq_true rfl, Nat.le_of_ble_eq_true rfl⟩) (xpV (ci := 10) (q0 := 0) (As := [.int 3, .int x2]) hPc hK hz hDc rfl rfl) rfl rfl hl1.1 rfl (lv_room (Nat.le_of_ble_eq_true rfl)) d_law_start_3 ⟨Nat.le_of_ble_eq_true rfl, Nat.le_of_ble_eq_true rfl⟩) hS (fun q _ h => hFc q h) hFc (fun u_1 t H_2 locs ht hvm hw hB hz1 hk1 hS => ?_)
  try dsimp only at hw
  obtain ⟨hP, hD⟩ := va_join (wr := []) (w1 := []) hP hD [0, 1, 2] [] rfl rfl (by decide) (by decide) hk1 hFc x_nilP x_nilD
  have hP : va_P D classes [] H_2 := hP
  have hD : va_D A [] := hD
  refine lv_goto (tgt := 12) hx hb d_law_start_6 (by decide) ?_
  refine lv_iconst (v := 0) hx hb d_law_start_12 (by decide) ?_
  refine xt_weak (fun t h => xt_ofMQ h) ?_
  exact W.iret (v := 0) hx hb hr (fun t ht hW => ⟨⟨0, fun _ => 0, rfl, rfl, trivial⟩, hS.F ht⟩) hS.2.2 d_law_start_13
set_option maxHeartbeats 4000000 in
set_option maxRecDepth 100000 in
theorem c_law_value_3 (l : Launch) (hl : l.stackTraces = false) (D : va_G) (ax : Nat → ClassId) (d0 d1 d2 d3 d4 d5 d6 d7 d8 d9 d10 d11 d12 : Nat) (o0 e1 : Nat) (sz : Nat) : xt_Met l y_law_value (xws (.codeWith y_law_value b_law_value 4 (some .int) [(0, 8, 11, 19)])) ({ frames := 130, cells := 0, slots := 0, locals := 5200 }) (va_Pc [.ref d0, .int 3, .ref o0] (xo D ax [(d0, .inr (10, [.ref d1, .ref d2, .ref d3, .ref d4, .ref d5, .ref d6, .ref d7, .ref d8, .ref d9, .ref d10, .ref d11, .ref d12, .int 0])), (d7, .inr (8, [.ref e1])), (e1, .inl (ax 4, 6, .inr (.inl (fun _ => 0)))), (o0, .inl (ax 4, 1, .inr (.inl (fun _ => 0))))] sz)) ((va_Qi (fun (r : Int32) (u : Nat → Nat) => r = 0) (xb D (va_A [(d0, .inr (10, [.ref d1, .ref d2, .ref d3, .ref d4, .ref d5, .ref d6, .ref d7, .ref d8, .ref d9, .ref d10, .ref d11, .ref d12, .int 0])), (d7, .inr (8, [.ref e1])), (e1, .inl (ax 4, 6, .inr (.inl (fun _ => 0)))), (o0, .inl (ax 4, 1, .inr (.inl (fun _ => 0))))] sz) (fun u => [(o0, .inl (ax 4, 1, .inr (.inl (vp_updL (fun _ => 0) 0 0))))])) (va_A [(d0, .inr (10, [.ref d1, .ref d2, .ref d3, .ref d4, .ref d5, .ref d6, .ref d7, .ref d8, .ref d9, .ref d10, .ref d11, .ref d12, .int 0])), (d7, .inr (8, [.ref e1])), (e1, .inl (ax 4, 6, .inr (.inl (fun _ => 0)))), (o0, .inl (ax 4, 1, .inr (.inl (fun _ => 0))))] sz))) 0 0 (va_A [(d0, .inr (10, [.ref d1, .ref d2, .ref d3, .ref d4, .ref d5, .ref d6, .ref d7, .ref d8, .ref d9, .ref d10, .ref d11, .ref d12, .int 0])), (d7, .inr (8, [.ref e1])), (e1, .inl (ax 4, 6, .inr (.inl (fun _ => 0)))), (o0, .inl (ax 4, 1, .inr (.inl (fun _ => 0))))] sz) := by
  refine xt_Met.ofWith (cc := b_law_value) (maxL := 4) (ret := (some .int)) (hs := [(0, 8, 11, 19)]) (by decide) rfl ?_
  intro p e s m args below meth c s₁ B hml htab hv
  obtain ⟨rfl, hsz, hP, hK, hD0⟩ := hv
  have hx := B.exec
  have hb := B.bytes
  have hr := B.returns
  have hts := xw_hts B.pre
  have hown : s.vm.findClass R_law = some m.cls := findClass_of_methodNamed B.named
  have hlocks := B.notSynchronized
  subst hsz
  have hD := hD0.self (sz := s.heap.size)
  have hN := xz_entry hP
  generalize hAe : va_A [(d0, .inr (10, [.ref d1, .ref d2, .ref d3, .ref d4, .ref d5, .ref d6, .ref d7, .ref d8, .ref d9, .ref d10, .ref d11, .ref d12, .int 0])), (d7, .inr (8, [.ref e1])), (e1, .inl (ax 4, 6, .inr (.inl (fun _ => 0)))), (o0, .inl (ax 4, 1, .inr (.inl (fun _ => 0))))] s.heap.size = A at hD hN ⊢
  have hA : ∀ q : Nat, s.heap.size ≤ q → A q := fun q h => by rw [← hAe]; exact Or.inr h
  have hS : va_S A s.heap s.heap [] := va_S.rf
  have hl0 := lv_entry ([.ref d0, .int 3, .ref o0]) (n := 4) (Nat.le_of_ble_eq_true rfl)
  rw [lg_entry_eq]
  generalize (lg_sl ([.ref d0, .int 3, .ref o0]) ++ List.replicate (4 - (lg_sl ([.ref d0, .int 3, .ref o0])).length) Slot.unset).toArray = ls at hl0 ⊢
  have hl1 : lv_has ls 4 [(0, .ref d0), (1, .int 3), (2, .ref o0)] := hl0
  refine lv_aload_n hx hb d_law_value_0 rfl (lv_at hl1 2 rfl) ?_
  refine lv_iconst (v := 0) hx hb d_law_value_1 (by decide) ?_
  refine lv_aload_n hx hb d_law_value_2 rfl (lv_at hl1 0 rfl) ?_
  refine lv_iload_n hx hb d_law_value_3 rfl (lv_at hl1 1 rfl) ?_
  have hPc := hP.sub (ws' := [(d0, .inr (10, [.ref d1, .ref d2, .ref d3, .ref d4, .ref d5, .ref d6, .ref d7, .ref d8, .ref d9, .ref d10, .ref d11, .ref d12, .int 0])), (d7, .inr (8, [.ref e1])), (e1, .inl (ax 4, 6, .inr (.inl (fun _ => 0))))]) [0, 1, 2] rfl
  have hDc := hD.sub (ws' := [(d0, .inr (10, [.ref d1, .ref d2, .ref d3, .ref d4, .ref d5, .ref d6, .ref d7, .ref d8, .ref d9, .ref d10, .ref d11, .ref d12, .int 0])), (d7, .inr (8, [.ref e1])), (e1, .inl (ax 4, 6, .inr (.inl (fun _ => 0))))]) [0, 1, 2] (by decide) rfl
  have hFc := va_free (wc := [(d0, .inr (10, [.ref d1, .ref d2, .ref d3, .ref d4, .ref d5, .ref d6, .ref d7, .ref d8, .ref d9, .ref d10, .ref d11, .ref d12, .int 0])), (d7, .inr (8, [.ref e1])), (e1, .inl (ax 4, 6, .inr (.inl (fun _ => 0))))]) hD hS hA [0, 1, 2] rfl
  have hz := xz_of hN hS
  refine va_calll (va_runV (As := [.int 3]) (rest := [.int 0, .ref o0]) ⟨hx, hb, hml, hown, hts⟩ (c_Desk_value_3 l D ax d0 d1 d2 d3 d4 d5 d6 d7 d8 d9 d10 d11 d12 e1 s.heap.size) (xcV (n := 1) hts wd_1015 wd_1 wd_1012 wd_1013 wd_1014 rfl rfl (by decide +kernel) ⟨Nat.le_of_ble_eq_true rfl, Nat.le_of_ble_eq_true rfl⟩) (xpV (ci := 10) (q0 := 0) (As := [.int 3]) hPc hK hz hDc rfl rfl) rfl rfl hl1.1 rfl (lv_room (Nat.le_of_ble_eq_true rfl)) d_law_value_4 ⟨Nat.le_of_ble_eq_true rfl, Nat.le_of_ble_eq_true rfl⟩) hS (fun q _ h => hFc q h) hFc (fun r_3 u_1 t H_2 locs ht hvm hw hB hz1 hk1 hS => ?_)
  try dsimp only at hw
  subst hw
  obtain ⟨hP, hD⟩ := va_join (wr := [(o0, .inl (ax 4, 1, .inr (.inl (fun _ => 0))))]) (w1 := []) hP hD [0, 1, 2] [3] rfl rfl (by decide) (by decide) hk1 hFc x_nilP x_nilD
  have hP : va_P D classes [(o0, .inl (ax 4, 1, .inr (.inl (fun _ => 0))))] H_2 := hP
  have hD : va_D A [(o0, .inl (ax 4, 1, .inr (.inl (fun _ => 0))))] := hD
  refine va_last hx hb hK.1 hP hD hS 0 4 rfl rfl (by unfold vp_in; decide) d_law_value_7 (fun H_4 locs hP hD hS => ?_)
  have hP : va_P D classes [(o0, .inl (ax 4, 1, .inr (.inl (vp_updL (fun _ => 0) 0 0))))] H_4 := hP
  have hD : va_D A [(o0, .inl (ax 4, 1, .inr (.inl (vp_updL (fun _ => 0) 0 0))))] := hD
  refine lv_goto (tgt := 14) hx hb d_law_value_8 (by decide) ?_
  refine lv_iconst (v := 0) hx hb d_law_value_14 (by decide) ?_
  refine xt_weak (fun t h => xt_ofMQ h) ?_
  have hP9 := hP.sub (ws' := (fun u : Nat → Nat => [(o0, .inl (ax 4, 1, .inr (.inl (vp_updL (fun _ => 0) 0 0))))]) (ixn [])) [0] rfl
  have hD9 := hD.sub (ws' := (fun u : Nat → Nat => [(o0, .inl (ax 4, 1, .inr (.inl (vp_updL (fun _ => 0) 0 0))))]) (ixn [])) [0] (by decide) rfl
  exact W.iret (v := 0) hx hb hr (fun t ht hW => ⟨⟨0, ixn [], rfl, rfl, ⟨by rw [ht]; exact hP9, hD9⟩⟩, hS.F ht⟩) hS.2.2 d_law_value_15
set_option maxHeartbeats 4000000 in
set_option maxRecDepth 100000 in
theorem c_law_start_4 (l : Launch) (hl : l.stackTraces = false) (D : va_G) (ax : Nat → ClassId) (d0 d1 d2 d3 d4 d5 d6 d7 d8 d9 d10 d11 d12 : Nat) (e1 : Nat) (x2 : Int32) (sz : Nat) : xt_Met l y_law_start (xws (.codeWith y_law_start b_law_start 4 (some .int) [(0, 6, 9, 19)])) ({ frames := 130, cells := 0, slots := 0, locals := 5200 }) (va_Pc [.ref d0, .int 4, .int x2] (xo D ax [(d0, .inr (10, [.ref d1, .ref d2, .ref d3, .ref d4, .ref d5, .ref d6, .ref d7, .ref d8, .ref d9, .ref d10, .ref d11, .ref d12, .int 0])), (d7, .inr (8, [.ref e1])), (e1, .inl (ax 4, 6, .inr (.inl (fun _ => 0))))] sz)) ((va_Qi (fun (r : Int32) (u : Nat → Nat) => r = 0) (fun (_ : Nat → Nat) (_ : State) => True) (va_A [(d0, .inr (10, [.ref d1, .ref d2, .ref d3, .ref d4, .ref d5, .ref d6, .ref d7, .ref d8, .ref d9, .ref d10, .ref d11, .ref d12, .int 0])), (d7, .inr (8, [.ref e1])), (e1, .inl (ax 4, 6, .inr (.inl (fun _ => 0))))] sz))) 0 0 (va_A [(d0, .inr (10, [.ref d1, .ref d2, .ref d3, .ref d4, .ref d5, .ref d6, .ref d7, .ref d8, .ref d9, .ref d10, .ref d11, .ref d12, .int 0])), (d7, .inr (8, [.ref e1])), (e1, .inl (ax 4, 6, .inr (.inl (fun _ => 0))))] sz) := by
  refine xt_Met.ofWith (cc := b_law_start) (maxL := 4) (ret := (some .int)) (hs := [(0, 6, 9, 19)]) (by decide) rfl ?_
  intro p e s m args below meth c s₁ B hml htab hv
  obtain ⟨rfl, hsz, hP, hK, hD0⟩ := hv
  have hx := B.exec
  have hb := B.bytes
  have hr := B.returns
  have hts := xw_hts B.pre
  have hown : s.vm.findClass R_law = some m.cls := findClass_of_methodNamed B.named
  have hlocks := B.notSynchronized
  subst hsz
  have hD := hD0.self (sz := s.heap.size)
  have hN := xz_entry hP
  generalize hAe : va_A [(d0, .inr (10, [.ref d1, .ref d2, .ref d3, .ref d4, .ref d5, .ref d6, .ref d7, .ref d8, .ref d9, .ref d10, .ref d11, .ref d12, .int 0])), (d7, .inr (8, [.ref e1])), (e1, .inl (ax 4, 6, .inr (.inl (fun _ => 0))))] s.heap.size = A at hD hN ⊢
  have hA : ∀ q : Nat, s.heap.size ≤ q → A q := fun q h => by rw [← hAe]; exact Or.inr h
  have hS : va_S A s.heap s.heap [] := va_S.rf
  have hl0 := lv_entry ([.ref d0, .int 4, .int x2]) (n := 4) (Nat.le_of_ble_eq_true rfl)
  rw [lg_entry_eq]
  generalize (lg_sl ([.ref d0, .int 4, .int x2]) ++ List.replicate (4 - (lg_sl ([.ref d0, .int 4, .int x2])).length) Slot.unset).toArray = ls at hl0 ⊢
  have hl1 : lv_has ls 4 [(0, .ref d0), (1, .int 4), (2, .int x2)] := hl0
  refine lv_aload_n hx hb d_law_start_0 rfl (lv_at hl1 0 rfl) ?_
  refine lv_iload_n hx hb d_law_start_1 rfl (lv_at hl1 1 rfl) ?_
  refine lv_iload_n hx hb d_law_start_2 rfl (lv_at hl1 2 rfl) ?_
  have hPc := hP.sub (ws' := [(d0, .inr (10, [.ref d1, .ref d2, .ref d3, .ref d4, .ref d5, .ref d6, .ref d7, .ref d8, .ref d9, .ref d10, .ref d11, .ref d12, .int 0])), (d7, .inr (8, [.ref e1])), (e1, .inl (ax 4, 6, .inr (.inl (fun _ => 0))))]) [0, 1, 2] rfl
  have hDc := hD.sub (ws' := [(d0, .inr (10, [.ref d1, .ref d2, .ref d3, .ref d4, .ref d5, .ref d6, .ref d7, .ref d8, .ref d9, .ref d10, .ref d11, .ref d12, .int 0])), (d7, .inr (8, [.ref e1])), (e1, .inl (ax 4, 6, .inr (.inl (fun _ => 0))))]) [0, 1, 2] (by decide) rfl
  have hFc := va_free (wc := [(d0, .inr (10, [.ref d1, .ref d2, .ref d3, .ref d4, .ref d5, .ref d6, .ref d7, .ref d8, .ref d9, .ref d10, .ref d11, .ref d12, .int 0])), (d7, .inr (8, [.ref e1])), (e1, .inl (ax 4, 6, .inr (.inl (fun _ => 0))))]) hD hS hA [0, 1, 2] rfl
  have hz := xz_of hN hS
  refine va_callv (va_runV (As := [.int 4, .int x2]) (rest := []) ⟨hx, hb, hml, hown, hts⟩ (c_Desk_start_4 l D ax d0 d1 d2 d3 d4 d5 d6 d7 d8 d9 d10 d11 d12 e1 x2 s.heap.size) (xcV (n := 2) hts wd_961 wd_1 wd_958 wd_959 wd_960 rfl rfl (by decide +kernel) ⟨Nat.le_of_ble_eq_true rfl, Nat.le_of_ble_eq_true rfl⟩) (xpV (ci := 10) (q0 := 0) (As := [.int 4, .int x2]) hPc hK hz hDc rfl rfl) rfl rfl hl1.1 rfl (lv_room (Nat.le_of_ble_eq_true rfl)) d_law_start_3 ⟨Nat.le_of_ble_eq_true rfl, Nat.le_of_ble_eq_true rfl⟩) hS (fun q _ h => hFc q h) hFc (fun u_1 t H_2 locs ht hvm hw hB hz1 hk1 hS => ?_)
  try dsimp only at hw
  obtain ⟨hP, hD⟩ := va_join (wr := []) (w1 := []) hP hD [0, 1, 2] [] rfl rfl (by decide) (by decide) hk1 hFc x_nilP x_nilD
  have hP : va_P D classes [] H_2 := hP
  have hD : va_D A [] := hD
  refine lv_goto (tgt := 12) hx hb d_law_start_6 (by decide) ?_
  refine lv_iconst (v := 0) hx hb d_law_start_12 (by decide) ?_
  refine xt_weak (fun t h => xt_ofMQ h) ?_
  exact W.iret (v := 0) hx hb hr (fun t ht hW => ⟨⟨0, fun _ => 0, rfl, rfl, trivial⟩, hS.F ht⟩) hS.2.2 d_law_start_13
set_option maxHeartbeats 4000000 in
set_option maxRecDepth 100000 in
theorem c_law_value_4 (l : Launch) (hl : l.stackTraces = false) (D : va_G) (ax : Nat → ClassId) (d0 d1 d2 d3 d4 d5 d6 d7 d8 d9 d10 d11 d12 : Nat) (o0 e1 : Nat) (sz : Nat) : xt_Met l y_law_value (xws (.codeWith y_law_value b_law_value 4 (some .int) [(0, 8, 11, 19)])) ({ frames := 130, cells := 0, slots := 0, locals := 5200 }) (va_Pc [.ref d0, .int 4, .ref o0] (xo D ax [(d0, .inr (10, [.ref d1, .ref d2, .ref d3, .ref d4, .ref d5, .ref d6, .ref d7, .ref d8, .ref d9, .ref d10, .ref d11, .ref d12, .int 0])), (d7, .inr (8, [.ref e1])), (e1, .inl (ax 4, 6, .inr (.inl (fun _ => 0)))), (o0, .inl (ax 4, 1, .inr (.inl (fun _ => 0))))] sz)) ((va_Qi (fun (r : Int32) (u : Nat → Nat) => r = 0) (xb D (va_A [(d0, .inr (10, [.ref d1, .ref d2, .ref d3, .ref d4, .ref d5, .ref d6, .ref d7, .ref d8, .ref d9, .ref d10, .ref d11, .ref d12, .int 0])), (d7, .inr (8, [.ref e1])), (e1, .inl (ax 4, 6, .inr (.inl (fun _ => 0)))), (o0, .inl (ax 4, 1, .inr (.inl (fun _ => 0))))] sz) (fun u => [(o0, .inl (ax 4, 1, .inr (.inl (vp_updL (fun _ => 0) 0 0))))])) (va_A [(d0, .inr (10, [.ref d1, .ref d2, .ref d3, .ref d4, .ref d5, .ref d6, .ref d7, .ref d8, .ref d9, .ref d10, .ref d11, .ref d12, .int 0])), (d7, .inr (8, [.ref e1])), (e1, .inl (ax 4, 6, .inr (.inl (fun _ => 0)))), (o0, .inl (ax 4, 1, .inr (.inl (fun _ => 0))))] sz))) 0 0 (va_A [(d0, .inr (10, [.ref d1, .ref d2, .ref d3, .ref d4, .ref d5, .ref d6, .ref d7, .ref d8, .ref d9, .ref d10, .ref d11, .ref d12, .int 0])), (d7, .inr (8, [.ref e1])), (e1, .inl (ax 4, 6, .inr (.inl (fun _ => 0)))), (o0, .inl (ax 4, 1, .inr (.inl (fun _ => 0))))] sz) := by
  refine xt_Met.ofWith (cc := b_law_value) (maxL := 4) (ret := (some .int)) (hs := [(0, 8, 11, 19)]) (by decide) rfl ?_
  intro p e s m args below meth c s₁ B hml htab hv
  obtain ⟨rfl, hsz, hP, hK, hD0⟩ := hv
  have hx := B.exec
  have hb := B.bytes
  have hr := B.returns
  have hts := xw_hts B.pre
  have hown : s.vm.findClass R_law = some m.cls := findClass_of_methodNamed B.named
  have hlocks := B.notSynchronized
  subst hsz
  have hD := hD0.self (sz := s.heap.size)
  have hN := xz_entry hP
  generalize hAe : va_A [(d0, .inr (10, [.ref d1, .ref d2, .ref d3, .ref d4, .ref d5, .ref d6, .ref d7, .ref d8, .ref d9, .ref d10, .ref d11, .ref d12, .int 0])), (d7, .inr (8, [.ref e1])), (e1, .inl (ax 4, 6, .inr (.inl (fun _ => 0)))), (o0, .inl (ax 4, 1, .inr (.inl (fun _ => 0))))] s.heap.size = A at hD hN ⊢
  have hA : ∀ q : Nat, s.heap.size ≤ q → A q := fun q h => by rw [← hAe]; exact Or.inr h
  have hS : va_S A s.heap s.heap [] := va_S.rf
  have hl0 := lv_entry ([.ref d0, .int 4, .ref o0]) (n := 4) (Nat.le_of_ble_eq_true rfl)
  rw [lg_entry_eq]
  generalize (lg_sl ([.ref d0, .int 4, .ref o0]) ++ List.replicate (4 - (lg_sl ([.ref d0, .int 4, .ref o0])).length) Slot.unset).toArray = ls at hl0 ⊢
  have hl1 : lv_has ls 4 [(0, .ref d0), (1, .int 4), (2, .ref o0)] := hl0
  refine lv_aload_n hx hb d_law_value_0 rfl (lv_at hl1 2 rfl) ?_
  refine lv_iconst (v := 0) hx hb d_law_value_1 (by decide) ?_
  refine lv_aload_n hx hb d_law_value_2 rfl (lv_at hl1 0 rfl) ?_
  refine lv_iload_n hx hb d_law_value_3 rfl (lv_at hl1 1 rfl) ?_
  have hPc := hP.sub (ws' := [(d0, .inr (10, [.ref d1, .ref d2, .ref d3, .ref d4, .ref d5, .ref d6, .ref d7, .ref d8, .ref d9, .ref d10, .ref d11, .ref d12, .int 0])), (d7, .inr (8, [.ref e1])), (e1, .inl (ax 4, 6, .inr (.inl (fun _ => 0))))]) [0, 1, 2] rfl
  have hDc := hD.sub (ws' := [(d0, .inr (10, [.ref d1, .ref d2, .ref d3, .ref d4, .ref d5, .ref d6, .ref d7, .ref d8, .ref d9, .ref d10, .ref d11, .ref d12, .int 0])), (d7, .inr (8, [.ref e1])), (e1, .inl (ax 4, 6, .inr (.inl (fun _ => 0))))]) [0, 1, 2] (by decide) rfl
  have hFc := va_free (wc := [(d0, .inr (10, [.ref d1, .ref d2, .ref d3, .ref d4, .ref d5, .ref d6, .ref d7, .ref d8, .ref d9, .ref d10, .ref d11, .ref d12, .int 0])), (d7, .inr (8, [.ref e1])), (e1, .inl (ax 4, 6, .inr (.inl (fun _ => 0))))]) hD hS hA [0, 1, 2] rfl
  have hz := xz_of hN hS
  refine va_calll (va_runV (As := [.int 4]) (rest := [.int 0, .ref o0]) ⟨hx, hb, hml, hown, hts⟩ (c_Desk_value_4 l D ax d0 d1 d2 d3 d4 d5 d6 d7 d8 d9 d10 d11 d12 e1 s.heap.size) (xcV (n := 1) hts wd_1015 wd_1 wd_1012 wd_1013 wd_1014 rfl rfl (by decide +kernel) ⟨Nat.le_of_ble_eq_true rfl, Nat.le_of_ble_eq_true rfl⟩) (xpV (ci := 10) (q0 := 0) (As := [.int 4]) hPc hK hz hDc rfl rfl) rfl rfl hl1.1 rfl (lv_room (Nat.le_of_ble_eq_true rfl)) d_law_value_4 ⟨Nat.le_of_ble_eq_true rfl, Nat.le_of_ble_eq_true rfl⟩) hS (fun q _ h => hFc q h) hFc (fun r_3 u_1 t H_2 locs ht hvm hw hB hz1 hk1 hS => ?_)
  try dsimp only at hw
  subst hw
  obtain ⟨hP, hD⟩ := va_join (wr := [(o0, .inl (ax 4, 1, .inr (.inl (fun _ => 0))))]) (w1 := []) hP hD [0, 1, 2] [3] rfl rfl (by decide) (by decide) hk1 hFc x_nilP x_nilD
  have hP : va_P D classes [(o0, .inl (ax 4, 1, .inr (.inl (fun _ => 0))))] H_2 := hP
  have hD : va_D A [(o0, .inl (ax 4, 1, .inr (.inl (fun _ => 0))))] := hD
  refine va_last hx hb hK.1 hP hD hS 0 4 rfl rfl (by unfold vp_in; decide) d_law_value_7 (fun H_4 locs hP hD hS => ?_)
  have hP : va_P D classes [(o0, .inl (ax 4, 1, .inr (.inl (vp_updL (fun _ => 0) 0 0))))] H_4 := hP
  have hD : va_D A [(o0, .inl (ax 4, 1, .inr (.inl (vp_updL (fun _ => 0) 0 0))))] := hD
  refine lv_goto (tgt := 14) hx hb d_law_value_8 (by decide) ?_
  refine lv_iconst (v := 0) hx hb d_law_value_14 (by decide) ?_
  refine xt_weak (fun t h => xt_ofMQ h) ?_
  have hP9 := hP.sub (ws' := (fun u : Nat → Nat => [(o0, .inl (ax 4, 1, .inr (.inl (vp_updL (fun _ => 0) 0 0))))]) (ixn [])) [0] rfl
  have hD9 := hD.sub (ws' := (fun u : Nat → Nat => [(o0, .inl (ax 4, 1, .inr (.inl (vp_updL (fun _ => 0) 0 0))))]) (ixn [])) [0] (by decide) rfl
  exact W.iret (v := 0) hx hb hr (fun t ht hW => ⟨⟨0, ixn [], rfl, rfl, ⟨by rw [ht]; exact hP9, hD9⟩⟩, hS.F ht⟩) hS.2.2 d_law_value_15
set_option maxHeartbeats 4000000 in
set_option maxRecDepth 100000 in
theorem c_law_start_5 (l : Launch) (hl : l.stackTraces = false) (D : va_G) (ax : Nat → ClassId) (d0 d1 d2 d3 d4 d5 d6 d7 d8 d9 d10 d11 d12 : Nat) (e1 : Nat) (x2 : Int32) (sz : Nat) : xt_Met l y_law_start (xws (.codeWith y_law_start b_law_start 4 (some .int) [(0, 6, 9, 19)])) ({ frames := 130, cells := 0, slots := 0, locals := 5200 }) (va_Pc [.ref d0, .int 5, .int x2] (xo D ax [(d0, .inr (10, [.ref d1, .ref d2, .ref d3, .ref d4, .ref d5, .ref d6, .ref d7, .ref d8, .ref d9, .ref d10, .ref d11, .ref d12, .int 0])), (d7, .inr (8, [.ref e1])), (e1, .inl (ax 4, 6, .inr (.inl (fun _ => 0))))] sz)) ((va_Qi (fun (r : Int32) (u : Nat → Nat) => r = 0) (fun (_ : Nat → Nat) (_ : State) => True) (va_A [(d0, .inr (10, [.ref d1, .ref d2, .ref d3, .ref d4, .ref d5, .ref d6, .ref d7, .ref d8, .ref d9, .ref d10, .ref d11, .ref d12, .int 0])), (d7, .inr (8, [.ref e1])), (e1, .inl (ax 4, 6, .inr (.inl (fun _ => 0))))] sz))) 0 0 (va_A [(d0, .inr (10, [.ref d1, .ref d2, .ref d3, .ref d4, .ref d5, .ref d6, .ref d7, .ref d8, .ref d9, .ref d10, .ref d11, .ref d12, .int 0])), (d7, .inr (8, [.ref e1])), (e1, .inl (ax 4, 6, .inr (.inl (fun _ => 0))))] sz) := by
  refine xt_Met.ofWith (cc := b_law_start) (maxL := 4) (ret := (some .int)) (hs := [(0, 6, 9, 19)]) (by decide) rfl ?_
  intro p e s m args below meth c s₁ B hml htab hv
  obtain ⟨rfl, hsz, hP, hK, hD0⟩ := hv
  have hx := B.exec
  have hb := B.bytes
  have hr := B.returns
  have hts := xw_hts B.pre
  have hown : s.vm.findClass R_law = some m.cls := findClass_of_methodNamed B.named
  have hlocks := B.notSynchronized
  subst hsz
  have hD := hD0.self (sz := s.heap.size)
  have hN := xz_entry hP
  generalize hAe : va_A [(d0, .inr (10, [.ref d1, .ref d2, .ref d3, .ref d4, .ref d5, .ref d6, .ref d7, .ref d8, .ref d9, .ref d10, .ref d11, .ref d12, .int 0])), (d7, .inr (8, [.ref e1])), (e1, .inl (ax 4, 6, .inr (.inl (fun _ => 0))))] s.heap.size = A at hD hN ⊢
  have hA : ∀ q : Nat, s.heap.size ≤ q → A q := fun q h => by rw [← hAe]; exact Or.inr h
  have hS : va_S A s.heap s.heap [] := va_S.rf
  have hl0 := lv_entry ([.ref d0, .int 5, .int x2]) (n := 4) (Nat.le_of_ble_eq_true rfl)
  rw [lg_entry_eq]
  generalize (lg_sl ([.ref d0, .int 5, .int x2]) ++ List.replicate (4 - (lg_sl ([.ref d0, .int 5, .int x2])).length) Slot.unset).toArray = ls at hl0 ⊢
  have hl1 : lv_has ls 4 [(0, .ref d0), (1, .int 5), (2, .int x2)] := hl0
  refine lv_aload_n hx hb d_law_start_0 rfl (lv_at hl1 0 rfl) ?_
  refine lv_iload_n hx hb d_law_start_1 rfl (lv_at hl1 1 rfl) ?_
  refine lv_iload_n hx hb d_law_start_2 rfl (lv_at hl1 2 rfl) ?_
  have hPc := hP.sub (ws' := [(d0, .inr (10, [.ref d1, .ref d2, .ref d3, .ref d4, .ref d5, .ref d6, .ref d7, .ref d8, .ref d9, .ref d10, .ref d11, .ref d12, .int 0])), (d7, .inr (8, [.ref e1])), (e1, .inl (ax 4, 6, .inr (.inl (fun _ => 0))))]) [0, 1, 2] rfl
  have hDc := hD.sub (ws' := [(d0, .inr (10, [.ref d1, .ref d2, .ref d3, .ref d4, .ref d5, .ref d6, .ref d7, .ref d8, .ref d9, .ref d10, .ref d11, .ref d12, .int 0])), (d7, .inr (8, [.ref e1])), (e1, .inl (ax 4, 6, .inr (.inl (fun _ => 0))))]) [0, 1, 2] (by decide) rfl
  have hFc := va_free (wc := [(d0, .inr (10, [.ref d1, .ref d2, .ref d3, .ref d4, .ref d5, .ref d6, .ref d7, .ref d8, .ref d9, .ref d10, .ref d11, .ref d12, .int 0])), (d7, .inr (8, [.ref e1])), (e1, .inl (ax 4, 6, .inr (.inl (fun _ => 0))))]) hD hS hA [0, 1, 2] rfl
  have hz := xz_of hN hS
  refine va_callv (va_runV (As := [.int 5, .int x2]) (rest := []) ⟨hx, hb, hml, hown, hts⟩ (c_Desk_start_5 l D ax d0 d1 d2 d3 d4 d5 d6 d7 d8 d9 d10 d11 d12 e1 x2 s.heap.size) (xcV (n := 2) hts wd_961 wd_1 wd_958 wd_959 wd_960 rfl rfl (by decide +kernel) ⟨Nat.le_of_ble_eq_true rfl, Nat.le_of_ble_eq_true rfl⟩) (xpV (ci := 10) (q0 := 0) (As := [.int 5, .int x2]) hPc hK hz hDc rfl rfl) rfl rfl hl1.1 rfl (lv_room (Nat.le_of_ble_eq_true rfl)) d_law_start_3 ⟨Nat.le_of_ble_eq_true rfl, Nat.le_of_ble_eq_true rfl⟩) hS (fun q _ h => hFc q h) hFc (fun u_1 t H_2 locs ht hvm hw hB hz1 hk1 hS => ?_)
  try dsimp only at hw
  obtain ⟨hP, hD⟩ := va_join (wr := []) (w1 := []) hP hD [0, 1, 2] [] rfl rfl (by decide) (by decide) hk1 hFc x_nilP x_nilD
  have hP : va_P D classes [] H_2 := hP
  have hD : va_D A [] := hD
  refine lv_goto (tgt := 12) hx hb d_law_start_6 (by decide) ?_
  refine lv_iconst (v := 0) hx hb d_law_start_12 (by decide) ?_
  refine xt_weak (fun t h => xt_ofMQ h) ?_
  exact W.iret (v := 0) hx hb hr (fun t ht hW => ⟨⟨0, fun _ => 0, rfl, rfl, trivial⟩, hS.F ht⟩) hS.2.2 d_law_start_13
set_option maxHeartbeats 4000000 in
set_option maxRecDepth 100000 in
theorem c_law_value_5 (l : Launch) (hl : l.stackTraces = false) (D : va_G) (ax : Nat → ClassId) (d0 d1 d2 d3 d4 d5 d6 d7 d8 d9 d10 d11 d12 : Nat) (o0 e1 : Nat) (sz : Nat) : xt_Met l y_law_value (xws (.codeWith y_law_value b_law_value 4 (some .int) [(0, 8, 11, 19)])) ({ frames := 130, cells := 0, slots := 0, locals := 5200 }) (va_Pc [.ref d0, .int 5, .ref o0] (xo D ax [(d0, .inr (10, [.ref d1, .ref d2, .ref d3, .ref d4, .ref d5, .ref d6, .ref d7, .ref d8, .ref d9, .ref d10, .ref d11, .ref d12, .int 0])), (d7, .inr (8, [.ref e1])), (e1, .inl (ax 4, 6, .inr (.inl (fun _ => 0)))), (o0, .inl (ax 4, 1, .inr (.inl (fun _ => 0))))] sz)) ((va_Qi (fun (r : Int32) (u : Nat → Nat) => r = 0) (xb D (va_A [(d0, .inr (10, [.ref d1, .ref d2, .ref d3, .ref d4, .ref d5, .ref d6, .ref d7, .ref d8, .ref d9, .ref d10, .ref d11, .ref d12, .int 0])), (d7, .inr (8, [.ref e1])), (e1, .inl (ax 4, 6, .inr (.inl (fun _ => 0)))), (o0, .inl (ax 4, 1, .inr (.inl (fun _ => 0))))] sz) (fun u => [(o0, .inl (ax 4, 1, .inr (.inl (vp_updL (fun _ => 0) 0 0))))])) (va_A [(d0, .inr (10, [.ref d1, .ref d2, .ref d3, .ref d4, .ref d5, .ref d6, .ref d7, .ref d8, .ref d9, .ref d10, .ref d11, .ref d12, .int 0])), (d7, .inr (8, [.ref e1])), (e1, .inl (ax 4, 6, .inr (.inl (fun _ => 0)))), (o0, .inl (ax 4, 1, .inr (.inl (fun _ => 0))))] sz))) 0 0 (va_A [(d0, .inr (10, [.ref d1, .ref d2, .ref d3, .ref d4, .ref d5, .ref d6, .ref d7, .ref d8, .ref d9, .ref d10, .ref d11, .ref d12, .int 0])), (d7, .inr (8, [.ref e1])), (e1, .inl (ax 4, 6, .inr (.inl (fun _ => 0)))), (o0, .inl (ax 4, 1, .inr (.inl (fun _ => 0))))] sz) := by
  refine xt_Met.ofWith (cc := b_law_value) (maxL := 4) (ret := (some .int)) (hs := [(0, 8, 11, 19)]) (by decide) rfl ?_
  intro p e s m args below meth c s₁ B hml htab hv
  obtain ⟨rfl, hsz, hP, hK, hD0⟩ := hv
  have hx := B.exec
  have hb := B.bytes
  have hr := B.returns
  have hts := xw_hts B.pre
  have hown : s.vm.findClass R_law = some m.cls := findClass_of_methodNamed B.named
  have hlocks := B.notSynchronized
  subst hsz
  have hD := hD0.self (sz := s.heap.size)
  have hN := xz_entry hP
  generalize hAe : va_A [(d0, .inr (10, [.ref d1, .ref d2, .ref d3, .ref d4, .ref d5, .ref d6, .ref d7, .ref d8, .ref d9, .ref d10, .ref d11, .ref d12, .int 0])), (d7, .inr (8, [.ref e1])), (e1, .inl (ax 4, 6, .inr (.inl (fun _ => 0)))), (o0, .inl (ax 4, 1, .inr (.inl (fun _ => 0))))] s.heap.size = A at hD hN ⊢
  have hA : ∀ q : Nat, s.heap.size ≤ q → A q := fun q h => by rw [← hAe]; exact Or.inr h
  have hS : va_S A s.heap s.heap [] := va_S.rf
  have hl0 := lv_entry ([.ref d0, .int 5, .ref o0]) (n := 4) (Nat.le_of_ble_eq_true rfl)
  rw [lg_entry_eq]
  generalize (lg_sl ([.ref d0, .int 5, .ref o0]) ++ List.replicate (4 - (lg_sl ([.ref d0, .int 5, .ref o0])).length) Slot.unset).toArray = ls at hl0 ⊢
  have hl1 : lv_has ls 4 [(0, .ref d0), (1, .int 5), (2, .ref o0)] := hl0
  refine lv_aload_n hx hb d_law_value_0 rfl (lv_at hl1 2 rfl) ?_
  refine lv_iconst (v := 0) hx hb d_law_value_1 (by decide) ?_
  refine lv_aload_n hx hb d_law_value_2 rfl (lv_at hl1 0 rfl) ?_
  refine lv_iload_n hx hb d_law_value_3 rfl (lv_at hl1 1 rfl) ?_
  have hPc := hP.sub (ws' := [(d0, .inr (10, [.ref d1, .ref d2, .ref d3, .ref d4, .ref d5, .ref d6, .ref d7, .ref d8, .ref d9, .ref d10, .ref d11, .ref d12, .int 0])), (d7, .inr (8, [.ref e1])), (e1, .inl (ax 4, 6, .inr (.inl (fun _ => 0))))]) [0, 1, 2] rfl
  have hDc := hD.sub (ws' := [(d0, .inr (10, [.ref d1, .ref d2, .ref d3, .ref d4, .ref d5, .ref d6, .ref d7, .ref d8, .ref d9, .ref d10, .ref d11, .ref d12, .int 0])), (d7, .inr (8, [.ref e1])), (e1, .inl (ax 4, 6, .inr (.inl (fun _ => 0))))]) [0, 1, 2] (by decide) rfl
  have hFc := va_free (wc := [(d0, .inr (10, [.ref d1, .ref d2, .ref d3, .ref d4, .ref d5, .ref d6, .ref d7, .ref d8, .ref d9, .ref d10, .ref d11, .ref d12, .int 0])), (d7, .inr (8, [.ref e1])), (e1, .inl (ax 4, 6, .inr (.inl (fun _ => 0))))]) hD hS hA [0, 1, 2] rfl
  have hz := xz_of hN hS
  refine va_calll (va_runV (As := [.int 5]) (rest := [.int 0, .ref o0]) ⟨hx, hb, hml, hown, hts⟩ (c_Desk_value_5 l D ax d0 d1 d2 d3 d4 d5 d6 d7 d8 d9 d10 d11 d12 e1 s.heap.size) (xcV (n := 1) hts wd_1015 wd_1 wd_1012 wd_1013 wd_1014 rfl rfl (by decide +kernel) ⟨Nat.le_of_ble_eq_true rfl, Nat.le_of_ble_eq_true rfl⟩) (xpV (ci := 10) (q0 := 0) (As := [.int 5]) hPc hK hz hDc rfl rfl) rfl rfl hl1.1 rfl (lv_room (Nat.le_of_ble_eq_true rfl)) d_law_value_4 ⟨Nat.le_of_ble_eq_true rfl, Nat.le_of_ble_eq_true rfl⟩) hS (fun q _ h => hFc q h) hFc (fun r_3 u_1 t H_2 locs ht hvm hw hB hz1 hk1 hS => ?_)
  try dsimp only at hw
  subst hw
  obtain ⟨hP, hD⟩ := va_join (wr := [(o0, .inl (ax 4, 1, .inr (.inl (fun _ => 0))))]) (w1 := []) hP hD [0, 1, 2] [3] rfl rfl (by decide) (by decide) hk1 hFc x_nilP x_nilD
  have hP : va_P D classes [(o0, .inl (ax 4, 1, .inr (.inl (fun _ => 0))))] H_2 := hP
  have hD : va_D A [(o0, .inl (ax 4, 1, .inr (.inl (fun _ => 0))))] := hD
  refine va_last hx hb hK.1 hP hD hS 0 4 rfl rfl (by unfold vp_in; decide) d_law_value_7 (fun H_4 locs hP hD hS => ?_)
  have hP : va_P D classes [(o0, .inl (ax 4, 1, .inr (.inl (vp_updL (fun _ => 0) 0 0))))] H_4 := hP
  have hD : va_D A [(o0, .inl (ax 4, 1, .inr (.inl (vp_updL (fun _ => 0) 0 0))))] := hD
  refine lv_goto (tgt := 14) hx hb d_law_value_8 (by decide) ?_
  refine lv_iconst (v := 0) hx hb d_law_value_14 (by decide) ?_
  refine xt_weak (fun t h => xt_ofMQ h) ?_
  have hP9 := hP.sub (ws' := (fun u : Nat → Nat => [(o0, .inl (ax 4, 1, .inr (.inl (vp_updL (fun _ => 0) 0 0))))]) (ixn [])) [0] rfl
  have hD9 := hD.sub (ws' := (fun u : Nat → Nat => [(o0, .inl (ax 4, 1, .inr (.inl (vp_updL (fun _ => 0) 0 0))))]) (ixn [])) [0] (by decide) rfl
  exact W.iret (v := 0) hx hb hr (fun t ht hW => ⟨⟨0, ixn [], rfl, rfl, ⟨by rw [ht]; exact hP9, hD9⟩⟩, hS.F ht⟩) hS.2.2 d_law_value_15
set_option maxHeartbeats 4000000 in
set_option maxRecDepth 100000 in
theorem c_law_holds_0 (l : Launch) (hl : l.stackTraces = false) (D : va_G) (ax : Nat → ClassId) (d0 d1 d2 d3 d4 d5 d6 d7 d8 d9 d10 d11 d12 : Nat) (o0 e1 e2 e3 e4 : Nat) (sz : Nat) : xt_Met l y_law_holds (xws (.codeWith y_law_holds b_law_holds 4 (some .int) [(0, 16, 19, 19)])) ({ frames := 130, cells := 0, slots := 0, locals := 5200 }) (va_Pc [.ref d0, .int 0, .ref o0] (xo D ax [(d0, .inr (10, [.ref d1, .ref d2, .ref d3, .ref d4, .ref d5, .ref d6, .ref d7, .ref d8, .ref d9, .ref d10, .ref d11, .ref d12, .int 0])), (d7, .inr (8, [.ref e1])), (d8, .inr (4, [.ref e2, .ref e3, .ref e4, .int 1])), (e2, .inl (ax 1, 8, .inl (upd (fun _ => 0) 0 4))), (e3, .inl (ax 0, 8, .inl (upd (fun _ => 0) 0 10))), (e4, .inl (ax 0, 8, .inl (upd (fun _ => 0) 0 10))), (o0, .inl (ax 4, 1, .inr (.inl (fun _ => 0))))] sz)) ((va_Qi (fun (r : Int32) (u : Nat → Nat) => r = 0) (xb D (va_A [(d0, .inr (10, [.ref d1, .ref d2, .ref d3, .ref d4, .ref d5, .ref d6, .ref d7, .ref d8, .ref d9, .ref d10, .ref d11, .ref d12, .int 0])), (d7, .inr (8, [.ref e1])), (d8, .inr (4, [.ref e2, .ref e3, .ref e4, .int 1])), (e2, .inl (ax 1, 8, .inl (upd (fun _ => 0) 0 4))), (e3, .inl (ax 0, 8, .inl (upd (fun _ => 0) 0 10))), (e4, .inl (ax 0, 8, .inl (upd (fun _ => 0) 0 10))), (o0, .inl (ax 4, 1, .inr (.inl (fun _ => 0))))] sz) (fun u => [(o0, .inl (ax 4, 1, .inr (.inl (vp_updL (fun _ => 0) 0 1))))])) (va_A [(d0, .inr (10, [.ref d1, .ref d2, .ref d3, .ref d4, .ref d5, .ref d6, .ref d7, .ref d8, .ref d9, .ref d10, .ref d11, .ref d12, .int 0])), (d7, .inr (8, [.ref e1])), (d8, .inr (4, [.ref e2, .ref e3, .ref e4, .int 1])), (e2, .inl (ax 1, 8, .inl (upd (fun _ => 0) 0 4))), (e3, .inl (ax 0, 8, .inl (upd (fun _ => 0) 0 10))), (e4, .inl (ax 0, 8, .inl (upd (fun _ => 0) 0 10))), (o0, .inl (ax 4, 1, .inr (.inl (fun _ => 0))))] sz))) 0 0 (va_A [(d0, .inr (10, [.ref d1, .ref d2, .ref d3, .ref d4, .ref d5, .ref d6, .ref d7, .ref d8, .ref d9, .ref d10, .ref d11, .ref d12, .int 0])), (d7, .inr (8, [.ref e1])), (d8, .inr (4, [.ref e2, .ref e3, .ref e4, .int 1])), (e2, .inl (ax 1, 8, .inl (upd (fun _ => 0) 0 4))), (e3, .inl (ax 0, 8, .inl (upd (fun _ => 0) 0 10))), (e4, .inl (ax 0, 8, .inl (upd (fun _ => 0) 0 10))), (o0, .inl (ax 4, 1, .inr (.inl (fun _ => 0))))] sz) := by
  refine xt_Met.ofWith (cc := b_law_holds) (maxL := 4) (ret := (some .int)) (hs := [(0, 16, 19, 19)]) (by decide) rfl ?_
  intro p e s m args below meth c s₁ B hml htab hv
  obtain ⟨rfl, hsz, hP, hK, hD0⟩ := hv
  have hx := B.exec
  have hb := B.bytes
  have hr := B.returns
  have hts := xw_hts B.pre
  have hown : s.vm.findClass R_law = some m.cls := findClass_of_methodNamed B.named
  have hlocks := B.notSynchronized
  subst hsz
  have hD := hD0.self (sz := s.heap.size)
  have hN := xz_entry hP
  generalize hAe : va_A [(d0, .inr (10, [.ref d1, .ref d2, .ref d3, .ref d4, .ref d5, .ref d6, .ref d7, .ref d8, .ref d9, .ref d10, .ref d11, .ref d12, .int 0])), (d7, .inr (8, [.ref e1])), (d8, .inr (4, [.ref e2, .ref e3, .ref e4, .int 1])), (e2, .inl (ax 1, 8, .inl (upd (fun _ => 0) 0 4))), (e3, .inl (ax 0, 8, .inl (upd (fun _ => 0) 0 10))), (e4, .inl (ax 0, 8, .inl (upd (fun _ => 0) 0 10))), (o0, .inl (ax 4, 1, .inr (.inl (fun _ => 0))))] s.heap.size = A at hD hN ⊢
  have hA : ∀ q : Nat, s.heap.size ≤ q → A q := fun q h => by rw [← hAe]; exact Or.inr h
  have hS : va_S A s.heap s.heap [] := va_S.rf
  have hl0 := lv_entry ([.ref d0, .int 0, .ref o0]) (n := 4) (Nat.le_of_ble_eq_true rfl)
  rw [lg_entry_eq]
  generalize (lg_sl ([.ref d0, .int 0, .ref o0]) ++ List.replicate (4 - (lg_sl ([.ref d0, .int 0, .ref o0])).length) Slot.unset).toArray = ls at hl0 ⊢
  have hl1 : lv_has ls 4 [(0, .ref d0), (1, .int 0), (2, .ref o0)] := hl0
  refine lv_aload_n hx hb d_law_holds_0 rfl (lv_at hl1 2 rfl) ?_
  refine lv_iconst (v := 0) hx hb d_law_holds_1 (by decide) ?_
  refine lv_aload_n hx hb d_law_holds_2 rfl (lv_at hl1 0 rfl) ?_
  refine lv_iload_n hx hb d_law_holds_3 rfl (lv_at hl1 1 rfl) ?_
  have hPc := hP.sub (ws' := [(d0, .inr (10, [.ref d1, .ref d2, .ref d3, .ref d4, .ref d5, .ref d6, .ref d7, .ref d8, .ref d9, .ref d10, .ref d11, .ref d12, .int 0])), (d7, .inr (8, [.ref e1])), (d8, .inr (4, [.ref e2, .ref e3, .ref e4, .int 1])), (e2, .inl (ax 1, 8, .inl (upd (fun _ => 0) 0 4))), (e3, .inl (ax 0, 8, .inl (upd (fun _ => 0) 0 10))), (e4, .inl (ax 0, 8, .inl (upd (fun _ => 0) 0 10)))]) [0, 1, 2, 3, 4, 5] rfl
  have hDc := hD.sub (ws' := [(d0, .inr (10, [.ref d1, .ref d2, .ref d3, .ref d4, .ref d5, .ref d6, .ref d7, .ref d8, .ref d9, .ref d10, .ref d11, .ref d12, .int 0])), (d7, .inr (8, [.ref e1])), (d8, .inr (4, [.ref e2, .ref e3, .ref e4, .int 1])), (e2, .inl (ax 1, 8, .inl (upd (fun _ => 0) 0 4))), (e3, .inl (ax 0, 8, .inl (upd (fun _ => 0) 0 10))), (e4, .inl (ax 0, 8, .inl (upd (fun _ => 0) 0 10)))]) [0, 1, 2, 3, 4, 5] (by decide) rfl
  have hFc := va_free (wc := [(d0, .inr (10, [.ref d1, .ref d2, .ref d3, .ref d4, .ref d5, .ref d6, .ref d7, .ref d8, .ref d9, .ref d10, .ref d11, .ref d12, .int 0])), (d7, .inr (8, [.ref e1])), (d8, .inr (4, [.ref e2, .ref e3, .ref e4, .int 1])), (e2, .inl (ax 1, 8, .inl (upd (fun _ => 0) 0 4))), (e3, .inl (ax 0, 8, .inl (upd (fun _ => 0) 0 10))), (e4, .inl (ax 0, 8, .inl (upd (fun _ => 0) 0 10)))]) hD hS hA [0, 1, 2, 3, 4, 5] rfl
  have hz := xz_of hN hS
  refine va_calli (va_runV (As := [.int 0]) (rest := [.int 0, .ref o0]) ⟨hx, hb, hml, hown, hts⟩ (c_Desk_holds_0 l D ax d0 d1 d2 d3 d4 d5 d6 d7 d8 d9 d10 d11 d12 e1 e2 e3 e4 s.heap.size) (xcV (n := 1) hts wd_1022 wd_1 wd_1019 wd_1020 wd_1021 rfl rfl (by decide +kernel) ⟨Nat.le_of_ble_eq_true rfl, Nat.le_of_ble_eq_true rfl⟩) (xpV (ci := 10) (q0 := 0) (As := [.int 0]) hPc hK hz hDc rfl rfl) rfl rfl hl1.1 rfl (lv_room (Nat.le_of_ble_eq_true rfl)) d_law_holds_4 ⟨Nat.le_of_ble_eq_true rfl, Nat.le_of_ble_eq_true rfl⟩) hS (fun q _ h => hFc q h) hFc (fun r_3 u_1 t H_2 locs ht hvm hw hB hz1 hk1 hS => ?_)
  try dsimp only at hw
  subst hw
  obtain ⟨hP, hD⟩ := va_join (wr := [(o0, .inl (ax 4, 1, .inr (.inl (fun _ => 0))))]) (w1 := []) hP hD [0, 1, 2, 3, 4, 5] [6] rfl rfl (by decide) (by decide) hk1 hFc x_nilP x_nilD
  have hP : va_P D classes [(o0, .inl (ax 4, 1, .inr (.inl (fun _ => 0))))] H_2 := hP
  have hD : va_D A [(o0, .inl (ax 4, 1, .inr (.inl (fun _ => 0))))] := hD
  refine lv_if_eq (tgt := 14) hx hb d_law_holds_7 (by decide) (fun c_4 => ?_) (fun c_4 => ?_)
  · first | exact absurd c_4 (by decide) | exact absurd (by decide) c_4
  refine lv_lconst (v := 1) hx hb d_law_holds_10 (by decide) ?_
  refine lv_goto (tgt := 15) hx hb d_law_holds_11 (by decide) ?_
  refine va_last hx hb hK.1 hP hD hS 0 4 rfl rfl (by unfold vp_in; decide) d_law_holds_15 (fun H_5 locs hP hD hS => ?_)
  have hP : va_P D classes [(o0, .inl (ax 4, 1, .inr (.inl (vp_updL (fun _ => 0) 0 1))))] H_5 := hP
  have hD : va_D A [(o0, .inl (ax 4, 1, .inr (.inl (vp_updL (fun _ => 0) 0 1))))] := hD
  refine lv_goto (tgt := 22) hx hb d_law_holds_16 (by decide) ?_
  refine lv_iconst (v := 0) hx hb d_law_holds_22 (by decide) ?_
  refine xt_weak (fun t h => xt_ofMQ h) ?_
  have hP9 := hP.sub (ws' := (fun u : Nat → Nat => [(o0, .inl (ax 4, 1, .inr (.inl (vp_updL (fun _ => 0) 0 1))))]) (ixn [])) [0] rfl
  have hD9 := hD.sub (ws' := (fun u : Nat → Nat => [(o0, .inl (ax 4, 1, .inr (.inl (vp_updL (fun _ => 0) 0 1))))]) (ixn [])) [0] (by decide) rfl
  exact W.iret (v := 0) hx hb hr (fun t ht hW => ⟨⟨0, ixn [], rfl, rfl, ⟨by rw [ht]; exact hP9, hD9⟩⟩, hS.F ht⟩) hS.2.2 d_law_holds_23
set_option maxHeartbeats 4000000 in
set_option maxRecDepth 100000 in
theorem c_law_holds_1 (l : Launch) (hl : l.stackTraces = false) (D : va_G) (ax : Nat → ClassId) (d0 d1 d2 d3 d4 d5 d6 d7 d8 d9 d10 d11 d12 : Nat) (o0 e1 e2 e3 e4 : Nat) (sz : Nat) : xt_Met l y_law_holds (xws (.codeWith y_law_holds b_law_holds 4 (some .int) [(0, 16, 19, 19)])) ({ frames := 130, cells := 0, slots := 0, locals := 5200 }) (va_Pc [.ref d0, .int 1, .ref o0] (xo D ax [(d0, .inr (10, [.ref d1, .ref d2, .ref d3, .ref d4, .ref d5, .ref d6, .ref d7, .ref d8, .ref d9, .ref d10, .ref d11, .ref d12, .int 0])), (d7, .inr (8, [.ref e1])), (d9, .inr (4, [.ref e2, .ref e3, .ref e4, .int 1])), (e2, .inl (ax 1, 8, .inl (upd (fun _ => 0) 0 4))), (e3, .inl (ax 0, 8, .inl (upd (fun _ => 0) 0 10))), (e4, .inl (ax 0, 8, .inl (upd (fun _ => 0) 0 10))), (o0, .inl (ax 4, 1, .inr (.inl (fun _ => 0))))] sz)) ((va_Qi (fun (r : Int32) (u : Nat → Nat) => r = 0) (xb D (va_A [(d0, .inr (10, [.ref d1, .ref d2, .ref d3, .ref d4, .ref d5, .ref d6, .ref d7, .ref d8, .ref d9, .ref d10, .ref d11, .ref d12, .int 0])), (d7, .inr (8, [.ref e1])), (d9, .inr (4, [.ref e2, .ref e3, .ref e4, .int 1])), (e2, .inl (ax 1, 8, .inl (upd (fun _ => 0) 0 4))), (e3, .inl (ax 0, 8, .inl (upd (fun _ => 0) 0 10))), (e4, .inl (ax 0, 8, .inl (upd (fun _ => 0) 0 10))), (o0, .inl (ax 4, 1, .inr (.inl (fun _ => 0))))] sz) (fun u => [(o0, .inl (ax 4, 1, .inr (.inl (vp_updL (fun _ => 0) 0 1))))])) (va_A [(d0, .inr (10, [.ref d1, .ref d2, .ref d3, .ref d4, .ref d5, .ref d6, .ref d7, .ref d8, .ref d9, .ref d10, .ref d11, .ref d12, .int 0])), (d7, .inr (8, [.ref e1])), (d9, .inr (4, [.ref e2, .ref e3, .ref e4, .int 1])), (e2, .inl (ax 1, 8, .inl (upd (fun _ => 0) 0 4))), (e3, .inl (ax 0, 8, .inl (upd (fun _ => 0) 0 10))), (e4, .inl (ax 0, 8, .inl (upd (fun _ => 0) 0 10))), (o0, .inl (ax 4, 1, .inr (.inl (fun _ => 0))))] sz))) 0 0 (va_A [(d0, .inr (10, [.ref d1, .ref d2, .ref d3, .ref d4, .ref d5, .ref d6, .ref d7, .ref d8, .ref d9, .ref d10, .ref d11, .ref d12, .int 0])), (d7, .inr (8, [.ref e1])), (d9, .inr (4, [.ref e2, .ref e3, .ref e4, .int 1])), (e2, .inl (ax 1, 8, .inl (upd (fun _ => 0) 0 4))), (e3, .inl (ax 0, 8, .inl (upd (fun _ => 0) 0 10))), (e4, .inl (ax 0, 8, .inl (upd (fun _ => 0) 0 10))), (o0, .inl (ax 4, 1, .inr (.inl (fun _ => 0))))] sz) := by
  refine xt_Met.ofWith (cc := b_law_holds) (maxL := 4) (ret := (some .int)) (hs := [(0, 16, 19, 19)]) (by decide) rfl ?_
  intro p e s m args below meth c s₁ B hml htab hv
  obtain ⟨rfl, hsz, hP, hK, hD0⟩ := hv
  have hx := B.exec
  have hb := B.bytes
  have hr := B.returns
  have hts := xw_hts B.pre
  have hown : s.vm.findClass R_law = some m.cls := findClass_of_methodNamed B.named
  have hlocks := B.notSynchronized
  subst hsz
  have hD := hD0.self (sz := s.heap.size)
  have hN := xz_entry hP
  generalize hAe : va_A [(d0, .inr (10, [.ref d1, .ref d2, .ref d3, .ref d4, .ref d5, .ref d6, .ref d7, .ref d8, .ref d9, .ref d10, .ref d11, .ref d12, .int 0])), (d7, .inr (8, [.ref e1])), (d9, .inr (4, [.ref e2, .ref e3, .ref e4, .int 1])), (e2, .inl (ax 1, 8, .inl (upd (fun _ => 0) 0 4))), (e3, .inl (ax 0, 8, .inl (upd (fun _ => 0) 0 10))), (e4, .inl (ax 0, 8, .inl (upd (fun _ => 0) 0 10))), (o0, .inl (ax 4, 1, .inr (.inl (fun _ => 0))))] s.heap.size = A at hD hN ⊢
  have hA : ∀ q : Nat, s.heap.size ≤ q → A q := fun q h => by rw [← hAe]; exact Or.inr h
  have hS : va_S A s.heap s.heap [] := va_S.rf
  have hl0 := lv_entry ([.ref d0, .int 1, .ref o0]) (n := 4) (Nat.le_of_ble_eq_true rfl)
  rw [lg_entry_eq]
  generalize (lg_sl ([.ref d0, .int 1, .ref o0]) ++ List.replicate (4 - (lg_sl ([.ref d0, .int 1, .ref o0])).length) Slot.unset).toArray = ls at hl0 ⊢
  have hl1 : lv_has ls 4 [(0, .ref d0), (1, .int 1), (2, .ref o0)] := hl0
  refine lv_aload_n hx hb d_law_holds_0 rfl (lv_at hl1 2 rfl) ?_
  refine lv_iconst (v := 0) hx hb d_law_holds_1 (by decide) ?_
  refine lv_aload_n hx hb d_law_holds_2 rfl (lv_at hl1 0 rfl) ?_
  refine lv_iload_n hx hb d_law_holds_3 rfl (lv_at hl1 1 rfl) ?_
  have hPc := hP.sub (ws' := [(d0, .inr (10, [.ref d1, .ref d2, .ref d3, .ref d4, .ref d5, .ref d6, .ref d7, .ref d8, .ref d9, .ref d10, .ref d11, .ref d12, .int 0])), (d7, .inr (8, [.ref e1])), (d9, .inr (4, [.ref e2, .ref e3, .ref e4, .int 1])), (e2, .inl (ax 1, 8, .inl (upd (fun _ => 0) 0 4))), (e3, .inl (ax 0, 8, .inl (upd (fun _ => 0) 0 10))), (e4, .inl (ax 0, 8, .inl (upd (fun _ => 0) 0 10)))]) [0, 1, 2, 3, 4, 5] rfl
  have hDc := hD.sub (ws' := [(d0, .inr (10, [.ref d1, .ref d2, .ref d3, .ref d4, .ref d5, .ref d6, .ref d7, .ref d8, .ref d9, .ref d10, .ref d11, .ref d12, .int 0])), (d7, .inr (8, [.ref e1])), (d9, .inr (4, [.ref e2, .ref e3, .ref e4, .int 1])), (e2, .inl (ax 1, 8, .inl (upd (fun _ => 0) 0 4))), (e3, .inl (ax 0, 8, .inl (upd (fun _ => 0) 0 10))), (e4, .inl (ax 0, 8, .inl (upd (fun _ => 0) 0 10)))]) [0, 1, 2, 3, 4, 5] (by decide) rfl
  have hFc := va_free (wc := [(d0, .inr (10, [.ref d1, .ref d2, .ref d3, .ref d4, .ref d5, .ref d6, .ref d7, .ref d8, .ref d9, .ref d10, .ref d11, .ref d12, .int 0])), (d7, .inr (8, [.ref e1])), (d9, .inr (4, [.ref e2, .ref e3, .ref e4, .int 1])), (e2, .inl (ax 1, 8, .inl (upd (fun _ => 0) 0 4))), (e3, .inl (ax 0, 8, .inl (upd (fun _ => 0) 0 10))), (e4, .inl (ax 0, 8, .inl (upd (fun _ => 0) 0 10)))]) hD hS hA [0, 1, 2, 3, 4, 5] rfl
  have hz := xz_of hN hS
  refine va_calli (va_runV (As := [.int 1]) (rest := [.int 0, .ref o0]) ⟨hx, hb, hml, hown, hts⟩ (c_Desk_holds_1 l D ax d0 d1 d2 d3 d4 d5 d6 d7 d8 d9 d10 d11 d12 e1 e2 e3 e4 s.heap.size) (xcV (n := 1) hts wd_1022 wd_1 wd_1019 wd_1020 wd_1021 rfl rfl (by decide +kernel) ⟨Nat.le_of_ble_eq_true rfl, Nat.le_of_ble_eq_true rfl⟩) (xpV (ci := 10) (q0 := 0) (As := [.int 1]) hPc hK hz hDc rfl rfl) rfl rfl hl1.1 rfl (lv_room (Nat.le_of_ble_eq_true rfl)) d_law_holds_4 ⟨Nat.le_of_ble_eq_true rfl, Nat.le_of_ble_eq_true rfl⟩) hS (fun q _ h => hFc q h) hFc (fun r_3 u_1 t H_2 locs ht hvm hw hB hz1 hk1 hS => ?_)
  try dsimp only at hw
  subst hw
  obtain ⟨hP, hD⟩ := va_join (wr := [(o0, .inl (ax 4, 1, .inr (.inl (fun _ => 0))))]) (w1 := []) hP hD [0, 1, 2, 3, 4, 5] [6] rfl rfl (by decide) (by decide) hk1 hFc x_nilP x_nilD
  have hP : va_P D classes [(o0, .inl (ax 4, 1, .inr (.inl (fun _ => 0))))] H_2 := hP
  have hD : va_D A [(o0, .inl (ax 4, 1, .inr (.inl (fun _ => 0))))] := hD
  refine lv_if_eq (tgt := 14) hx hb d_law_holds_7 (by decide) (fun c_4 => ?_) (fun c_4 => ?_)
  · first | exact absurd c_4 (by decide) | exact absurd (by decide) c_4
  refine lv_lconst (v := 1) hx hb d_law_holds_10 (by decide) ?_
  refine lv_goto (tgt := 15) hx hb d_law_holds_11 (by decide) ?_
  refine va_last hx hb hK.1 hP hD hS 0 4 rfl rfl (by unfold vp_in; decide) d_law_holds_15 (fun H_5 locs hP hD hS => ?_)
  have hP : va_P D classes [(o0, .inl (ax 4, 1, .inr (.inl (vp_updL (fun _ => 0) 0 1))))] H_5 := hP
  have hD : va_D A [(o0, .inl (ax 4, 1, .inr (.inl (vp_updL (fun _ => 0) 0 1))))] := hD
  refine lv_goto (tgt := 22) hx hb d_law_holds_16 (by decide) ?_
  refine lv_iconst (v := 0) hx hb d_law_holds_22 (by decide) ?_
  refine xt_weak (fun t h => xt_ofMQ h) ?_
  have hP9 := hP.sub (ws' := (fun u : Nat → Nat => [(o0, .inl (ax 4, 1, .inr (.inl (vp_updL (fun _ => 0) 0 1))))]) (ixn [])) [0] rfl
  have hD9 := hD.sub (ws' := (fun u : Nat → Nat => [(o0, .inl (ax 4, 1, .inr (.inl (vp_updL (fun _ => 0) 0 1))))]) (ixn [])) [0] (by decide) rfl
  exact W.iret (v := 0) hx hb hr (fun t ht hW => ⟨⟨0, ixn [], rfl, rfl, ⟨by rw [ht]; exact hP9, hD9⟩⟩, hS.F ht⟩) hS.2.2 d_law_holds_23
