section XL
variable {p : Program} {l : Launch} {e : Env} {R : Room} {s : State} {m : MethodId} {args : Array Value} {below : List Frame} {meth : Method} {c : Code} {H : Heap} {T : State} {locs : List Loc} {cells slots : Nat} {Q Q' : State → Prop}
set_option maxHeartbeats 1000000 in
theorem xt_runS {y : MethodName} {bytes cc : ByteArray} {maxL nL mc ms n index : Nat} {ret : Option FieldType} {hs : List (Nat × Nat × Nat × Nat)} {rm : Room} {Pc : Array Value → State → Prop} {Qx : Array Value → State → Outcome → State → Prop} {free : Addr → Prop} {own : String} {As rest : List Value} {g : JFrame}
    (S : CallFix p m c cc nL s args lw_gd own) (hM : xt_Met l y (xws (.codeWith y bytes maxL ret hs)) rm Pc Qx mc ms free) (hc : Cond.codeWith y bytes maxL ret hs ∈ lw_gd) (hi : Cond.initialized y.cls ∈ lw_gd) (hl : Cond.methodLink own index y ∈ lw_gd) (hst : Cond.static y ∈ lw_gd) (hrc : rm.cells = mc) (hrs : rm.slots = ms)
    (hd : y.cls ≠ "java/lang/invoke/MethodHandle" ∧ y.cls ≠ "java/lang/invoke/VarHandle" ∧ (parseMethodDescriptor y.desc).map (fun d => d.parameters.length) = some n) (hR : rm.frames + 1 ≤ R.frames ∧ 8 + (maxL + 11) + rm.locals ≤ R.locals) (hp : PreS s H Pc As)
    (hg : g.method = m) (hn : As.length = n) (hsize : g.locals.size = nL) (hstack : g.stack = As.reverse ++ rest) (hW : 2 * g.monitorRoom + (rest.map fun v => v.category).sum ≤ 8) (hdg : decode cc g.pc = .ok (.invokestatic index, 3)) (hf : cells + mc ≤ R.cells ∧ slots + ms ≤ R.slots) :
    xt_Run p l e R s m args below meth c H locs cells slots mc ms g rest (Qx As.toArray) free := by
  obtain ⟨hx, hb, hml, ho, hts⟩ := S
  obtain ⟨hbl, hPc⟩ := hp
  intro T hT X
  obtain ⟨mk, methM, cM, hnamed, hmethM, hcodeM, hmaxL, hsig⟩ := xt_C.codeWith (hts _ hc)
  have hstatic : methM.isStatic = true := Cond.static_spec hnamed hmethM (hts _ hst)
  obtain ⟨kP, hkP, -⟩ := className_of_methodNamed hnamed
  have hinitP : kP.init = .initialized := Cond.initialized_spec (findClass_of_methodNamed hnamed) hkP (hts _ hi)
  have hlen : As.length = methM.sig.parameters.length := by
    have h2 := hd.2.2
    rw [hsig] at h2
    exact hn.trans (Option.some.inj h2).symm
  obtain ⟨vm₁, X₁, hstep₁⟩ := X.invokestatic hx ho (hts _ hl) hnamed hmethM hstatic hkP hinitP ⟨hd.1, hd.2.1⟩ (g := g) hg (argsL := As) (rest := rest) hlen hstack (by rw [hb]; exact hdg)
  have hnT : (T.setVm vm₁).methodNamed? y = some mk := X₁.named hnamed
  have hws := xw_mv hts hc
  obtain ⟨o, t, T', L, X', hL, e1, e2, hq, s1, s2⟩ := xt_call X₁ hM hrc hrs hR.1 hR.2 hws (fun a' U hW => word_at hW (Or.inl (by first | rfl | simp [Cond.onTables, Cond.keeps, Cond.steady])) (hts _ hi)) (xt_C.codeWith (a := #[]) (hws _ List.mem_cons_self #[] (T.setVm vm₁) X₁.warmed)) (g := { g with stack := rest }) hg (hsize.trans hml.symm) (by rw [hb]; exact hdg) hW hnT hf.1 hf.2 (a := As.toArray) (hbl _ _ _ _ (hPc (T.setVm vm₁) hT X₁.warmed))
  refine ⟨o, (T.setVm vm₁).calling { g with stack := rest } mk As.toArray, t, T', L, hT, X', hL, e1, e2, hq, fun v hv target h => hstep₁ _ fun acts => ?_, fun x hx tg h => hstep₁ _ fun acts => ?_⟩
  · rw [doInvoke_state]; exact (s1 v hv).trans h
  · rw [doInvoke_state]; exact (s2 x hx).trans h
theorem xt_toRun {mc ms : Nat} {g : JFrame} {rest : List Value} {Qa : State → Outcome → State → Prop} {free : Addr → Prop} (hr : xt_Run p l e R s m args below meth c H locs cells slots mc ms g rest Qa free) (hq : ∀ st o t, Qa st o t → ∃ v, o = .returned v) :
    va_Run p l e R s m args below meth c H locs cells slots mc ms g rest Qa free := by
  intro T hT X
  obtain ⟨o, st₀, t, T', L, h0, X', hL, e1, e2, q, s1, -⟩ := hr T hT X
  obtain ⟨v, rfl⟩ := hq _ _ _ q
  exact ⟨v, st₀, t, T', L, h0, X', hL, e1, e2, q, s1 v rfl⟩
theorem xt_Qi_ret {S : Type} {post : Int32 → S → Prop} {B : S → State → Prop} {A : Nat → Prop} {a : Array Value} : ∀ st o t, va_Qi post B A a st o t → ∃ v, o = Outcome.returned v := by
  rintro st o t ⟨⟨r, u, h, -⟩, -⟩
  exact ⟨_, h⟩
theorem xs_catch {A : Nat → Prop} {H0 H1 : Heap} {L : List Loc} (hS : va_S A H0 H locs) (h1 : H.size ≤ H1.size) (h2 : ∀ q : Nat, q < H.size → H1[q]? = H[q]?) (hL : ∀ q ∈ L, A q.base) : va_S A H0 H1 (locs ++ L) :=
  ⟨Nat.le_trans hS.1 h1, fun q hq hn => (h2 q (Nat.lt_of_lt_of_le hq hS.1)).trans (hS.2.1 q hq hn), fun q hq => (List.mem_append.mp hq).elim (hS.2.2 q) (hL q)⟩
end XL
def R_law : String := "TripleDeskLaw"
section XC
variable {p : Program} {l : Launch} {e : Env} {R : Room} {s : State} {m : MethodId} {args : Array Value} {below : List Frame} {meth : Method} {c : Code} {H : Heap} {T : State} {locs : List Loc} {cells slots : Nat} {Q Q' : State → Prop}
theorem xs_catchA {A Ac : Nat → Prop} {H0 H1 : Heap} {L : List Loc} (hS : va_S A H0 H locs) (h1 : H.size ≤ H1.size) (h2 : ∀ q : Nat, q < H.size → ¬ Ac q → H1[q]? = H[q]?) (hF : ∀ q, Ac q → A q) (hL : ∀ q ∈ L, A q.base) : va_S A H0 H1 (locs ++ L) :=
  ⟨Nat.le_trans hS.1 h1, fun q hq hn => (h2 q (Nat.lt_of_lt_of_le hq hS.1) (fun h => hn (hF q h))).trans (hS.2.1 q hq hn), fun q hq => (List.mem_append.mp hq).elim (hS.2.2 q) (hL q)⟩
/-- what is thrown there, is caught here -/
def xt_K (p : Program) (l : Launch) (e : Env) (R : Room) (s : State) (m : MethodId) (args : Array Value) (below : List Frame) (meth : Method) (c : Code) (pc : Nat) (cls : String) (hpc : Nat) : Prop :=
  ∀ (T : State) (locs : List Loc) (cells slots : Nat) (g : JFrame) (x : Addr), Stand p l e R s m args below meth c T locs cells slots → g.method = m → g.pc = pc → xt_ob cls x T →
    ∃ vm' : Vm, Stand p l e R s m args below meth c (T.setVm vm') locs cells slots ∧ ∀ target, Steps p.tables e below ((T.setVm vm').setTop { g with pc := hpc, stack := [.ref x] }) target → Steps p.tables e below ((T.setTop g).pushFrame (.throwing x)) target
theorem xt_K1 {pc : Nat} {own cls : String} {ent : ExceptionTableEntry} {restT : List ExceptionTableEntry} (htab : c.exceptionTable.toList = ent :: restT) (hcov : covers ent pc = true) (h0 : ent.catchType ≠ 0) (hown : s.vm.findClass own = some m.cls) (hcl : (Cond.classLink own ent.catchType cls).before args s = true) :
    xt_K p l e R s m args below meth c pc cls ent.handlerPc := by
  intro T locs cells slots g x X hg hp hob
  subst hp
  exact xt_caught X hg htab hcov h0 hown hcl hob
theorem xt_go_skip {x : ExceptionTableEntry} {t : List ExceptionTableEntry} {cI : ClassId} {cell : Cell} {U : State} {f : JFrame} {a : Addr} {vm' : Vm} {Q : Handler → Pre} {E : CtlPost} {d : Bool} {acts : List Action} (hx : covers x f.pc = true) (h0 : x.catchType ≠ 0)
    (hg : (resolveClass f.method.cls x.catchType).Gives e.toSetting U.vm (.ok cI) vm') (hsz : vm'.classes.size ≤ U.vm.classes.size) (hcell : U.heap[a]? = some cell) (hobj : ∀ k, cell.vm ≠ .statics k)
    (hk : ∃ k, vm'.classes[cell.cls]? = some k) (hc : ∃ k, vm'.classes[cI]? = some k) (hfit : vm'.assignable cell.cls cI = false) :
    wp (findHandler.go f a (x :: t)) Q E e d acts U ↔ wp (findHandler.go f a t) Q E e d acts (U.setVm vm') := by
  simp only [covers] at hx
  obtain ⟨ha, ht⟩ := hg.op (op := VmOp.resolveClass f.method.cls x.catchType) rfl
  simp [findHandler.go, hx, h0, ha, ht, hsz, hcell, hobj, hk, hc, hfit, VmOp.dirties, VmOp.acts]
/-- no object of the one class is one of the other -/
def xt_nc (cls cls1 : String) (U : State) : Prop := ∀ a b, U.vm.findClass cls = some a → U.vm.findClass cls1 = some b → U.vm.assignable a b = false
def xnc (U : State) : Prop := xt_nc "java/lang/IndexOutOfBoundsException" "java/lang/IllegalStateException" U ∧ xt_nc "java/lang/IllegalArgumentException" "java/lang/IllegalStateException" U
theorem xt_nc.moved {cls cls1 : String} {U U' : State} (h : xt_nc cls cls1 U) (hA : U.vm.Alike U'.vm) : xt_nc cls cls1 U' := fun a b h1 h2 => by
  rw [hA.findClass] at h1 h2
  rw [hA.assignable]; exact h a b h1 h2
set_option maxHeartbeats 1000000 in
theorem xt_K2 {pc : Nat} {own cls cls1 : String} {e1 ent : ExceptionTableEntry} {restT : List ExceptionTableEntry} (htab : c.exceptionTable.toList = e1 :: ent :: restT) (hcov1 : covers e1 pc = true) (h01 : e1.catchType ≠ 0) (hcov : covers ent pc = true) (h0 : ent.catchType ≠ 0) (hown : s.vm.findClass own = some m.cls) (hcl1 : (Cond.classLink own e1.catchType cls1).before args s = true) (hcl : (Cond.classLink own ent.catchType cls).before args s = true) (hnc : xt_nc cls cls1 s) :
    xt_K p l e R s m args below meth c pc cls ent.handlerPc := by
  intro T locs cells slots g x X hg hp hob
  subst hp
  subst hg
  have hpl : e.platform.magicAccessors = ({} : Platform).magicAccessors := by rw [X.admits.platform]
  obtain ⟨cJ, hfj, hlj⟩ := Cond.classLink_spec hown hcl1 e.platform hpl
  obtain ⟨cI, hfc, hlk⟩ := Cond.classLink_spec hown hcl e.platform hpl
  obtain ⟨hg₁, hwarm₁, hready₁⟩ := State.classEntry (e := e) X.warmed hlj
  have hsz : (T.vm.noted g.method.cls e1.catchType (.cls cJ)).classes.size ≤ T.vm.classes.size := Nat.le_of_eq (Vm.size_note _ _ _ _)
  generalize T.vm.noted g.method.cls e1.catchType (.cls cJ) = vm₁ at hg₁ hwarm₁ hready₁ hsz
  have X1 := X.noted hwarm₁
  obtain ⟨hg₂, hwarm₂, hready₂⟩ := State.classEntry (e := e) X1.warmed hlk
  have hsz2 : ((T.setVm vm₁).vm.noted g.method.cls ent.catchType (.cls cI)).classes.size ≤ (T.setVm vm₁).vm.classes.size := Nat.le_of_eq (Vm.size_note _ _ _ _)
  generalize (T.setVm vm₁).vm.noted g.method.cls ent.catchType (.cls cI) = vm₂ at hg₂ hwarm₂ hready₂ hsz2
  obtain ⟨ce, c1, c2, c3, c4, k, c5⟩ := hob
  have hA1 : T.vm.Alike vm₁ := X.warmed.alike.symm.trans hwarm₁.alike
  have hA2 : T.vm.Alike vm₂ := X.warmed.alike.symm.trans hwarm₂.alike
  have h1 : s.vm.findClass cls = some ce.cls := by rw [← X.warmed.alike.findClass]; exact c2
  have hc : ce.cls = cI := Option.some.inj (h1.symm.trans hfc)
  obtain ⟨k1, hk1, -⟩ := hA1.2.2 _ _ c5
  obtain ⟨k2, hk2, -⟩ := hA2.2.2 _ _ c5
  obtain ⟨kj, hkj, -⟩ := Vm.findClass_spec (vm := vm₁) (name := cls1) (by rw [hwarm₁.alike.findClass]; exact hfj)
  have hfit1 : vm₁.assignable ce.cls cJ = false := by
    rw [hwarm₁.alike.assignable]; exact hnc _ _ h1 hfj
  have hfit2 : vm₂.assignable ce.cls cI = true := by rw [hA2.assignable, ← hc]; exact c4
  have h : At T g.method c below := X.here
  have X2 := X1.noted hwarm₂
  refine ⟨vm₂, X2, fun target hrest => ?_⟩
  obtain ⟨hgo, hw⟩ := h.throwing x
  have hvm : ((T.setTop g).pushFrame (.throwing x)).vm = T.vm := Stand.throwing_vm T g x
  have hhp : ((T.setTop g).pushFrame (.throwing x)).heap = T.heap := Stand.throwing_heap T g x
  refine Steps.head hgo hw ?_
  rw [stepThread_throwing (frames_entered h.top _), (xt_step_catch (U := (T.setTop g).pushFrame (.throwing x)) (U' := (((T.setTop g).pushFrame (.throwing x)).setVm vm₁).setVm vm₂) (pc := ent.handlerPc) (fun Q E d acts => by
    rw [W.findHandler_eq (meth := meth) (code := c) (by rw [hvm]; exact X.method') X.code, htab]
    rw [xt_go_skip hcov1 h01 (by rw [hvm]; exact hg₁) (by rw [hvm]; exact hsz) (by rw [hhp]; exact c1) (fun z hz => by rw [c3] at hz; cases hz) ⟨k1, hk1⟩ ⟨kj, hkj⟩ hfit1]
    exact xt_go_cold hcov h0 hg₂ hsz2 (by show ((T.setTop g).pushFrame (.throwing x)).heap[x]? = _; rw [hhp]; exact c1) (fun z hz => by rw [c3] at hz; cases hz) ⟨k2, hk2⟩ ⟨k2, by rw [← hc]; exact hk2⟩ hfit2)).1]
  obtain ⟨g₀, hg0⟩ := Option.isSome_iff_exists.mp h.top
  obtain ⟨r, hr⟩ := State.topJava?_eq_some.mp hg0
  have hr1 : (T.setVm vm₂).frames = .java g₀ :: r := hr
  have hrest2 : Steps p.tables e below ((T.setVm vm₂).setTop { g with pc := ent.handlerPc, stack := [.ref x] }) target := hrest
  rw [State.setTop_of_frames _ hr1] at hrest2
  have e9 : ((((T.setTop g).pushFrame (.throwing x)).setVm vm₁).setVm vm₂).setFrames (.java { g with pc := ent.handlerPc, stack := [.ref x] } :: T.frames.tail) = (T.setVm vm₂).setFrames (.java { g with pc := ent.handlerPc, stack := [.ref x] } :: r) := by
    rw [State.pushFrame, State.setTop_of_frames _ hr, hr]
    show (((T.setFrames (.java g :: r)).setFrames (.throwing x :: (T.setFrames (.java g :: r)).frames)).setFrames _).setVm vm₂ = (T.setFrames _).setVm vm₂
    rw [State.setFrames_setFrames, State.setFrames_setFrames]
    rfl
  rw [e9]
  exact hrest2
set_option maxHeartbeats 1000000 in
/-- a callee with either outcome: it returns, or a row of the table catches what it throws -/
theorem xt_catchU {mc ms : Nat} {ns : List String} {rt : Prop} {B : Heap → Prop} {A : Nat → Prop} {free : Addr → Prop} {pc : Nat} {ls : Array Slot} {st rest : List Value} {a0 : Array Value} (hr : xt_Run p l e R s m args below meth c H locs cells slots mc ms (F0 m pc ls st) rest (xt_U ns rt B A a0) free)
    (kr : rt → ∀ (H1 : Heap) (L : List Loc) (r : Int32), B H1 → H.size ≤ H1.size → (∀ q : Nat, q < H.size → ¬ A q → H1[q]? = H[q]?) → (∀ q ∈ L, free q.base) → W p l e R s m args below meth c H1 (locs ++ L) (cells + mc) (slots + ms) Q (F0 m (pc + 3) ls (.int r :: rest)))
    (kt : ∀ cls, cls ∈ ns → ∃ hpc, xt_K p l e R s m args below meth c pc cls hpc ∧ ∀ (x : Nat) (H1 : Heap) (L : List Loc), B H1 → H.size ≤ H1.size → (∀ q : Nat, q < H.size → ¬ A q → H1[q]? = H[q]?) → (∀ q ∈ L, free q.base) → W p l e R s m args below meth c H1 (locs ++ L) (cells + mc) (slots + ms) Q (F0 m hpc ls [.ref x])) :
    W p l e R s m args below meth c H locs cells slots Q (F0 m pc ls st) := by
  intro T hT X
  obtain ⟨o, st₀, t, T', L, h0, X', hL, e1, e2, ⟨hq, hB, hF⟩, s1, s2⟩ := hr T hT X
  have hz : H.size ≤ t.heap.size := by rw [← h0]; exact hF.1
  have hk : ∀ q : Nat, q < H.size → ¬ A q → t.heap[q]? = H[q]? := fun q h1 h2 => by rw [hF.2 q (by rw [h0]; exact h1) h2, h0]
  rcases hq with ⟨x, cls, hc, ho, ⟨ce, c1, c2, c3, c4, c5⟩⟩ | ⟨hrt, r, ho⟩
  · obtain ⟨hpc, hK, kk⟩ := kt cls hc
    obtain ⟨vm', X2, st2⟩ := hK T' _ _ _ (F0 m pc ls rest) x X' rfl rfl ⟨ce, by rw [e1]; exact c1, by rw [e2]; exact c2, c3, by rw [e2]; exact c4, by rw [e2]; exact c5⟩
    obtain ⟨tt, a1, b1⟩ := kk x T'.heap L (by rw [e1]; exact hB) (by rw [e1]; exact hz) (fun q h1 h2 => by rw [e1]; exact hk q h1 h2) hL (T'.setVm vm') rfl X2
    exact ⟨tt, s2 x ho _ (st2 _ a1), b1⟩
  · obtain ⟨tt, a1, b1⟩ := kr hrt T'.heap L r (by rw [e1]; exact hB) (by rw [e1]; exact hz) (fun q h1 h2 => by rw [e1]; exact hk q h1 h2) hL T' rfl X'
    exact ⟨tt, s1 _ ho tt a1, b1⟩
end XC
def xo5 (D : va_G) (ax : Nat → ClassId) (ws : va_W) (sz tz : Nat) (U : State) : Prop := xo3 D ax ws sz tz U ∧ xnc U
theorem xo5_blind {D : va_G} {ax : Nat → ClassId} {ws : va_W} {sz tz : Nat} {As : List Value} : FrameBlind (va_Pc As (xo5 D ax ws sz tz)) := by
  intro a U g mk h
  obtain ⟨h0, h1, h2⟩ := h
  obtain ⟨q0, q1⟩ := xo3_blind a U g mk ⟨h0, h1⟩
  exact ⟨q0, q1, h2⟩
theorem xpS5 {D : va_G} {ax : Nat → ClassId} {ws : va_W} {A : Nat → Prop} {s : State} {H : Heap} {As : List Value} (hnc : xnc s) (hP : va_P D classes ws H) (hK : xk D ax s) (hz : xz s H) (hD : va_D A ws) : PreS s H (va_Pc As (xo5 D ax ws H.size (tsl H))) As :=
  ⟨xo5_blind, fun U hU hW => ⟨rfl, ⟨⟨by rw [hU], by rw [hU]; exact hP, hK.moved hW (by rw [hU]; exact hz), hD.weaken (fun _ _ _ _ => trivial)⟩, by rw [hU]⟩, hnc.1.moved hW.alike, hnc.2.moved hW.alike⟩⟩
