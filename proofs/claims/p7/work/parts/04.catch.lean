section XY
variable {p : Program} {l : Launch} {e : Env} {R : Room} {s : State} {m : MethodId} {args : Array Value} {below : List Frame} {meth : Method} {c : Code} {H : Heap} {T : State} {locs : List Loc} {cells slots : Nat} {Q Q' : State → Prop}
theorem xt_step_catch {U U' : State} {a : Addr} {f : JFrame} {r : List Frame} {pc : Nat} (hfind : ∀ (Q : Handler → Pre) (E : CtlPost) (d : Bool) (acts : List Action), wp (findHandler f a) Q E e d acts U ↔ Q (.found pc) d acts U') :
    (stepThrowing e U a (.java f :: r)).Is (U'.setFrames (.java { f with pc := pc, stack := [.ref a] } :: r)) [] := by
  simp only [stepThrowing, searchFrame, vmDo]
  generalize hr : Sem.go _ e false [] U = res
  obtain ⟨as, rfl, ha⟩ := Sem.eq_ok_of hr (a := Handler.found pc) (s' := U') (acts' := []) (by simp [hfind _ _ _ _])
  exact ⟨rfl, ha⟩
set_option maxHeartbeats 1000000 in
theorem xt_caught (X : Stand p l e R s m args below meth c T locs cells slots) {g : JFrame} (hg : g.method = m) {x : Addr} {ent : ExceptionTableEntry} {restT : List ExceptionTableEntry} (htab : c.exceptionTable.toList = ent :: restT) (hcov : covers ent g.pc = true) (h0 : ent.catchType ≠ 0)
    {own cls : String} (hown : s.vm.findClass own = some m.cls) (hcl : (Cond.classLink own ent.catchType cls).before args s = true) (hob : xt_ob cls x T) :
    ∃ vm' : Vm, Stand p l e R s m args below meth c (T.setVm vm') locs cells slots ∧ ∀ target, Steps p.tables e below ((T.setVm vm').setTop { g with pc := ent.handlerPc, stack := [.ref x] }) target → Steps p.tables e below ((T.setTop g).pushFrame (.throwing x)) target := by
  subst hg
  have hpl : e.platform.magicAccessors = ({} : Platform).magicAccessors := by rw [X.admits.platform]
  obtain ⟨cI, hfc, hlk⟩ := Cond.classLink_spec hown hcl e.platform hpl
  obtain ⟨hg₁, hwarm₁, hready₁⟩ := State.classEntry (e := e) X.warmed hlk
  have hsz : (T.vm.noted g.method.cls ent.catchType (.cls cI)).classes.size ≤ T.vm.classes.size := Nat.le_of_eq (Vm.size_note _ _ _ _)
  generalize T.vm.noted g.method.cls ent.catchType (.cls cI) = vm₁ at hg₁ hwarm₁ hready₁ hsz
  obtain ⟨ce, c1, c2, c3, c4, k, c5⟩ := hob
  have hA1 : T.vm.Alike vm₁ := X.warmed.alike.symm.trans hwarm₁.alike
  have hc : ce.cls = cI := by
    have h1 : s.vm.findClass cls = some ce.cls := by rw [← X.warmed.alike.findClass]; exact c2
    exact Option.some.inj (h1.symm.trans hfc)
  obtain ⟨k', hk', -⟩ := hA1.2.2 _ _ c5
  have hfit : vm₁.assignable ce.cls cI = true := by rw [hA1.assignable, ← hc]; exact c4
  have h : At T g.method c below := X.here
  have X1 := X.noted hwarm₁
  refine ⟨vm₁, X1, fun target hrest => ?_⟩
  obtain ⟨hgo, hw⟩ := h.throwing x
  have hvm : ((T.setTop g).pushFrame (.throwing x)).vm = T.vm := Stand.throwing_vm T g x
  have hhp : ((T.setTop g).pushFrame (.throwing x)).heap = T.heap := Stand.throwing_heap T g x
  refine Steps.head hgo hw ?_
  rw [stepThread_throwing (frames_entered h.top _), (xt_step_catch (U := (T.setTop g).pushFrame (.throwing x)) (U' := ((T.setTop g).pushFrame (.throwing x)).setVm vm₁) (pc := ent.handlerPc) (fun Q E d acts => by
    rw [W.findHandler_eq (meth := meth) (code := c) (by rw [hvm]; exact X.method') X.code, htab]
    exact xt_go_cold hcov h0 (by rw [hvm]; exact hg₁) (by rw [hvm]; exact hsz) (by rw [hhp]; exact c1) (fun z hz => by rw [c3] at hz; cases hz) ⟨k', hk'⟩ ⟨k', by rw [← hc]; exact hk'⟩ hfit)).1]
  obtain ⟨g₀, hg0⟩ := Option.isSome_iff_exists.mp h.top
  obtain ⟨r, hr⟩ := State.topJava?_eq_some.mp hg0
  have hr1 : (T.setVm vm₁).frames = .java g₀ :: r := hr
  rw [State.setTop_of_frames _ hr1] at hrest
  have e1 : (((T.setTop g).pushFrame (.throwing x)).setVm vm₁).setFrames (.java { g with pc := ent.handlerPc, stack := [.ref x] } :: T.frames.tail) = (T.setVm vm₁).setFrames (.java { g with pc := ent.handlerPc, stack := [.ref x] } :: r) := by
    rw [State.pushFrame, State.setTop_of_frames _ hr, hr]
    show (((T.setFrames (.java g :: r)).setFrames (.throwing x :: (T.setFrames (.java g :: r)).frames)).setFrames _).setVm vm₁ = (T.setFrames _).setVm vm₁
    rw [State.setFrames_setFrames, State.setFrames_setFrames]
    rfl
  rw [e1]
  exact hrest
set_option maxHeartbeats 1000000 in
/-- the callee throws, and the first row of the table catches it -/
theorem xt_catch {mc ms : Nat} {own cls : String} {free fr2 : Addr → Prop} {pc : Nat} {ls : Array Slot} {st rest : List Value} {a0 : Array Value} (hr : xt_Run p l e R s m args below meth c H locs cells slots mc ms (F0 m pc ls st) rest (xt_T cls a0) free)
    {ent : ExceptionTableEntry} {restT : List ExceptionTableEntry} (htab : c.exceptionTable.toList = ent :: restT) (hcov : covers ent pc = true) (h0 : ent.catchType ≠ 0) (hown : s.vm.findClass own = some m.cls) (hcl : (Cond.classLink own ent.catchType cls).before args s = true)
    (kk : ∀ (x : Nat) (H1 : Heap) (L : List Loc), (∀ q ∈ L, free q.base) → H.size ≤ H1.size → (∀ q : Nat, q < H.size → H1[q]? = H[q]?) → W p l e R s m args below meth c H1 (locs ++ L) (cells + mc) (slots + ms) Q (F0 m ent.handlerPc ls [.ref x])) :
    W p l e R s m args below meth c H locs cells slots Q (F0 m pc ls st) := by
  intro T hT X
  obtain ⟨o, st₀, t, T', L, h0', X', hL, e1, e2, ⟨x, ho, hx1, ⟨ce, c1, c2, c3, c4, c5⟩, hx3, hx4⟩, -, s2⟩ := hr T hT X
  obtain ⟨vm', X2, st2⟩ := xt_caught X' (g := F0 m pc ls rest) rfl htab hcov h0 hown hcl (x := x) ⟨ce, by rw [e1]; exact c1, by rw [e2]; exact c2, c3, by rw [e2]; exact c4, by rw [e2]; exact c5⟩
  rw [h0'] at hx3 hx4
  obtain ⟨tt, a1, b1⟩ := kk x T'.heap L hL (by rw [e1]; exact hx3) (fun q hq => by rw [e1]; exact hx4 q hq) (T'.setVm vm') rfl X2
  exact ⟨tt, s2 x ho _ (st2 _ a1), b1⟩
end XY
