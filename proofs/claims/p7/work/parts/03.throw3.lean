section XV
variable {p : Program} {l : Launch} {e : Env} {R : Room} {s : State} {m : MethodId} {args : Array Value} {below : List Frame} {meth : Method} {c : Code} {H : Heap} {T : State} {locs : List Loc} {cells slots : Nat} {Q Q' : State → Prop}
/-- a run of a callee, with either outcome -/
def xt_Run (p : Program) (l : Launch) (e : Env) (R : Room) (s : State) (m : MethodId) (args : Array Value) (below : List Frame) (meth : Method) (c : Code) (H : Heap) (locs : List Loc) (cells slots mc ms : Nat) (g : JFrame) (rest : List Value) (Qa : State → Outcome → State → Prop) (free : Addr → Prop) : Prop :=
  ∀ T : State, T.heap = H → Stand p l e R s m args below meth c T locs cells slots → ∃ (o : Outcome) (st₀ t T' : State) (L : List Loc), st₀.heap = H ∧ Stand p l e R s m args below meth c T' (locs ++ L) (cells + mc) (slots + ms) ∧ (∀ q ∈ L, free q.base) ∧ T'.heap = t.heap ∧ T'.vm = t.vm ∧ Qa st₀ o t ∧
    (∀ v, o = .returned v → Goes p e below T g T' { g with pc := g.pc + 3, stack := v.toList ++ rest }) ∧
    (∀ x, o = .threw x → ∀ tg, Steps p.tables e below ((T'.setTop { g with stack := rest }).pushFrame (.throwing x)) tg → Steps p.tables e below (T.setTop g) tg)
set_option maxHeartbeats 1000000 in
theorem xt_runV {y : MethodName} {bytes cc : ByteArray} {maxL nL mc ms n index : Nat} {ret : Option FieldType} {ws : List Cond} {rm : Room} {Pc : Array Value → State → Prop} {Qx : Array Value → State → Outcome → State → Prop} {free : Addr → Prop} {Ts : List Cond} {own C : String} {b : Addr} {As rest : List Value} {g : JFrame}
    (S : CallFix p m c cc nL s args Ts own) (hM : xt_Met l y ws rm Pc Qx mc ms free) (cw : CallW R s args own C index y bytes maxL ret ws rm mc ms n) (hp : PreV s H C b Pc As)
    (hg : g.method = m) (hn : As.length = n) (hsize : g.locals.size = nL) (hstack : g.stack = As.reverse ++ .ref b :: rest) (hW : 2 * g.monitorRoom + (rest.map fun v => v.category).sum ≤ 8) (hdg : decode cc g.pc = .ok (.invokevirtual index, 3)) (hf : cells + mc ≤ R.cells ∧ slots + ms ≤ R.slots) :
    xt_Run p l e R s m args below meth c H locs cells slots mc ms g rest (Qx (Value.ref b :: As).toArray) free := by
  obtain ⟨⟨hrc, hrs, hfr, hlo, hws, hcw, hcode, hini, hy, hlen, hl⟩, hin, hse⟩ := cw
  obtain ⟨hx, hb, hml, ho, -⟩ := S
  obtain ⟨hbl, ⟨cellB, hcB, hoB, hclB⟩, hPc⟩ := hp
  intro T hT X
  obtain ⟨mk, methM, hnamed, hmethM, hstM, habM⟩ := Cond.instanceMethod_spec hin
  obtain ⟨methM', cM, hmethM', -, -, -, -, -, -, hsigM⟩ := Cond.code_spec hnamed hcode
  cases hmethM.symm.trans hmethM'
  obtain ⟨c2, r2, m2, q1, q2, q3, q4, kP, hkP, hkPi⟩ := Cond.selects_spec hse
  cases hclB.symm.trans q1
  cases (State.methodFound?_of_named hnamed hy).symm.trans q2
  cases hnamed.symm.trans q3
  have hselP : selectMethod e.platform s.vm cellB.cls mk = .method mk := by rw [Launch.admits_selectMethod X.admits]; exact q4
  obtain ⟨vm₁, X₁, hstep₁⟩ := X.invokevirtual hx ho hl hnamed hmethM hstM hkP hkPi hy (a := b) (cell := cellB) (by rw [hT]; exact hcB)
    (fun z h => by rw [h] at hoB; cases hoB) hselP hmethM habM hkP hkPi (g := g) hg (argsL := As) (rest := rest) (hn.trans (hlen _ hsigM)) hstack (by rw [hb]; exact hdg)
  have hnT : (T.setVm vm₁).methodNamed? y = some mk := X₁.named hnamed
  obtain ⟨o, t, T', L, X', hL, e1, e2, hq, s1, s2⟩ := xt_call X₁ hM hrc hrs hfr hlo hws (fun a' U hW => word_at hW (Or.inl (by first | rfl | simp [Cond.onTables, Cond.keeps, Cond.steady])) hini) (xt_C.code (a := #[]) (hws _ hcw #[] (T.setVm vm₁) X₁.warmed)) (g := { g with stack := rest }) hg (hsize.trans hml.symm) (by rw [hb]; exact hdg) hW hnT hf.1 hf.2 (a := (Value.ref b :: As).toArray) (hbl _ _ _ _ (hPc (T.setVm vm₁) hT X₁.warmed))
  refine ⟨o, (T.setVm vm₁).calling { g with stack := rest } mk (Value.ref b :: As).toArray, t, T', L, hT, X', hL, e1, e2, hq, fun v hv target h => hstep₁ _ fun acts => ?_, fun x hx tg h => hstep₁ _ fun acts => ?_⟩
  · rw [doInvoke_state]; exact (s1 v hv).trans h
  · rw [doInvoke_state]; exact (s2 x hx).trans h
set_option maxHeartbeats 1000000 in
/-- the callee throws, and nothing here catches it -/
theorem xt_out {mc ms : Nat} {cls : String} {free fr2 : Addr → Prop} {pc : Nat} {ls : Array Slot} {st rest : List Value} {a0 : Array Value} (hr : xt_Run p l e R s m args below meth c H locs cells slots mc ms (F0 m pc ls st) rest (xt_T cls a0) free)
    (hout : c.exceptionTable.toList = []) (hlocks : meth.locks = false) (hsz : s.heap.size ≤ H.size) (hkeep : ∀ q : Nat, q < s.heap.size → H[q]? = s.heap[q]?) (hfl : ∀ q ∈ locs, fr2 q.base) (hff : ∀ q, free q → fr2 q) :
    W p l e R s m args below meth c H locs cells slots (xt_Q below (xt_T cls) args s (cells + mc) (slots + ms) fr2) (F0 m pc ls st) := by
  intro T hT X
  obtain ⟨o, st₀, t, T', L, h0, X', hL, e1, e2, ⟨x, ho, hx1, ⟨ce, c1, c2, c3, c4, c5⟩, hx3, hx4⟩, -, s2⟩ := hr T hT X
  obtain ⟨l1, l2, l3, l4, l5⟩ := X'.leaveThrown x (g := F0 m pc ls rest) rfl rfl rfl (by rw [hout]; intro z hz; cases hz) hlocks
  refine ⟨T'.setFrames (.throwing x :: below), s2 x ho _ l1, .threw x, l2, l3, ⟨x, rfl, by rw [h0] at hx1; omega, ⟨ce, ?_, ?_, c3, ?_, ?_⟩, ?_, ?_⟩, locs ++ L, ⟨l4, l5⟩, fun q hq => ?_⟩
  · show T'.heap[x]? = _
    rw [e1]; exact c1
  · show T'.vm.findClass cls = _
    rw [e2]; exact c2
  · show T'.vm.assignable _ _ = _
    rw [e2]; exact c4
  · show ∃ k, T'.vm.classes[_]? = _
    rw [e2]; exact c5
  · show s.heap.size ≤ T'.heap.size
    rw [e1]; rw [h0] at hx3; omega
  · intro q hq
    show T'.heap[q]? = _
    rw [e1, hx4 q (by rw [h0]; omega), h0, hkeep q hq]
  · rcases List.mem_append.mp hq with h | h
    · exact hfl q h
    · exact hff _ (hL q h)
theorem xt_go_cold {x : ExceptionTableEntry} {t : List ExceptionTableEntry} {cI : ClassId} {cell : Cell} {U : State} {f : JFrame} {a : Addr} {vm' : Vm} {Q : Handler → Pre} {E : CtlPost} {d : Bool} {acts : List Action} (hx : covers x f.pc = true) (h0 : x.catchType ≠ 0)
    (hg : (resolveClass f.method.cls x.catchType).Gives e.toSetting U.vm (.ok cI) vm') (hsz : vm'.classes.size ≤ U.vm.classes.size) (hcell : U.heap[a]? = some cell) (hobj : ∀ k, cell.vm ≠ .statics k)
    (hk : ∃ k, vm'.classes[cell.cls]? = some k) (hc : ∃ k, vm'.classes[cI]? = some k) (hfit : vm'.assignable cell.cls cI = true) :
    wp (findHandler.go f a (x :: t)) Q E e d acts U ↔ Q (.found x.handlerPc) d acts (U.setVm vm') := by
  simp only [covers] at hx
  obtain ⟨ha, ht⟩ := hg.op (op := VmOp.resolveClass f.method.cls x.catchType) rfl
  simp [findHandler.go, hx, h0, ha, ht, hsz, hcell, hobj, hk, hc, hfit, VmOp.dirties, VmOp.acts]
end XV
