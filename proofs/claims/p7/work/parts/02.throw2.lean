section XU
variable {p : Program} {l : Launch} {e : Env} {R : Room} {s : State} {m : MethodId} {args : Array Value} {below : List Frame} {meth : Method} {c : Code} {H : Heap} {T : State} {locs : List Loc} {cells slots : Nat} {Q Q' : State → Prop}
/-- an object of exactly this kind, thrown -/
def xt_ob (cls : String) (x : Addr) (t : State) : Prop := ∃ ce : Cell, t.heap[x]? = some ce ∧ t.vm.findClass cls = some ce.cls ∧ ce.vm = .none ∧ t.vm.assignable ce.cls ce.cls = true ∧ ∃ k, t.vm.classes[ce.cls]? = some k
def xt_T (cls : String) : Array Value → State → Outcome → State → Prop := fun _ st o t => ∃ x, o = .threw x ∧ st.heap.size ≤ x ∧ xt_ob cls x t ∧ st.heap.size ≤ t.heap.size ∧ ∀ q : Nat, q < st.heap.size → t.heap[q]? = st.heap[q]?
theorem xt_same {t : State} {k n : Nat} (h : s.sameButNew ({ t with vm := s.vm } : State) [] k n) : s.heap.size ≤ t.heap.size ∧ ∀ q : Nat, q < s.heap.size → t.heap[q]? = s.heap[q]? := by
  obtain ⟨-, h2, -, -, -, h6⟩ := h
  refine ⟨h2, fun q hq => ?_⟩
  obtain ⟨c', e1, e2, e3, e4⟩ := h6 q _ (Array.getElem?_eq_getElem hq)
  have e5 : c'.slots = (s.heap[q]'hq).slots := Array.ext_getElem? (fun i => e4 i (by simp))
  rw [Array.getElem?_eq_getElem hq]
  refine Eq.trans e1 ?_
  rw [e2, e5]
theorem xt_assignable {vm vm' : Vm} (h : vm.Alike vm') (a b : ClassId) : vm'.assignable a b = vm.assignable a b := by
  exact h.assignable a b
set_option maxHeartbeats 1000000 in
theorem xt_new {cc : ByteArray} (hexec : p.tables.exec = Jvm.exec) (hb : c.code = cc) (htr : e.platform.stackTraces = false) {own cls : String} {names : List String} {ia ic : Nat} (hown : s.vm.findClass own = some m.cls) (hcls : Bundle.fit cls = true) (hnames : ∀ n ∈ names, Bundle.fit n = true)
    (hcl : (Cond.classLink own ia cls).before args s = true) (hini : (Cond.initialized cls).before args s = true)
    (h : ∀ a ∈ Bundle.ownAtoms0 own ic cls names, a.before args s = true)
    {ls : Array Slot} {rest : List Value} {pc : Nat} (hsize : ls.size = c.maxLocals) (hd0 : decode cc pc = .ok (.new ia, 3)) (hd3 : decode cc (pc + 3) = .ok (.dup, 1)) (hd4 : decode cc (pc + 4) = .ok (.invokespecial ic, 3)) (hd7 : decode cc (pc + 7) = .ok (.athrow, 1))
    (hout : c.exceptionTable.toList = []) (hfr : names.length + 3 < R.frames) (hlo : ((Value.ref 0 :: rest).map fun v => v.category).sum + (13 * (names.length + 1) + 41) ≤ R.locals) (hcells : cells + 1 ≤ R.cells) (hslots : slots + 6 ≤ R.slots) (hlocks : meth.locks = false) {free : Addr → Prop} {H : Heap} (hH : H = s.heap) :
    W p l e R s m args below meth c H [] cells slots (xt_Q below (xt_T cls) args s (cells + 1) (slots + 6) free) (F0 m pc ls rest) := by
  subst hH
  intro T hT X
  obtain ⟨vm', cC, kC, hfc, hk, hkind, hn, X1, st1⟩ := X.newCold hexec hown hcl (h (.instantiable cls 6) (by simp [Bundle.ownAtoms0])) hini (g := F0 m pc ls rest) rfl (by rw [hb]; exact hd0) hcells hslots
  have K2 : W p l e R s m args below meth c ((T.setVm vm').pushCell { cls := cC, slots := kC.instanceTypes.map defaultValue, vm := .none }).heap [] (cells + 1) (slots + 6) (xt_Q below (xt_T cls) args s (cells + 1) (slots + 6) free) (F0 m (pc + 3) ls (.ref T.heap.size :: rest)) := by
    refine lv_dup hexec hb hd3 rfl ?_
    intro T2 hT2 X2
    obtain ⟨U, hs, hrun, hend, hW, hsame, ce, hce, hown2⟩ := X2.ctorThrow0 hexec htr hown hcls hnames h (fun x hx => by cases hx) (a := T.heap.size) (cX := cC) (kX := kC) hfc hk (by rw [hT2]; simp [State.pushCell, freshCell]) (by rw [hT]; exact Nat.le_refl _) (g := F0 m (pc + 3 + 1) ls (.ref T.heap.size :: .ref T.heap.size :: rest)) rfl hsize rfl rfl rfl
      (by rw [hb]; exact hd4) (by rw [hb]; exact hd7) (by rw [hout]; intro x hx; cases hx) hfr (by simpa [JFrame.monitorRoom, Value.category] using hlo) hlocks
    obtain ⟨z1, z2⟩ := xt_same hsame
    refine ⟨U, hs, .threw T.heap.size, hrun, hend, ⟨T.heap.size, rfl, by rw [hT]; exact Nat.le_refl _, ⟨ce, hce, by rw [hW.alike.findClass]; exact hown2.cls, hown2.vm, by rw [xt_assignable hW.alike]; exact hown2.self, ?_⟩, z1, z2⟩, [], ⟨hW, hsame⟩, fun q hq => by cases hq⟩
    have h1 := hfc.symm.trans hown2.cls
    cases h1
    obtain ⟨k', hk', -⟩ := hW.alike.2.2 _ _ hk
    exact ⟨k', hk'⟩
  obtain ⟨t, b1, b2⟩ := K2 _ rfl X1
  exact ⟨t, st1 t b1, b2⟩
end XU
