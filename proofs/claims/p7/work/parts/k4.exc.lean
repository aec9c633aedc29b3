def xe_nm : List String := ["java/lang/RuntimeException", "java/lang/Exception"]
theorem xe_ISE_Desk {D : va_G} {ax : Nat → ClassId} {args : Array Value} {s : State} (hts : ∀ w ∈ lw_gd, w.before args s = true) (hK : xk D ax s) : ∀ a ∈ Bundle.ownAtoms0 "TripleDesk" 149 "java/lang/IllegalStateException" xe_nm, a.before args s = true := by
  intro a ha
  have h : ∀ a ∈ Bundle.ownAtoms0 "TripleDesk" 149 "java/lang/IllegalStateException" xe_nm, (a ∈ lw_tbl ∧ goodWord a = true) ∨ a ∈ xk_c ∨ a ∈ xk_d ∨ a = .laysStatic "java/lang/Throwable" "UNASSIGNED_STACK" "[Ljava/lang/StackTraceElement;" ∨ a = .laysStatic "java/lang/Throwable" "SUPPRESSED_SENTINEL" "Ljava/util/List;" ∨ a = .isRef (.static "java/lang/Throwable" "UNASSIGNED_STACK" "[Ljava/lang/StackTraceElement;") ∨ a = .isRef (.static "java/lang/Throwable" "SUPPRESSED_SENTINEL" "Ljava/util/List;") := by decide +kernel
  rcases h a ha with h | h | h | rfl | rfl | rfl | rfl
  · exact hts a (List.mem_filter.mpr h)
  · have h1 := hK.2.2.2.1 a h
    simp only [xk_c, List.mem_cons, List.not_mem_nil, or_false] at h
    rcases h with rfl | rfl | rfl | rfl | rfl <;> exact va_Nw.use rfl h1
  · have h1 := hK.2.2.2.2.1 a h
    simp only [xk_d, List.mem_cons, List.not_mem_nil, or_false] at h
    rcases h with rfl | rfl | rfl | rfl | rfl | rfl <;> exact va_Nw.use rfl h1
  · exact hK.2.2.2.2.2.1.1
  · exact hK.2.2.2.2.2.2.1
  · exact hK.2.2.2.2.2.1.2
  · exact hK.2.2.2.2.2.2.2
theorem xe_IOE_Desk {D : va_G} {ax : Nat → ClassId} {args : Array Value} {s : State} (hts : ∀ w ∈ lw_gd, w.before args s = true) (hK : xk D ax s) : ∀ a ∈ Bundle.ownAtoms0 "TripleDesk" 142 "java/lang/IndexOutOfBoundsException" xe_nm, a.before args s = true := by
  intro a ha
  have h : ∀ a ∈ Bundle.ownAtoms0 "TripleDesk" 142 "java/lang/IndexOutOfBoundsException" xe_nm, (a ∈ lw_tbl ∧ goodWord a = true) ∨ a ∈ xk_c ∨ a ∈ xk_d ∨ a = .laysStatic "java/lang/Throwable" "UNASSIGNED_STACK" "[Ljava/lang/StackTraceElement;" ∨ a = .laysStatic "java/lang/Throwable" "SUPPRESSED_SENTINEL" "Ljava/util/List;" ∨ a = .isRef (.static "java/lang/Throwable" "UNASSIGNED_STACK" "[Ljava/lang/StackTraceElement;") ∨ a = .isRef (.static "java/lang/Throwable" "SUPPRESSED_SENTINEL" "Ljava/util/List;") := by decide +kernel
  rcases h a ha with h | h | h | rfl | rfl | rfl | rfl
  · exact hts a (List.mem_filter.mpr h)
  · have h1 := hK.2.2.2.1 a h
    simp only [xk_c, List.mem_cons, List.not_mem_nil, or_false] at h
    rcases h with rfl | rfl | rfl | rfl | rfl <;> exact va_Nw.use rfl h1
  · have h1 := hK.2.2.2.2.1 a h
    simp only [xk_d, List.mem_cons, List.not_mem_nil, or_false] at h
    rcases h with rfl | rfl | rfl | rfl | rfl | rfl <;> exact va_Nw.use rfl h1
  · exact hK.2.2.2.2.2.1.1
  · exact hK.2.2.2.2.2.2.1
  · exact hK.2.2.2.2.2.1.2
  · exact hK.2.2.2.2.2.2.2
theorem xe_IAE_Desk {D : va_G} {ax : Nat → ClassId} {args : Array Value} {s : State} (hts : ∀ w ∈ lw_gd, w.before args s = true) (hK : xk D ax s) : ∀ a ∈ Bundle.ownAtoms0 "TripleDesk" 179 "java/lang/IllegalArgumentException" xe_nm, a.before args s = true := by
  intro a ha
  have h : ∀ a ∈ Bundle.ownAtoms0 "TripleDesk" 179 "java/lang/IllegalArgumentException" xe_nm, (a ∈ lw_tbl ∧ goodWord a = true) ∨ a ∈ xk_c ∨ a ∈ xk_d ∨ a = .laysStatic "java/lang/Throwable" "UNASSIGNED_STACK" "[Ljava/lang/StackTraceElement;" ∨ a = .laysStatic "java/lang/Throwable" "SUPPRESSED_SENTINEL" "Ljava/util/List;" ∨ a = .isRef (.static "java/lang/Throwable" "UNASSIGNED_STACK" "[Ljava/lang/StackTraceElement;") ∨ a = .isRef (.static "java/lang/Throwable" "SUPPRESSED_SENTINEL" "Ljava/util/List;") := by decide +kernel
  rcases h a ha with h | h | h | rfl | rfl | rfl | rfl
  · exact hts a (List.mem_filter.mpr h)
  · have h1 := hK.2.2.2.1 a h
    simp only [xk_c, List.mem_cons, List.not_mem_nil, or_false] at h
    rcases h with rfl | rfl | rfl | rfl | rfl <;> exact va_Nw.use rfl h1
  · have h1 := hK.2.2.2.2.1 a h
    simp only [xk_d, List.mem_cons, List.not_mem_nil, or_false] at h
    rcases h with rfl | rfl | rfl | rfl | rfl | rfl <;> exact va_Nw.use rfl h1
  · exact hK.2.2.2.2.2.1.1
  · exact hK.2.2.2.2.2.2.1
  · exact hK.2.2.2.2.2.1.2
  · exact hK.2.2.2.2.2.2.2
section XR
variable {p : Program} {l : Launch} {e : Env} {R : Room} {s : State} {m : MethodId} {args : Array Value} {below : List Frame} {meth : Method} {c : Code} {H : Heap} {T : State} {locs : List Loc} {cells slots : Nat} {Q Q' : State → Prop}
/-- the same stand, begun here -/
theorem xr_base (X : Stand p l e R s m args below meth c T locs cells slots) {k n : Nat} (hk : cells + k ≤ R.cells) (hn : slots + n ≤ R.slots) : Stand p l e { R with cells := k, slots := n } (T.setFrames (.invoking m args :: below)) m args below meth c T [] 0 0 := by
  have hF : (T.setFrames (.invoking m args :: below)).frames = .invoking m args :: below := State.frames_setFrames _ (State.cur_lt_of_top X.here.top)
  obtain ⟨g₀, hg0⟩ := Option.isSome_iff_exists.mp X.here.top
  obtain ⟨r, hr⟩ := State.topJava?_eq_some.mp hg0
  obtain ⟨t0, ht0, -⟩ := State.frames_cons hr
  refine ⟨X.admits, X.cas, X.clock, hF, ?_, ?_, X.method', X.code, X.here, X.tail, State.WarmedH.refl T, (State.stackLimits_setFrames _ _ _).symm, (State.stackBytes_setFrames _ _).symm, ?_⟩
  · obtain ⟨r1, r2, r3, r4⟩ := State.hasRoom_stack X.room
    have r5 := State.hasRoom_real X.room
    have h := X.room
    simp only [State.hasRoom, Bool.and_eq_true, decide_eq_true_eq] at h
    rw [State.localsInUse_invoking X.frames X.method X.code] at r3 r4 r5
    rw [X.frames, List.length_cons] at r1 r2
    have hU := State.localsInUse_invoking hF (meth := meth) (c := c) X.method' X.code
    simp only [State.hasRoom, Bool.and_eq_true, decide_eq_true_eq, hF, hU, List.length_cons, State.stackLimits_setFrames, State.stackBytes_setFrames, X.limits, X.bytes]
    refine ⟨⟨⟨⟨by omega, by omega, by omega, by omega, by omega, h.1.1.1.2.2.2.2.2⟩, ?_⟩, ?_⟩, X.book⟩
    · have h1 := h.1.1.2
      have h2 := X.heapSize
      show T.heap.size + k ≤ _
      omega
    · have h1 := h.1.2
      have h2 := X.used
      show T.slotsUsed + n ≤ _
      omega
  · have h := X.hears
    have e1 : ∀ q, (T.setFrames (.invoking m args :: below)).code? q = s.code? q := fun q => by
      rw [State.code?_eq, State.code?_eq]
      show (T.vm.method? q).bind _ = _
      rw [X.warmed.alike.method?]
    have e2 : (T.setFrames (.invoking m args :: below)).vm.method? m = s.vm.method? m := X.warmed.alike.method? m
    cases below with
    | nil => simpa only [State.hears, e2] using h
    | cons f r => cases f <;> simpa only [State.hears, e1, e2] using h
  · refine ⟨?_, Nat.le_refl _, Nat.le_refl _, ?_, ?_, fun a c h => ⟨c, h, rfl, rfl, fun _ _ => rfl⟩⟩
    · show T.setVm T.vm = { (T.setFrames (.invoking m args :: below)).setFrames T.frames with heap := T.heap, slotsUsed := T.slotsUsed }
      rw [State.setFrames_setFrames, State.setFrames_self ht0]
      rfl
    · show T.slotsUsed = T.slotsUsed + ((T.heap.toList.drop T.heap.size).map (·.slots.size)).sum
      rw [List.drop_eq_nil_of_le (by simp)]; rfl
    · show ((T.heap.toList.drop T.heap.size).map (·.slots.size)).sum ≤ 0
      rw [List.drop_eq_nil_of_le (by simp)]; exact Nat.le_refl _
theorem xr_same {t : State} {L : List Loc} {k n : Nat} {fs : List Frame} (X : Stand p l e R s m args below meth c T locs cells slots) (h : (T.setFrames fs).sameButNew ({ t with vm := T.vm } : State) L k n) : s.sameButNew ({ t with vm := s.vm } : State) (locs ++ L) (cells + k) (slots + n) := by
  obtain ⟨q1, q2, q3, q4, q5, q6⟩ := h
  have h0 : T.sameButNew ({ t with vm := T.vm } : State) L k n := by
    refine ⟨?_, q2, q3, q4, q5, q6⟩
    rw [State.setFrames_setFrames] at q1
    exact q1
  exact X.same.trans (h0.setVm s.vm)
set_option maxHeartbeats 1000000 in
/-- a throw, whatever went before -/
theorem xt_newG {cc : ByteArray} (hexec : p.tables.exec = Jvm.exec) (hb : c.code = cc) (htr : e.platform.stackTraces = false) {own cls : String} {names : List String} {ia ic : Nat} (hown : s.vm.findClass own = some m.cls) (hcls : Bundle.fit cls = true) (hnames : ∀ n ∈ names, Bundle.fit n = true)
    (hcl : ∀ U : State, s.WarmedH U.vm → (Cond.classLink own ia cls).before args U = true) (hini : ∀ U : State, s.WarmedH U.vm → (Cond.initialized cls).before args U = true)
    (h : ∀ U : State, s.WarmedH U.vm → U.heap = H → ∀ a ∈ Bundle.ownAtoms0 own ic cls names, a.before args U = true)
    {ls : Array Slot} {rest : List Value} {pc : Nat} (hsize : ls.size = c.maxLocals) (hd0 : decode cc pc = .ok (.new ia, 3)) (hd3 : decode cc (pc + 3) = .ok (.dup, 1)) (hd4 : decode cc (pc + 4) = .ok (.invokespecial ic, 3)) (hd7 : decode cc (pc + 7) = .ok (.athrow, 1))
    (hout : c.exceptionTable.toList = []) (hfr : names.length + 3 < R.frames) (hlo : ((Value.ref 0 :: rest).map fun v => v.category).sum + (13 * (names.length + 1) + 41) ≤ R.locals) (hcells : cells + 1 ≤ R.cells) (hslots : slots + 6 ≤ R.slots) (hlocks : meth.locks = false) {free : Addr → Prop} (hfl : ∀ q ∈ locs, free q.base) {Qx : Array Value → State → Outcome → State → Prop}
    (hq : ∀ (x : Addr) (t : State), xt_ob cls x t → H.size ≤ t.heap.size → t.heap.size ≤ H.size + 1 → tsl t.heap ≤ tsl H + 6 → (∀ q : Nat, q < H.size → t.heap[q]? = H[q]?) → Qx args s (.threw x) t) :
    W p l e R s m args below meth c H locs cells slots (xt_Q below Qx args s (cells + 1) (slots + 6) free) (F0 m pc ls rest) := by
  intro T hT X
  have X0 := xr_base X hcells hslots
  obtain ⟨t, a1, o, b1, b2, ⟨x, ho, hx1, hob, hx3, hx4⟩, L, ⟨hWt, hsm⟩, hL⟩ := xt_new (R := { R with cells := 1, slots := 6 }) (l := l) (below := below) (cells := 0) (slots := 0) (cls := cls) (names := names) (free := fun _ => False) hexec hb htr (s := T.setFrames (.invoking m args :: below)) (by show T.vm.findClass own = _; rw [X.warmed.alike.findClass]; exact hown) hcls hnames (hcl _ X.warmed) (hini _ X.warmed) (h _ X.warmed hT) hsize hd0 hd3 hd4 hd7 hout hfr hlo (Nat.le_refl _) (Nat.le_refl _) hlocks rfl T rfl X0
  subst ho
  have hz : H.size ≤ t.heap.size := by rw [← hT]; exact hx3
  have hz1 : t.heap.size ≤ H.size + 1 := by rw [← hT]; exact hsm.2.2.1
  have hts : tsl t.heap ≤ tsl H + 6 := by
    have h5 := hsm.2.2.2.2.1
    have e := tsl_split (S := T.heap) (T := t.heap) hx3 (fun a c hc => by
      obtain ⟨c', q1, q2, q3, q4⟩ := hsm.2.2.2.2.2 a c hc
      exact ⟨c', q1, q3⟩)
    have h6 : ((t.heap.toList.drop T.heap.size).map (fun c : Cell => c.slots.size)).sum ≤ 6 := h5
    rw [← hT, e]; omega
  have hk : ∀ q : Nat, q < H.size → t.heap[q]? = H[q]? := by rw [← hT]; exact hx4
  exact ⟨t, a1, .threw x, b1, b2, hq x t hob hz hz1 hts hk, locs ++ L, ⟨State.WarmedH.trans X.warmed hWt, xr_same X hsm⟩, fun q hq => by
    rcases List.mem_append.mp hq with h | h
    · exact hfl q h
    · exact (hL q h).elim⟩
theorem xp_kept {D : va_G} {ws : va_W} {H1 : Heap} (hP : va_P D classes ws H) (h2 : ∀ q : Nat, q < H.size → H1[q]? = H[q]?) : va_P D classes ws H1 := hP.kept (fun k x hx => h2 x.1 ((hP k x hx).lt))
/-- either outcome: thrown, or returned; the world behind it -/
def xt_U (ns : List String) (rt : Prop) (B : Heap → Prop) (A : Nat → Prop) : Array Value → State → Outcome → State → Prop := fun _ st o t => ((∃ (x : Addr) (cls : String), cls ∈ ns ∧ o = .threw x ∧ xt_ob cls x t) ∨ (rt ∧ ∃ r : Int32, o = .returned (some (.int r)))) ∧ B t.heap ∧ va_F A st t
theorem xs_new {A : Nat → Prop} {st t : State} (hS : va_S A st.heap H locs) (h1 : H.size ≤ t.heap.size) (hk : ∀ q : Nat, q < H.size → t.heap[q]? = H[q]?) : va_F A st t := ⟨Nat.le_trans hS.1 h1, fun q h2 h3 => by rw [hk q (Nat.lt_of_lt_of_le h2 hS.1)]; exact hS.2.1 q h2 h3⟩
set_option maxHeartbeats 1000000 in
/-- the callee throws, and nothing here catches it -/
theorem xt_outU {mc ms : Nat} {ns : List String} {B : Heap → Prop} {A : Nat → Prop} {free fr2 : Addr → Prop} {pc : Nat} {ls : Array Slot} {st rest : List Value} {a0 : Array Value} {rt : Prop} (hr : xt_Run p l e R s m args below meth c s.heap [] 0 0 mc ms (F0 m pc ls st) rest (xt_U ns False B A a0) free)
    (hout : c.exceptionTable.toList = []) (hlocks : meth.locks = false) (hff : ∀ q, free q → fr2 q) :
    W p l e R s m args below meth c s.heap [] 0 0 (xt_Q below (xt_U ns rt B A) args s (0 + mc) (0 + ms) fr2) (F0 m pc ls st) := by
  intro T hT X
  obtain ⟨o, st₀, t, T', L, h0, X', hL, e1, e2, ⟨hq, hB, hF⟩, -, s2⟩ := hr T hT X
  rcases hq with ⟨x, cls, hc, ho, ⟨ce, c1, c2, c3, c4, c5⟩⟩ | ⟨h, -⟩
  · obtain ⟨l1, l2, l3, l4, l5⟩ := X'.leaveThrown x (g := F0 m pc ls rest) rfl rfl rfl (by rw [hout]; intro z hz; cases hz) hlocks
    refine ⟨T'.setFrames (.throwing x :: below), s2 x ho _ l1, .threw x, l2, l3, ⟨Or.inl ⟨x, cls, hc, rfl, ⟨ce, ?_, ?_, c3, ?_, ?_⟩⟩, ?_, ?_, ?_⟩, [] ++ L, ⟨l4, l5⟩, fun q hq => ?_⟩
    · show T'.heap[x]? = _
      rw [e1]; exact c1
    · show T'.vm.findClass cls = _
      rw [e2]; exact c2
    · show T'.vm.assignable _ _ = _
      rw [e2]; exact c4
    · show ∃ k, T'.vm.classes[_]? = _
      rw [e2]; exact c5
    · show B T'.heap
      rw [e1]; exact hB
    · show s.heap.size ≤ T'.heap.size
      rw [e1, ← h0]; exact hF.1
    · intro q h1 h2
      show T'.heap[q]? = _
      rw [e1, hF.2 q (by rw [h0]; exact h1) h2, h0]
    · rcases List.mem_append.mp hq with h | h
      · cases h
      · exact hff _ (hL q h)
  · exact h.elim
end XR
