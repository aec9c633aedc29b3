theorem wd_27 : ((Jvm.Cond.instantiable "TripleDesk" (13 : Nat))) ∈ lw_gd := lw_gd_in (i := 27) (by decide +kernel) rfl
theorem wd_1026 : ((Jvm.Cond.instantiable "TripleDeskModel" (72 : Nat))) ∈ lw_gd := lw_gd_in (i := 1026) (by decide +kernel) rfl
def lw_P (b : Addr) (xs : List Int32) (args : Array Value) (s : State) : Prop := args = #[.ref b] ∧ s.IntsAt b xs ∧ xs.length ≤ 2048 ∧ (Jvm.Cond.and given_1 narrow_1).before args s = true
def lw_Q (_ : Array Value) (s : State) (o : Outcome) (t : State) : Prop := o = .returned (some (.int 1)) ∧ Framed s o t [] 601024 7293034
def lw_Z (below : List Frame) (a : Array Value) (s : State) : State → Prop := fun t => ∃ o, t.status = .running ∧ Ended t below o ∧ lw_Q a s o t
/-- the law's own end, with 1 on the stack, nothing written that was there before, its room as the claim has it -/
theorem lw_ret {p : Program} {l : Launch} {e : Env} {s : State} {m : MethodId} {below : List Frame} {meth : Method} {c : Code} {b : Nat} (hx : p.tables.exec = Jvm.exec) (hb : c.code = code) (hr : meth.sig.returnType = ret) (hlocks : meth.locks = false) {pc : Nat} {H : Heap} {ls : Array Slot} (hdg : decode code pc = .ok (.ireturn, 1)) : W p l e room_1 s m #[Value.ref b] below meth c H [] 601024 7293034 (lw_Z below #[Value.ref b] s) (F0 m pc ls [.int 1]) := by
  intro T hT X
  obtain ⟨fs, hret, hrun, hended, hW, hframe⟩ := X.leave (v := some (.int 1)) (hlocks := hlocks) (fun h => by rw [hr] at h; cases h)
  have hmeth' : T.vm.method? m = some meth := X.method'
  refine ⟨T.setFrames fs, ?_, .returned (some (.int 1)), hrun, hended, rfl, ⟨_, rfl⟩, hW, hframe⟩
  jvm_step X.here [X.here.top, hx, hb, hdg, hmeth', hr, ret, narrow_b1]
  (try refine ⟨rfl, ?_⟩); (try refine ⟨rfl, ?_⟩)
  first | (intro acts; rw [hret _ acts rfl rfl rfl]) | rw [hret _ _ rfl rfl rfl]
  exact Steps.refl _
/-- what holds at the law's entry: the machine, the code, the tables' words (any of lw_tbl by 'hts w (by decide +kernel)'), the script of L ints xs at the cell b, what the Statement gives of the start (any of its parts by flat_of_before) -/
def lw_At (p : Program) (s : State) (m : MethodId) (meth : Method) (c : Code) (b L : Nat) (xs : Nat → Int32) : Prop :=
  p.tables.exec = Jvm.exec ∧ c.code = code ∧ meth.sig.returnType = ret ∧ c.maxLocals = 8 ∧ s.vm.findClass R_law = some m.cls ∧ (∀ w ∈ lw_tbl, w.before #[Value.ref b] s = true) ∧ va_X b L xs s s.heap ∧ b < s.heap.size ∧ meth.locks = false ∧ (Jvm.Cond.and given_1 narrow_1).before #[Value.ref b] s = true
theorem x_arr {s : State} {args : Array Value} {ty : FieldType} (h : (Cond.arrayClass ty).before args s = true) (hp : va_RA = va_RA) : ∃ cA, s.vm.findClass ("[" ++ ty.toString) = some cA ∧ ArrOfT s cA ty := by
  obtain ⟨cA, kA, comp, h1, h2, h3⟩ := Cond.arrayClass_spec h
  exact ⟨cA, h1, fun n z => ⟨fun k h => (by cases h), kA, h2, comp, h3⟩⟩
set_option maxHeartbeats 4000000 in
set_option maxRecDepth 100000 in
theorem x_start {s : State} {b : Nat} (hts0 : ∀ w ∈ lw_tbl, w.before #[Value.ref b] s = true) (hgv : (Jvm.Cond.and given_1 narrow_1).before #[Value.ref b] s = true) : ∃ (D : va_G) (ax : Nat → ClassId), xk D ax s := by
  have hts : ∀ w ∈ lw_gd, w.before #[Value.ref b] s = true := fun w hw => hts0 w (List.mem_filter.mp hw).1
  obtain ⟨k0, iS0, hKn0⟩ := u_known (C := R_Bounds) (T := F_Bounds) (N := 4) (n := 4) hts i_Bounds (hts _ wd_153)
  obtain ⟨k1, iS1, hKn1⟩ := u_known (C := R_Findings) (T := F_Findings) (N := 4) (n := 4) hts i_Findings (hts _ wd_209)
  obtain ⟨k2, iS2, hKn2⟩ := u_known (C := R_Listing) (T := F_Listing) (N := 17) (n := 17) hts i_Listing (hts _ wd_260)
  obtain ⟨k3, iS3, hKn3⟩ := u_known (C := R_Maker) (T := F_Maker) (N := 5) (n := 5) hts i_Maker (hts _ wd_92)
  obtain ⟨k4, iS4, hKn4⟩ := u_known (C := R_Nodes) (T := F_Nodes) (N := 4) (n := 4) hts i_Nodes (hts _ wd_98)
  obtain ⟨k5, iS5, hKn5⟩ := u_known (C := R_Paper) (T := F_Paper) (N := 2) (n := 2) hts i_Paper (hts _ wd_231)
  obtain ⟨k6, iS6, hKn6⟩ := u_known (C := R_Prover) (T := F_Prover) (N := 9) (n := 9) hts i_Prover (hts _ wd_147)
  obtain ⟨k7, iS7, hKn7⟩ := u_known (C := R_Reader) (T := F_Reader) (N := 5) (n := 5) hts i_Reader (hts _ wd_70)
  obtain ⟨k8, iS8, hKn8⟩ := u_known (C := R_Runner) (T := F_Runner) (N := 1) (n := 1) hts i_Runner (hts _ wd_246)
  obtain ⟨k9, iS9, hKn9⟩ := u_known (C := R_Tokens) (T := F_Tokens) (N := 8) (n := 8) hts i_Tokens (hts _ wd_35)
  obtain ⟨k10, iS10, hKn10⟩ := u_known (C := R_Desk) (T := F_Desk) (N := 13) (n := 13) hts i_Desk (hts _ wd_27)
  obtain ⟨k11, iS11, hKn11⟩ := u_known (C := R_Model) (T := F_Model) (N := 72) (n := 72) hts i_Model (hts _ wd_1026)
  obtain ⟨dC, dI, hKc⟩ : ∃ (dC : Nat → ClassId) (dI : Nat → Nat → Nat), ∀ (k : Nat) (q : vw_C), classes[k]? = some q → u_Kn s q.1 q.2.1 q.2.2 (dC k) (dI k) := by
    refine ⟨fun k => match k with | 0 => k0 | 1 => k1 | 2 => k2 | 3 => k3 | 4 => k4 | 5 => k5 | 6 => k6 | 7 => k7 | 8 => k8 | 9 => k9 | 10 => k10 | _ => k11, fun k => match k with | 0 => iS0 | 1 => iS1 | 2 => iS2 | 3 => iS3 | 4 => iS4 | 5 => iS5 | 6 => iS6 | 7 => iS7 | 8 => iS8 | 9 => iS9 | 10 => iS10 | _ => iS11, ?_⟩
    intro k q hq
    match k, hq with
    | 0, hq => cases hq; exact hKn0
    | 1, hq => cases hq; exact hKn1
    | 2, hq => cases hq; exact hKn2
    | 3, hq => cases hq; exact hKn3
    | 4, hq => cases hq; exact hKn4
    | 5, hq => cases hq; exact hKn5
    | 6, hq => cases hq; exact hKn6
    | 7, hq => cases hq; exact hKn7
    | 8, hq => cases hq; exact hKn8
    | 9, hq => cases hq; exact hKn9
    | 10, hq => cases hq; exact hKn10
    | 11, hq => cases hq; exact hKn11
    | k + 12, hq => simp [classes] at hq
  obtain ⟨a0, f0, g0⟩ := x_arr (hts _ wd_68) rfl
  obtain ⟨a1, f1, g1⟩ := x_arr (hts _ wd_67) rfl
  obtain ⟨a2, f2, g2⟩ := x_arr (hts _ wd_207) rfl
  obtain ⟨a3, f3, g3⟩ := x_arr (hts _ wd_1253) rfl
  obtain ⟨a4, f4, g4⟩ := x_arr (hts _ wd_256) rfl
  have hs := flat_of_before _ hgv
  refine ⟨(dC, dI), fun k => match k with | 0 => a0 | 1 => a1 | 2 => a2 | 3 => a3 | _ => a4, ⟨hKc, ?_⟩, ⟨f0, f1, f2, f3, f4⟩, ?_, ?_, ?_, ?_, ?_⟩
  · intro k q hq
    match k, hq with
    | 0, hq => cases hq; exact ⟨g0, f0⟩
    | 1, hq => cases hq; exact ⟨g1, f1⟩
    | 2, hq => cases hq; exact ⟨g2, f2⟩
    | 3, hq => cases hq; exact ⟨g3, f3⟩
    | 4, hq => cases hq; exact ⟨g4, f4⟩
    | k + 5, hq => simp [tyl] at hq
  · intro w hw
    have h1 : ∀ w ∈ xk_n, w ∈ lw_tbl ∧ w.onTables = true := by decide +kernel
    exact va_tabs (h1 w hw).2 rfl (hts0 w (h1 w hw).1)
  · intro w hw
    have h1 : ∀ w ∈ xk_c, w ∈ lw_tbl ∧ w.onTables = true := by decide +kernel
    exact va_tabs (h1 w hw).2 rfl (hts0 w (h1 w hw).1)
  · intro w hw
    have h1 : ∀ w ∈ xk_d, w ∈ lw_tbl ∧ w.onTables = true := by decide +kernel
    exact va_tabs (h1 w hw).2 rfl (hts0 w (h1 w hw).1)
  · have h1 : Cond.laysStatic "java/lang/Throwable" "UNASSIGNED_STACK" "[Ljava/lang/StackTraceElement;" ∈ lw_tbl := by decide +kernel
    have h2 : (Cond.isRef (.static "java/lang/Throwable" "UNASSIGNED_STACK" "[Ljava/lang/StackTraceElement;")).before #[Value.ref b] s = true := hs _ (by decide +kernel)
    exact ⟨hts0 _ h1, h2⟩
  · have h1 : Cond.laysStatic "java/lang/Throwable" "SUPPRESSED_SENTINEL" "Ljava/util/List;" ∈ lw_tbl := by decide +kernel
    have h2 : (Cond.isRef (.static "java/lang/Throwable" "SUPPRESSED_SENTINEL" "Ljava/util/List;")).before #[Value.ref b] s = true := hs _ (by decide +kernel)
    exact ⟨hts0 _ h1, h2⟩
theorem x_fl {l : Launch} (h : l.flags = flags0) : l.stackTraces = false := by
  unfold Launch.stackTraces
  rw [h]
  decide +kernel
theorem x_nc1 {a b : String} {args : Array Value} {s : State} (h : (Cond.not (Cond.castable a b)).before args s = true) : xt_nc a b s := by
  intro x y h1 h2
  simp [Cond.before, Cond.holds, Cond.value, h1, h2] at h
  exact h
theorem x_nc {s : State} {b : Nat} (hgv : (Jvm.Cond.and given_1 narrow_1).before #[Value.ref b] s = true) : xnc s := by
  have hs := flat_of_before _ hgv
  exact ⟨x_nc1 (hs (.not (.castable "java/lang/IndexOutOfBoundsException" "java/lang/IllegalStateException")) (by decide +kernel)), x_nc1 (hs (.not (.castable "java/lang/IllegalArgumentException" "java/lang/IllegalStateException")) (by decide +kernel))⟩
def xtm (i : Nat) : Term := .string "TripleDesk$Tokens" (xsi.getD i 0)
set_option maxHeartbeats 4000000 in
set_option maxRecDepth 100000 in
theorem x_strs {s : State} {b : Nat} (hts0 : ∀ w ∈ lw_tbl, w.before #[Value.ref b] s = true) (hgv : (Jvm.Cond.and given_1 narrow_1).before #[Value.ref b] s = true) : ∃ (ad av : Nat → Nat) (fm : Nat), xsr ad av fm (fun q : Nat => s.heap.size ≤ q) s s.heap := by
  have hs := flat_of_before _ hgv
  have hA : ∀ a : Nat, a < s.heap.size → ¬ (fun q : Nat => s.heap.size ≤ q) a := fun a h => Nat.not_le.mpr h
  obtain ⟨ad, av, hS, hE⟩ := vk_Sof (N := 11) (tm := xtm) (len := xsl) (byt := xsb) (args := #[Value.ref b]) (s := s) (A := fun q : Nat => s.heap.size ≤ q)
    (fun i hi => (by decide : ∀ i, i < 11 → xsl.getD i 0 < 2 ^ 31) i hi)
    (fun i hi => hs _ ((by decide +kernel : ∀ i, i < 11 → Cond.exactly (xtm i) "java/lang/String" ∈ flatC (Jvm.Cond.and given_1 narrow_1)) i hi))
    (fun i hi => hs _ ((by decide +kernel : ∀ i, i < 11 → Cond.eq (.field (xtm i) "java/lang/String" "coder" "B") (.int 0) ∈ flatC (Jvm.Cond.and given_1 narrow_1)) i hi))
    (fun i hi => hs _ ((by decide +kernel : ∀ i, i < 11 → Cond.arrayOf (.field (xtm i) "java/lang/String" "value" "[B") .byte ∈ flatC (Jvm.Cond.and given_1 narrow_1)) i hi))
    (fun i hi => hs _ ((by decide +kernel : ∀ i, i < 11 → Cond.eq (.length (.field (xtm i) "java/lang/String" "value" "[B")) (.int (Int32.ofNat (xsl.getD i 0))) ∈ flatC (Jvm.Cond.and given_1 narrow_1)) i hi))
    (fun i hi j hj => hs _ ((by decide +kernel : ∀ i, i < 11 → ∀ j, j < xsl.getD i 0 → Cond.eq (.elem (.field (xtm i) "java/lang/String" "value" "[B") (.int (Int32.ofNat j))) (.int ((xsb.getD i []).getD j 0)) ∈ flatC (Jvm.Cond.and given_1 narrow_1)) i hi j hj))
    (fun i j hi hj hij => ((by decide +kernel : ∀ i, i < 11 → ∀ j, j < 11 → i ≠ j → (Cond.not (Cond.eq (xtm i) (xtm j)) ∈ flatC (Jvm.Cond.and given_1 narrow_1) ∨ Cond.not (Cond.eq (xtm j) (xtm i)) ∈ flatC (Jvm.Cond.and given_1 narrow_1))) i hi j hj hij).imp (hs _) (hs _)) hA
  have hR : ∀ i, i < 11 → vk_R "TripleDesk$Tokens" (xsi.getD i 0) (xst.getD i "") (ad i) s := fun i hi => vk_R.of (hts0 _ ((by decide +kernel : ∀ i, i < 11 → Cond.stringRef "TripleDesk$Tokens" (xsi.getD i 0) (xst.getD i "") ∈ lw_tbl) i hi)) (hE i hi)
  have h1 : Cond.laysStatic "java/lang/String" "COMPACT_STRINGS" "Z" ∈ lw_tbl := by decide +kernel
  have h2 : Cond.initialized "java/lang/String" ∈ lw_tbl := by decide +kernel
  have hZ1 := va_Zof (A := fun q : Nat => s.heap.size ≤ q) (hts0 _ h1) (hts0 _ h2) (va_eqt (hs (.eq (.static "java/lang/String" "COMPACT_STRINGS" "Z") (.int 1)) (by decide +kernel))) hA
  have h3 : Cond.laysStatic "jdk/internal/util/Preconditions" "SIOOBE_FORMATTER" "Ljava/util/function/BiFunction;" ∈ lw_tbl := by decide +kernel
  have h4 : Cond.initialized "jdk/internal/util/Preconditions" ∈ lw_tbl := by decide +kernel
  rcases va_Zqof (A := fun q : Nat => s.heap.size ≤ q) (hts0 _ h3) (hts0 _ h4) (hs (.isRef (.static "jdk/internal/util/Preconditions" "SIOOBE_FORMATTER" "Ljava/util/function/BiFunction;")) (by decide +kernel)) hA with hZ | ⟨t, hZ⟩
  · exact ⟨ad, av, 0, hS, hR, hZ1, Or.inr hZ⟩
  · exact ⟨ad, av, t, hS, hR, hZ1, Or.inl hZ⟩
theorem mdq.fmk {x y : Int32} {z : Nat} {fo fl fr : Nat → Int32} (h : mdq x y) (k : fmk y z fo fl fr) : fmk x z fo fl fr := by
  rcases h with h | h
  · rw [h]; exact k
  · intro q; exact absurd h q
theorem lw_len {L a : Nat} (hL : L ≤ 2048) (ha : a ≤ 2048) : (Int32.ofNat L - 4 < nI a) ↔ L < a + 4 := by
  have e4 : (4 : Int32).toInt = 4 := by decide
  have eL : (Int32.ofNat L).toInt = L := Int32.toInt_ofNat_of_lt (by omega)
  have ea : (nI a).toInt = a := nI_toInt (by omega)
  rw [Int32.lt_iff_toInt_lt, Int32.toInt_sub, eL, e4, ea]
  rw [Int.bmod_eq_of_le (by omega) (by omega)]
  omega
