theorem i2n_mod (x : Nat) : i2n (nI x) = x % 4294967296 := by
  unfold i2n
  rw [nb_tb, BitVec.toNat_ofNat]
theorem nI_mod (x : Nat) : nI (x % 4294967296) = nI x := by
  rw [← i2n_mod, nI_i2n]
theorem tkr.sim {g : Nat → Nat} {n cn : Nat} {tk : Nat → Nat} (hkr : tkr g n tk cn) (hkz : tkz tk cn) : simV (ck tk) nxs (cv tk) (kd g n) (nxt g n) (kv g n) (tpo g n) cn := ⟨fun i hi => (hkr i hi).2.1.symm, fun i _ => rfl, fun i hi => hi, fun i hi hk => by
  rcases Nat.eq_or_lt_of_le hi with e | e
  · subst e; exact absurd hkz.2.1 hk
  · exact e, fun i hi hk => ((hkr i hi).2.2 (by rw [← (hkr i hi).2.1]; exact hk)).symm⟩
theorem nI_anl {g : Nat → Nat} {n x y : Nat} {m m2 : List sgT} (h : ansL g n (x % 4294967296) m) (h2 : ansL g n y m2) : nI x = nI y := by
  rw [← nI_mod, (h.det h2).1]
theorem anl_of {g : Nat → Nat} {n : Nat} {tk : Nat → Nat} {cn t1 n1 m1 a1 t2 n2 m2 a2 : Nat} {m : List sgT} (hkr : tkr g n tk cn) (hkz : tkz tk cn) (h : cng tk 0 4294967295 0 m t1 a1) (hr : rst tk t1 n1 m1 a1 cn) (ha : a1 ≤ cn) (hs : anS t1 a1 n1 t2 a2) (hr2 : rst tk t2 n2 m2 a2 cn) : ansL g n ((t2 + 1) % 4294967296) m := by
  obtain ⟨h0, h9⟩ := h.2 rfl
  obtain ⟨_, q2⟩ := rgR_sim (tkr.sim hkr hkz) (Nat.zero_le _) h0
  have hq : rgR (kd g n) (nxt g n) (kv g n) 0 true (nxB g n 0) [] [] 0 (ftf t1, tpo g n a1, if t1 = 4294967295 then m else []) := q2
  by_cases c : t1 = 4294967295
  · have hf : ftf t1 = 0 := by rw [c]; rfl
    have hk : kd g n (tpo g n a1) = n1 := (hkr a1 ha).2.1.symm.trans (hr.ck c)
    refine ⟨_, hq, ?_, fun _ => if_pos c⟩
    unfold ans
    show _ = if ftf t1 = 1 then _ else if kd g n (tpo g n a1) = 0 then _ else _
    rw [hf, if_neg (by decide), hk]
    by_cases c0 : n1 = 0
    · obtain ⟨d1, d2⟩ := (hs.2 c).1 c0
      rw [if_pos c0, d1]
    · obtain ⟨d1, d2⟩ := (hs.2 c).2 c0
      have hp := hr2.plc (ftf_1 d1)
      have hb := (hr2.bad (ftf_1 d1)).1
      rw [d2] at hp
      rw [if_neg c0, ← (hkr a1 ha).1, ← hp]
      show (t2 + 1) % 4294967296 = t2 + 1
      omega
  · obtain ⟨d1, d2⟩ := hs.1 c
    have hp := hr.plc c
    have hb := (hr.bad c).1
    refine ⟨_, hq, ?_, fun q => by omega⟩
    unfold ans
    show _ = if ftf t1 = 1 then _ else _
    rw [ftf_n c, if_pos rfl, d1, ← (hkr a1 ha).1, ← hp]
    show (t1 + 1) % 4294967296 = t1 + 1
    omega
theorem nI_ansP {g : Nat → Nat} {n x y : Nat} {c d : List itT} (h : ansP g n (x % 4294967296) c) (h2 : ansP g n y d) : nI x = nI y := by
  rw [← nI_mod, (h.det h2).1]
theorem ap_of {g : Nat → Nat} {n : Nat} {tk : Nat → Nat} {cn t1 n1 m1 a1 t2 n2 m2 a2 l1 b1 p1 : Nat} {c1 : List itT} (hkr : tkr g n tk cn) (hkz : tkz tk cn) (h : psS tk 4294967295 0 [] 0 0 0 [] t1 a1 l1 b1 p1 c1) (ho : okf t1 (¬ n1 = 59)) (hr : rst tk t1 n1 m1 a1 cn) (ha : a1 ≤ cn) (hs : anS t1 a1 n1 t2 a2) (hr2 : rst tk t2 n2 m2 a2 cn) : ansP g n ((t2 + 1) % 4294967296) c1 := by
  obtain ⟨q1, q2⟩ := h.2 rfl
  have sim : ∀ {f j : Nat} {m : List itT}, pgR (ck tk) nxs (cv tk) true 0 [] 0 0 0 [] (f, j, m) → j ≤ cn ∧ pgR (kd g n) (nxt g n) (kv g n) true (nxB g n 0) [] 0 0 0 [] (f, tpo g n j, m) := fun hq => pgR_sim (tkr.sim hkr hkz) (Nat.zero_le _) hq
  by_cases c : t1 = 4294967295
  · have hk := hr.ck c
    have hq := q2 c _ (pgR.fin (by rw [hk]; exact ho c))
    by_cases c0 : n1 = 0
    · obtain ⟨d1, d2⟩ := (hs.2 c).1 c0
      rw [if_pos (by rw [hk]; exact c0)] at hq
      refine ⟨_, (sim hq).2, ?_, Or.inr ⟨rfl, rfl⟩⟩
      show _ = if (2 : Nat) = 1 then tpo g n a1 + 1 else 0
      rw [if_neg (by omega), d1]
    · obtain ⟨d1, d2⟩ := (hs.2 c).2 c0
      rw [if_neg (by rw [hk]; exact c0)] at hq
      have hp := hr2.plc (ftf_1 d1)
      have hb := (hr2.bad (ftf_1 d1)).1
      rw [d2] at hp
      refine ⟨_, (sim hq).2, ?_, Or.inl rfl⟩
      show _ = if (1 : Nat) = 1 then tpo g n a1 + 1 else 0
      rw [if_pos rfl, ← (hkr a1 ha).1, ← hp]
      omega
  · obtain ⟨d1, d2⟩ := hs.1 c
    have hp := hr.plc c
    have hb := (hr.bad c).1
    refine ⟨_, (sim (q1 c)).2, ?_, Or.inl rfl⟩
    show _ = if (1 : Nat) = 1 then tpo g n a1 + 1 else 0
    rw [if_pos rfl, d1, ← (hkr a1 ha).1, ← hp]
    omega
