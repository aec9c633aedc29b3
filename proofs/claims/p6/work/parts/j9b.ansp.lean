theorem nI_ansP {g : Nat → Nat} {n x y c d : Nat} (h : ansP g n (x % 4294967296) c) (h2 : ansP g n y d) : nI x = nI y := by
  rw [← nI_mod, (h.det h2).1]
theorem ap_of {g : Nat → Nat} {n : Nat} {tk : Nat → Nat} {cn t1 n1 m1 a1 t2 n2 m2 a2 l1 b1 p1 c1 c0 : Nat} (hkr : tkr g n tk cn) (hkz : tkz tk cn) (hc0 : c0 = 1) (h : psS tk 4294967295 0 [] 0 0 0 c0 t1 a1 l1 b1 p1 c1) (ho : okf t1 (¬ n1 = 59)) (hr : rst tk t1 n1 m1 a1 cn) (ha : a1 ≤ cn) (hs : anS t1 a1 n1 t2 a2) (hr2 : rst tk t2 n2 m2 a2 cn) : ansP g n ((t2 + 1) % 4294967296) c1 := by
  subst hc0
  obtain ⟨q1, q2⟩ := h.2 rfl
  have sim : ∀ {f j : Nat}, pgR (ck tk) nxs true 0 [] 0 0 0 1 (f, j) → j ≤ cn ∧ pgR (kd g n) (nxt g n) true (nxB g n 0) [] 0 0 0 1 (f, tpo g n j) := fun hq => pgR_sim (K2 := kd g n) (n2 := nxt g n) (ph := tpo g n) (cn := cn) (fun i hi => (hkr i hi).2.symm) (fun i _ => rfl) (fun i hi => hi) (fun i hi hk => by
    rcases Nat.eq_or_lt_of_le hi with e | e
    · subst e; exact absurd hkz.2.1 hk
    · exact e) (Nat.zero_le _) hq
  by_cases c : t1 = 4294967295
  · have hk := hr.ck c
    have hq := q2 c _ (pgR.fin (by rw [hk]; exact ho c))
    by_cases c0 : n1 = 0
    · obtain ⟨d1, d2⟩ := (hs.2 c).1 c0
      rw [if_pos (by rw [hk]; exact c0)] at hq
      refine ⟨_, (sim hq).2, ?_, Or.inr rfl⟩
      show _ = if 2 + c1 = 1 then tpo g n a1 + 1 else 0
      rw [if_neg (by omega), d1]
    · obtain ⟨d1, d2⟩ := (hs.2 c).2 c0
      rw [if_neg (by rw [hk]; exact c0)] at hq
      have hp := hr2.plc (ftf_1 d1)
      have hb := (hr2.bad (ftf_1 d1)).1
      rw [d2] at hp
      refine ⟨_, (sim hq).2, ?_, Or.inl rfl⟩
      show _ = if (1 : Nat) = 1 then tpo g n a1 + 1 else 0
      rw [if_pos rfl, ← (hkr a1 ha).1, ← hp]
      omega
  · obtain ⟨d1, d2⟩ := hs.1 c
    have hp := hr.plc c
    have hb := (hr.bad c).1
    refine ⟨_, (sim (q1 c)).2, ?_, Or.inl rfl⟩
    show _ = if (1 : Nat) = 1 then tpo g n a1 + 1 else 0
    rw [if_pos rfl, d1, ← (hkr a1 ha).1, ← hp]
    omega
