theorem i2n_mod (x : Nat) : i2n (nI x) = x % 4294967296 := by
  unfold i2n
  rw [nb_tb, BitVec.toNat_ofNat]
theorem nI_mod (x : Nat) : nI (x % 4294967296) = nI x := by
  rw [← i2n_mod, nI_i2n]
theorem nI_ans {g : Nat → Nat} {n x y : Nat} (h : ansC g n (x % 4294967296)) (h2 : ansC g n y) : nI x = nI y := by
  rw [← nI_mod, h.det h2]
theorem an_of {g : Nat → Nat} {n : Nat} {tk : Nat → Nat} {cn t1 n1 m1 a1 t2 n2 m2 a2 : Nat} (hkr : tkr g n tk cn) (hkz : tkz tk cn) (h : cnS tk 0 4294967295 0 t1 a1) (hr : rst tk t1 n1 m1 a1 cn) (ha : a1 ≤ cn) (hs : anS t1 a1 n1 t2 a2) (hr2 : rst tk t2 n2 m2 a2 cn) : ansC g n ((t2 + 1) % 4294967296) := by
  have h0 := h.2 rfl
  obtain ⟨_, q2⟩ := rdR_sim (K2 := kd g n) (n2 := nxt g n) (ph := tpo g n) (cn := cn) (fun i hi => (hkr i hi).2.symm) (fun i _ => rfl) (fun i hi => hi) (fun i hi hk => by
    rcases Nat.eq_or_lt_of_le hi with e | e
    · subst e; exact absurd hkz.2.1 hk
    · exact e) (Nat.zero_le _) h0
  have hq : rdR (kd g n) (nxt g n) 0 true (nxB g n 0) [] 0 (ftf t1, tpo g n a1) := q2
  refine ⟨_, hq, ?_⟩
  unfold ans
  by_cases c : t1 = 4294967295
  · have hf : ftf t1 = 0 := by rw [c]; rfl
    have hk : kd g n (tpo g n a1) = n1 := (hkr a1 ha).2.symm.trans (hr.ck c)
    show _ = if ftf t1 = 1 then _ else if kd g n (tpo g n a1) = 0 then _ else _
    rw [hf, if_neg (by decide), hk]
    by_cases c0 : n1 = 0
    · obtain ⟨d1, d2⟩ := (hs.2 c).1 c0
      rw [if_pos c0, d1]
    · obtain ⟨d1, d2⟩ := (hs.2 c).2 c0
      have hp := hr2.plc (ftf_1 d1)
      have hb := (hr2.bad (ftf_1 d1)).1
      rw [d2] at hp
      rw [if_neg c0, ← (hkr a1 ha).1, ← hp]
      omega
  · obtain ⟨d1, d2⟩ := hs.1 c
    have hp := hr.plc c
    have hb := (hr.bad c).1
    show _ = if ftf t1 = 1 then _ else _
    rw [ftf_n c, if_pos rfl, d1, ← (hkr a1 ha).1, ← hp]
    omega
