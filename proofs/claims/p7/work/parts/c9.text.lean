theorem lsi_cpy {f : Nat → Int32} {n k : Nat} (h : n ≤ k) : lsi (cpy9 f k) n = lsi f n := lsi_congr n (fun j hj => if_pos (by omega))
theorem shr4 (x : Int32) : (x >>> (nI 4 &&& 31)).toInt = x.toInt / 16 := by
  show (x >>> (nI 4 &&& 31)).toBitVec.toInt = x.toBitVec.toInt / 16
  have e : ((nI 4 &&& 31).toBitVec.smod 32).toNat = 4 := nb_sh 4 (by decide)
  rw [Int32.toBitVec_shiftRight, BitVec.sshiftRight_eq', e, BitVec.toInt_sshiftRight, Int.shiftRight_eq_div_pow]
  rfl
theorem tmI_toInt {t : Nat × Int32} (h : t.1 < 16) (hb : abI t.2 < 10000000) : (tmI t).toInt = 16 * t.2.toInt + t.1 := by
  have e : tmI t = nI 16 * t.2 + nI t.1 := by
    unfold tmI
    rw [← nI_add, ← pk_mul, nI_i2n]
  unfold abI at hb
  have e1 : (((16 : Nat) : Int) * t.2.toInt).bmod (2 ^ 32) = ((16 : Nat) : Int) * t.2.toInt := Int.bmod_eq_of_le (by omega) (by omega)
  rw [e, Int32.toInt_add, Int32.toInt_mul, nI_toInt (by omega), nI_toInt (by omega), e1, Int.bmod_eq_of_le (by omega) (by omega)]
  rfl
theorem tmI_shr {t : Nat × Int32} (h : t.1 < 16) (hb : abI t.2 < 10000000) : tmI t >>> (nI 4 &&& 31) = t.2 := by
  apply Int32.toInt_inj.mp
  rw [shr4, tmI_toInt h hb]
  omega
theorem tmI_mod {t : Nat × Int32} (h : t.1 < 16) : i2n (tmI t) % 16 = t.1 := by
  rw [i2n_tm]
  omega
/-- a number that is written -/
def wnQ (x : Int32) (ot : Nat → Int32) (os : Nat) (ot1 : Nat → Int32) (os1 : Nat) : Prop := abI x < 10000000 → lsi ot1 os1 = lsi ot os ++ (sgT9 x ++ nuT x)
def wnJ (x : Int32) (ot : Nat → Int32) (os : Nat) (ot1 : Nat → Int32) (os1 d : Nat) : Prop := abI x < 10000000 → lsi ot1 os1 ++ dgs (abI x) (min d (ndg (abI x))) = lsi ot os ++ (sgT9 x ++ nuT x)
theorem ndg_le {v : Nat} : 1 ≤ ndg v ∧ ndg v ≤ 7 := by
  unfold ndg
  split
  · omega
  · split
    · omega
    · split
      · omega
      · split
        · omega
        · split
          · omega
          · split <;> omega
theorem ndg_gt {v d : Nat} (hd : d ≤ 6) : d < ndg v ↔ (d = 0 ∨ 10 ^ d ≤ v) := by
  have hk : d = 0 ∨ d = 1 ∨ d = 2 ∨ d = 3 ∨ d = 4 ∨ d = 5 ∨ d = 6 := by omega
  have h1 : v < 10 → ndg v = 1 := fun h => if_pos h
  have h2 : ¬ v < 10 → v < 100 → ndg v = 2 := fun a h => (if_neg a).trans (if_pos h)
  have h3 : ¬ v < 100 → v < 1000 → ndg v = 3 := fun a h => (if_neg (by omega)).trans ((if_neg a).trans (if_pos h))
  have h4 : ¬ v < 1000 → v < 10000 → ndg v = 4 := fun a h => (if_neg (by omega)).trans ((if_neg (by omega)).trans ((if_neg a).trans (if_pos h)))
  have h5 : ¬ v < 10000 → v < 100000 → ndg v = 5 := fun a h => (if_neg (by omega)).trans ((if_neg (by omega)).trans ((if_neg (by omega)).trans ((if_neg a).trans (if_pos h))))
  have h6 : ¬ v < 100000 → v < 1000000 → ndg v = 6 := fun a h => (if_neg (by omega)).trans ((if_neg (by omega)).trans ((if_neg (by omega)).trans ((if_neg (by omega)).trans ((if_neg a).trans (if_pos h)))))
  have h7 : ¬ v < 1000000 → ndg v = 7 := fun a => (if_neg (by omega)).trans ((if_neg (by omega)).trans ((if_neg (by omega)).trans ((if_neg (by omega)).trans ((if_neg (by omega)).trans (if_neg a)))))
  rcases hk with rfl | rfl | rfl | rfl | rfl | rfl | rfl
  · rw [show (10 : Nat) ^ 0 = 1 from rfl]; omega
  · rw [show (10 : Nat) ^ 1 = 10 from rfl]; omega
  · rw [show (10 : Nat) ^ 2 = 100 from rfl]; omega
  · rw [show (10 : Nat) ^ 3 = 1000 from rfl]; omega
  · rw [show (10 : Nat) ^ 4 = 10000 from rfl]; omega
  · rw [show (10 : Nat) ^ 5 = 100000 from rfl]; omega
  · rw [show (10 : Nat) ^ 6 = 1000000 from rfl]; omega
section WNQ
variable {x z z1 z2 z3 : Int32} {os os0 os1 os2 d : Nat} {ot ot0 ot1 ot2 : Nat → Int32}
/-- the rest, as a natural number -/
theorem mab (ez : z = if 0 ≤ x then x else 0 - x) (hb : abI x < 10000000) : z = nI (abI x) := by
  by_cases c : 0 ≤ x
  · rw [if_pos c] at ez
    rw [ez]; exact abI_n c
  · rw [if_neg c] at ez
    rw [ez, Int32.zero_sub]
    exact abI_m (nlt c) hb
theorem pwo_1 (h : pwo (d + 1) = 1) : d = 0 := by
  have h' : 10 ^ d = 1 := h
  rcases Nat.eq_zero_or_pos d with q | q
  · exact q
  · have h9 := Nat.pow_le_pow_right (n := 10) (by decide) (show 1 ≤ d from q)
    omega
theorem wnJ_0 (h0 : lsi ot0 os0 = lsi ot os ++ sgT9 x) : wnJ x ot os ot0 os0 7 := fun hb => by
  have h7 := (ndg_le (v := abI x)).2
  rw [Nat.min_eq_right h7, h0, List.append_assoc]; rfl
theorem wnJ_s (hj : wnJ x ot os ot1 os1 (d + 1)) (ez : z = if 0 ≤ x then x else 0 - x) (e1 : z1 = z / nI (pwo (d + 1))) (e2 : z2 = z1 - z1 / 10 * 10) (e3 : z3 = 48 + z2) (hb : lsi ot2 os2 = lsi ot1 os1 ++ [byv z3]) (hc : nI (pwo (d + 1)) ≤ z ∨ d = 0) (hd : d + 1 ≤ 7) : wnJ x ot os ot2 os2 d := fun hv => by
  have em := mab ez hv
  have hp : pwo (d + 1) ≤ 1000000 := Nat.pow_le_pow_right (n := 10) (by decide) (show d ≤ 6 by omega)
  have hz := dg_by e1 e2 e3 em hv (by omega)
  have h9 := hj hv
  have hm : abI x / 10 ^ d % 10 < 10 := Nat.mod_lt _ (by decide)
  have hn : d < ndg (abI x) := (ndg_gt (by omega)).mpr (by
    rcases hc with q | q
    · rw [em, Int32.le_iff_toInt_le, nI_toInt (by omega), nI_toInt (by omega)] at q
      exact Or.inr (show 10 ^ d ≤ abI x from by have q' : ((pwo (d + 1) : Nat) : Int) ≤ (abI x : Int) := q; exact Int.ofNat_le.mp q')
    · exact Or.inl q)
  rw [Nat.min_eq_left (by omega)] at h9
  rw [Nat.min_eq_left (by omega), hb, hz, byv_nat (by omega), List.append_assoc]
  exact h9
theorem wnJ_k (hj : wnJ x ot os ot1 os1 (d + 1)) (ez : z = if 0 ≤ x then x else 0 - x) (hc : z < nI (pwo (d + 1))) (h0 : ¬ pwo (d + 1) = 1) (hd : d + 1 ≤ 7) : wnJ x ot os ot1 os1 d := fun hv => by
  have em := mab ez hv
  have hp : pwo (d + 1) ≤ 1000000 := Nat.pow_le_pow_right (n := 10) (by decide) (show d ≤ 6 by omega)
  have h9 := hj hv
  have hn : ¬ d < ndg (abI x) := fun q => by
    rcases (ndg_gt (by omega)).mp q with q | q
    · subst q; exact h0 rfl
    · rw [em, Int32.lt_iff_toInt_lt, nI_toInt (by omega), nI_toInt (by omega)] at hc
      have q' : pwo (d + 1) ≤ abI x := q
      omega
  rw [Nat.min_eq_right (by omega)] at h9
  rw [Nat.min_eq_right (by omega)]
  exact h9
theorem wnJ_e (hj : wnJ x ot os ot1 os1 d) (hd : d = 0) : wnQ x ot os ot1 os1 := fun hv => by
  have h9 := hj hv
  rw [hd, Nat.zero_min] at h9
  exact (List.append_nil _).symm.trans h9
end WNQ
/-- a term that is written -/
def wtQ (x : Int32) (ot : Nat → Int32) (os : Nat) (ot1 : Nat → Int32) (os1 : Nat) : Prop := ∀ t : Nat × Int32, t.1 ≤ 10 → abI t.2 < 10000000 → x = tmI t → lsi ot1 os1 = lsi ot os ++ trT t
section WTQ
variable {x n : Int32} {os os1 os2 os3 y : Nat} {ot ot1 ot2 ot3 : Nat → Int32}
theorem wt_t {t : Nat × Int32} (en : n = x >>> (4 &&& 31)) (h1 : t.1 ≤ 10) (h2 : abI t.2 < 10000000) (e : x = tmI t) : n = t.2 ∧ i2n x % 16 = t.1 := by
  subst e
  exact ⟨en.trans (tmI_shr (by omega) h2), tmI_mod (by omega)⟩
theorem wt_m (en : n = x >>> (4 &&& 31)) (hy : i2n x % 16 = 10) (hN : wnQ n ot os ot1 os1) : wtQ x ot os ot1 os1 := fun t h1 h2 e => by
  obtain ⟨a, b⟩ := wt_t en h1 h2 e
  subst a
  have et : trT t = sgT9 t.2 ++ nuT t.2 := if_pos (b.symm.trans hy)
  rw [hN h2, et]
theorem wt_n (en : n = x >>> (4 &&& 31)) (hy : ¬ i2n x % 16 = 10) (h2' : i2n x % 16 < 10 → lsi ot2 os2 = lsi ot os ++ nmT (i2n x % 16) ++ plT n) (hN : wnQ n ot2 os2 ot3 os3) (h0 : ¬ n = 0) : wtQ x ot os ot3 os3 := fun t h1 h2 e => by
  obtain ⟨a, b⟩ := wt_t en h1 h2 e
  subst a
  rw [b] at hy h2'
  have et : trT t = nmT t.1 ++ (plT t.2 ++ (sgT9 t.2 ++ nuT t.2)) := (if_neg hy).trans (congrArg (fun q => nmT t.1 ++ q) (if_neg h0))
  rw [hN h2, h2' (by omega), et]
  simp only [List.append_assoc]
theorem wt_z (en : n = x >>> (4 &&& 31)) (hy : ¬ i2n x % 16 = 10) (h2' : i2n x % 16 < 10 → lsi ot2 os2 = lsi ot os ++ nmT (i2n x % 16) ++ plT n) (h0 : n = 0) : wtQ x ot os ot2 os2 := fun t h1 h2 e => by
  obtain ⟨a, b⟩ := wt_t en h1 h2 e
  rw [b] at hy h2'
  have e0 : t.2 = 0 := a.symm.trans h0
  have et : trT t = nmT t.1 ++ [] := (if_neg hy).trans (congrArg (fun q => nmT t.1 ++ q) (if_pos e0))
  have e1 : plT n = [] := by
    rw [h0]
    exact if_neg (by decide)
  rw [h2' (by omega), et, e1, List.append_assoc]
theorem wt_1 (h : lsi ot1 os1 = lsi ot os ++ [byv (nI (97 + y))]) (hy : y < 6) : y < 10 → lsi ot1 os1 = lsi ot os ++ nmT y := fun _ => by
  rw [h, byv_nat (by omega), nmT_l hy]
theorem wt_2 (h : lsi ot1 os1 = lsi ot os ++ [byv (nI (119 + y - 6))]) (hy : 6 ≤ y) : y < 10 → lsi ot1 os1 = lsi ot os ++ nmT y := fun q => by
  rw [h, byv_nat (by omega), nmT_g hy]
end WTQ
theorem byv_c : byv 45 = 45 ∧ byv 43 = 43 ∧ byv 61 = 61 ∧ byv 35 = 35 ∧ byv 60 = 60 ∧ byv 62 = 62 ∧ byv 33 = 33 ∧ byv 40 = 40 ∧ byv 41 = 41 ∧ byv 38 = 38 ∧ byv 124 = 124 := by decide
/-- a comparison that is written -/
def cm8 (q : Nat) : Int32 := if q = 0 ∨ q = 2 then 60 else 62
section WCQ
variable {ot ot1 ot2 : Nat → Int32} {os os1 os2 q : Nat}
theorem cm8_y (h : q = 0 ∨ q = 2) : cm8 q = 60 := if_pos h
theorem cm8_n (h : ¬ (q = 0 ∨ q = 2)) : cm8 q = 62 := if_neg h
theorem wc_4 (h : lsi ot1 os1 = lsi ot os ++ [byv 61]) (hq : q = 4) : lsi ot1 os1 = lsi ot os ++ cmT q := by
  subst hq
  rw [h, byv_c.2.2.1]; rfl
theorem wc_5 (h : lsi ot1 os1 = lsi ot os ++ [byv 35]) (hq : q = 5) : lsi ot1 os1 = lsi ot os ++ cmT q := by
  subst hq
  rw [h, byv_c.2.2.2.1]; rfl
theorem wc_e (h1 : lsi ot1 os1 = lsi ot os ++ [cm8 q]) (h2 : lsi ot2 os2 = lsi ot1 os1 ++ [byv 61]) (hq : q = 1 ∨ q = 2) : lsi ot2 os2 = lsi ot os ++ cmT q := by
  rw [h2, h1, byv_c.2.2.1, List.append_assoc]
  rcases hq with rfl | rfl <;> rfl
theorem wc_n (h1 : lsi ot1 os1 = lsi ot os ++ [cm8 q]) (hq : q = 0 ∨ q = 3) : lsi ot1 os1 = lsi ot os ++ cmT q := by
  rw [h1]
  rcases hq with rfl | rfl <;> rfl
end WCQ
theorem dpo_pos {o : Nat → Nat} {k : Nat} : 1 ≤ dpo o k := by
  show 1 ≤ (if o k < 6 ∨ k = 0 then 1 else if o k = 6 then 1 + dpF o k (k - 1) else 1 + max (dpF o k (k - 1)) (dpF o k (k - 1 - szo o (k - 1))))
  split
  · exact Nat.le_refl 1
  · split <;> omega
theorem dpl_pos {l : List sgT} {k : Nat} : 1 ≤ dpl l k := dpo_pos
theorem nIj {a b : Nat} (h : nI a = nI b) (ha : a < 2 ^ 31) (hb : b < 2 ^ 31) : a = b := (nI_eq ha hb).mp h
section WNO
variable {fo fl fr : Nat → Int32} {l : List sgT} {nd o9 a9 c9 dp N : Nat} {ot b1 b2 b3 b4 b5 : Nat → Int32} {os z1 z2 z3 z4 z5 : Nat} {c : Int32}
theorem opn9 (h : ndl fo fl fr l) (hb : nbl N l) (hk : nd < l.length) (ho : o9 ≤ 8) (e : fo nd = nI o9) : (ath l nd).1 = o9 := by
  have h1 := (h nd hk).1
  have h2 := (hb _ (ath_mem hk)).1
  rw [e] at h1
  exact (nIj h1 (by omega) (by omega)).symm
theorem pr_n (h : ndl fo fl fr l) (hk : nd < l.length) (hop : (ath l nd).1 = o9) (h6 : o9 = 6) (ha : a9 < nd) (hb : nd < 2 ^ 31) (ea : fl nd = nI a9) : a9 = nd - 1 := by
  have e := (h nd hk).2.2.1 (by omega)
  rw [ea] at e
  exact nIj e (by omega) (by omega)
theorem pr_b (h : ndl fo fl fr l) (hk : nd < l.length) (hop : (ath l nd).1 = o9) (h7 : 7 ≤ o9) (ha : a9 < nd) (hd : c9 < nd) (hb : nd < 2 ^ 31) (ea : fl nd = nI a9) (ed : fr nd = nI c9) : a9 = nd - 1 - szl l (nd - 1) ∧ c9 = nd - 1 := by
  have e := (h nd hk).2.2.2 (by omega)
  rw [ea, ed] at e
  exact ⟨nIj e.1 (by omega) (by omega), nIj e.2 (by omega) (by omega)⟩
theorem dp_n (hop : (ath l nd).1 = o9) (h6 : o9 = 6) (h0 : 1 ≤ nd) (ea : a9 = nd - 1) (h : dpl l nd + dp ≤ 64) : dpl l a9 + (dp + 1) ≤ 64 := by
  have e : dpl l nd = 1 + dpl l (nd - 1) := dpo_n (show (ath l nd).1 = 6 by omega) h0
  rw [ea]; omega
theorem dp_b (hop : (ath l nd).1 = o9) (h7 : 7 ≤ o9) (h0 : 1 ≤ nd) (ea : a9 = nd - 1 - szl l (nd - 1)) (ec : c9 = nd - 1) (h : dpl l nd + dp ≤ 64) : dpl l a9 + (dp + 1) ≤ 64 ∧ dpl l c9 + (dp + 1) ≤ 64 := by
  have e : dpl l nd = 1 + max (dpl l (nd - 1)) (dpl l (nd - 1 - szl l (nd - 1))) := dpo_b (show 7 ≤ (ath l nd).1 by omega) h0
  rw [ea, ec]; omega
theorem wn_a (h : ndl fo fl fr l) (hb : nbl 9999999 l) (hk : nd < l.length) (hop : (ath l nd).1 = o9) (h6 : o9 < 6) (h1 : wtQ (fl nd) ot os b1 z1) (h2 : o9 < 6 → lsi b2 z2 = lsi b1 z1 ++ cmT o9) (h3 : wtQ (fr nd) b2 z2 b3 z3) : lsi b3 z3 = lsi ot os ++ ftx l nd := by
  obtain ⟨e1, e2⟩ := (h nd hk).2.1 (by omega)
  obtain ⟨_, hq⟩ := hb _ (ath_mem hk)
  obtain ⟨q1, q2⟩ := hq (by omega)
  rw [h3 _ q2.1 (by unfold abI; have := q2.2; omega) e2, h2 h6, h1 _ q1.1 (by unfold abI; have := q1.2; omega) e1, ftx_a (by omega)]
  show _ = lsi ot os ++ (trT (ath l nd).2.1 ++ cmT (ath l nd).1 ++ trT (ath l nd).2.2)
  rw [hop]
  simp only [List.append_assoc]
theorem wn_n (hop : (ath l nd).1 = o9) (h6 : o9 = 6) (h0 : 1 ≤ nd) (ea : a9 = nd - 1) (h1 : lsi b1 z1 = lsi ot os ++ [byv 33]) (h2 : lsi b2 z2 = lsi b1 z1 ++ ftx l a9) : lsi b2 z2 = lsi ot os ++ ftx l nd := by
  rw [h2, h1, byv_c.2.2.2.2.2.2.1, ea, ftx_n (by omega) h0, List.append_assoc]; rfl
theorem wn_b (hop : (ath l nd).1 = o9) (h7 : 7 ≤ o9) (h0 : 1 ≤ nd) (ea : a9 = nd - 1 - szl l (nd - 1)) (ec : c9 = nd - 1) (hc : byv c = if o9 = 7 then 38 else 124) (h1 : lsi b1 z1 = lsi ot os ++ [byv 40]) (h2 : lsi b2 z2 = lsi b1 z1 ++ ftx l a9) (h3 : lsi b3 z3 = lsi b2 z2 ++ [byv c]) (h4 : lsi b4 z4 = lsi b3 z3 ++ ftx l c9) (h5 : lsi b5 z5 = lsi b4 z4 ++ [byv 41]) : lsi b5 z5 = lsi ot os ++ ftx l nd := by
  rw [h5, h4, h3, h2, h1, hc, byv_c.2.2.2.2.2.2.2.1, byv_c.2.2.2.2.2.2.2.2.1, ea, ec, ftx_b (by omega) h0, hop]
  simp only [List.append_assoc, List.cons_append, List.nil_append]
theorem by38 (h : o9 = 7) : byv 38 = if o9 = 7 then 38 else 124 := by
  rw [if_pos h]
  exact byv_c.2.2.2.2.2.2.2.2.2.1
theorem by124 (h : ¬ o9 = 7) : byv 124 = if o9 = 7 then 38 else 124 := by
  rw [if_neg h]
  exact byv_c.2.2.2.2.2.2.2.2.2.2
end WNO
