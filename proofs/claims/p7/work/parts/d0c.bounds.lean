/-- bit k of a number -/
def bt8 (a : Int32) (k : Nat) : Prop := a.toBitVec.getLsbD k = true
section BT
variable {a b z z1 z2 : Int32} {k t : Nat}
theorem bt8_0 : ¬ bt8 0 k := by
  unfold bt8
  rw [show (0 : Int32).toBitVec = 0#32 from rfl, BitVec.getLsbD_zero]
  decide
theorem bt8_or : bt8 (a ||| b) k ↔ (bt8 a k ∨ bt8 b k) := by
  unfold bt8
  rw [Int32.toBitVec_or, BitVec.getLsbD_or, Bool.or_eq_true]
theorem bt8_sh (ht : t < 11) (hk : k < 11) : bt8 (1 <<< (nI t &&& 31)) k ↔ k = t := by
  have h : ∀ t, t < 11 → ∀ k, k < 11 → ((1 : Int32) <<< (nI t &&& 31)).toBitVec.getLsbD k = decide (k = t) := by decide +kernel
  unfold bt8
  rw [h t ht k hk, decide_eq_true_iff]
theorem bt8_am (k : Nat) (hk : k < 11) : ((nI k &&& 31 : Int32).toBitVec.smod 32#32).toNat = k := (by decide +kernel : ∀ k, k < 11 → ((nI k &&& 31 : Int32).toBitVec.smod 32#32).toNat = k) k hk
theorem bt8_ts (hk : k < 11) (e1 : z1 = a >>> (nI k &&& 31)) (e2 : z2 = z1 &&& 1) : z2 = 0 ↔ ¬ bt8 a k := by
  have ez : z2.toBitVec = (a.toBitVec.sshiftRight k) &&& 1#32 := by
    rw [e2, e1, Int32.toBitVec_and, Int32.toBitVec_shiftRight]
    show a.toBitVec.sshiftRight ((nI k &&& 31 : Int32).toBitVec.smod 32#32).toNat &&& 1#32 = _
    rw [bt8_am k hk]
  have eb : ∀ i, z2.toBitVec.getLsbD i = (decide (i = 0) && a.toBitVec.getLsbD k) := fun i => by
    rw [ez, BitVec.getLsbD_and, BitVec.getLsbD_one, BitVec.getLsbD_sshiftRight]
    by_cases h0 : i = 0
    · subst h0
      rw [Nat.add_zero, if_pos (show k < 32 by omega)]
      simp
    · simp [h0]
  unfold bt8
  constructor
  · intro h q
    have h1 := eb 0
    rw [h, q, show (0 : Int32).toBitVec = 0#32 from rfl, BitVec.getLsbD_zero] at h1
    exact absurd h1 (by decide)
  · intro h
    have hf : a.toBitVec.getLsbD k = false := by
      cases hq : a.toBitVec.getLsbD k with
      | false => rfl
      | true => exact absurd hq h
    apply Int32.toBitVec_inj.mp
    apply BitVec.eq_of_getLsbD_eq
    intro i hi
    rw [eb i, hf, Bool.and_false, show (0 : Int32).toBitVec = 0#32 from rfl, BitVec.getLsbD_zero]
end BT
/-- the class's bounds: that of x and y stands at 11 * y + x -/
def mL8 (mo : Nat → Int32) : Nat → Nat → Int → Prop := fun x y m => x ≤ 10 ∧ y ≤ 10 ∧ ¬ mo (11 * y + x) = 268435456 ∧ (mo (11 * y + x)).toInt = m
theorem mL8_10 {mo : Nat → Int32} : in10 (mL8 mo) := fun _ _ _ h => ⟨h.1, h.2.1⟩
def moW8 (mo : Nat → Int32) : Prop := (∀ k, k ≤ 120 → mo k = 268435456 ∨ (-50000 ≤ (mo k).toInt ∧ (mo k).toInt ≤ 50000)) ∧ ∀ i, i ≤ 10 → mo (12 * i) = 268435456
theorem moW8.b {mo : Nat → Int32} (h : moW8 mo) {x y : Nat} {m : Int} (hm : mL8 mo x y m) : -50000 ≤ m ∧ m ≤ 50000 := by
  obtain ⟨a1, a2, a3, a4⟩ := hm
  rcases h.1 (11 * y + x) (by omega) with q | q
  · exact absurd q a3
  · rw [← a4]; exact q
theorem moW8.ne {mo : Nat → Int32} (h : moW8 mo) {x y : Nat} {m : Int} (hm : mL8 mo x y m) : x ≠ y := fun e => by
  obtain ⟨a1, a2, a3, a4⟩ := hm
  rw [e, show 11 * y + y = 12 * y by omega] at a3
  exact a3 (h.2 y a2)
/-- every bound that there is is among the first bn -/
def bcv8 (mo : Nat → Int32) (bo : Nat → Nat) (bn : Nat) : Prop := ∀ k, k ≤ 120 → ¬ mo k = 268435456 → ∃ i, i < bn ∧ bo i = k
def bcI8 (mo : Nat → Int32) (bo : Nat → Nat) (bn i1 : Nat) : Prop := ∀ k, k ≤ 120 → ¬ mo k = 268435456 → ∃ i, i1 ≤ i ∧ i < bn ∧ bo i = k
section BC
variable {mo : Nat → Int32} {bo : Nat → Nat} {bn i1 : Nat} {c : Int32}
theorem bcI8_0 (h : bcv8 mo bo bn) : bcI8 mo bo bn 0 := fun k hk q => by
  obtain ⟨i, a, b⟩ := h k hk q
  exact ⟨i, Nat.zero_le _, a, b⟩
theorem bcI8.step (h : bcI8 mo bo bn i1) : bcI8 (upd mo (bo i1) 268435456) bo bn (i1 + 1) := fun k hk q => by
  by_cases e : k = bo i1
  · subst e
    rw [upd_eq] at q
    exact absurd rfl q
  · rw [upd_ne e] at q
    obtain ⟨i, a, b, d⟩ := h k hk q
    refine ⟨i, ?_, b, d⟩
    rcases Nat.eq_or_lt_of_le a with q2 | q2
    · rw [← q2] at d; exact absurd d.symm e
    · exact q2
theorem bcI8.fin (h : bcI8 mo bo bn i1) (hi : bn ≤ i1) : ∀ k, k ≤ 120 → mo k = 268435456 := fun k hk => Classical.byContradiction (fun q => by
  obtain ⟨i, a, b, d⟩ := h k hk q
  omega)
theorem bcv8_0 (h : ∀ k, k ≤ 120 → mo k = 268435456) : bcv8 mo bo bn := fun k hk q => absurd (h k hk) q
theorem moW8_0 (h : ∀ k, k ≤ 120 → mo k = 268435456) : moW8 mo := ⟨fun k hk => Or.inl (h k hk), fun i hi => h _ (by omega)⟩
theorem bcv8.nw (h : bcv8 mo bo bn) {k : Nat} : bcv8 (upd mo k c) (sup bo bn k) (bn + 1) := fun j hj q => by
  by_cases e : j = k
  · subst e
    exact ⟨bn, Nat.lt_succ_self _, sup_eq⟩
  · rw [upd_ne e] at q
    obtain ⟨i, a, b⟩ := h j hj q
    exact ⟨i, by omega, by rw [sup_ne (by omega)]; exact b⟩
theorem bcv8.od (h : bcv8 mo bo bn) {k : Nat} (hk : k ≤ 120) (hn : ¬ mo k = 268435456) : bcv8 (upd mo k c) bo bn := fun j hj q => by
  by_cases e : j = k
  · subst e; exact h j hj hn
  · rw [upd_ne e] at q
    exact h j hj q
theorem moW8.up (h : moW8 mo) {x y : Nat} (hx : x ≤ 10) (hy : y ≤ 10) (hn : ¬ x = y) (hc : -50000 ≤ c.toInt ∧ c.toInt ≤ 50000) : moW8 (upd mo (11 * y + x) c) := by
  refine ⟨fun k hk => ?_, fun i hi => ?_⟩
  · by_cases e : k = 11 * y + x
    · subst e; rw [upd_eq]; exact Or.inr hc
    · rw [upd_ne e]; exact h.1 k hk
  · rw [upd_ne (by omega)]; exact h.2 i hi
/-- all are free: nothing is asked -/
theorem mL8_free (h : ∀ k, k ≤ 120 → mo k = 268435456) (v : Nat → Int) : sol8 (mL8 mo) v ↔ npo8 v := ⟨fun q => q.1, fun q => ⟨q, fun x y m hm => absurd (h _ (by have := hm.1; have := hm.2.1; omega)) hm.2.2.1⟩⟩
theorem grt8_free (h : ∀ k, k ≤ 120 → mo k = 268435456) {lv : Nat → Int32} (hl : ∀ i, i ≤ 10 → lv i = 0) : grt8 (sol8 (mL8 mo)) (lI8 lv) := by
  have e : ∀ i, i ≤ 10 → lI8 lv i = 0 := fun i hi => by
    show (lv i).toInt = 0
    rw [hl i hi]; decide
  refine ⟨(mL8_free h _).mpr (fun i hi => by rw [e i hi]; exact Int.le_refl _), fun v hv i hi => ?_⟩
  rw [e i hi]; exact hv.1 i hi
end BC
/-- within lowerFrom q: points below t1 are done -/
def lwI8 (mo lv : Nat → Int32) (q t : Nat) (lo : Int32) (lv1 : Nat → Int32) : Prop := (∀ i, i ≤ 10 → t ≤ i → lv1 i = lv i) ∧ lv1 q = lv q ∧ (∀ i, i ≤ 10 → (lv1 i = lv i ∧ ¬ bt8 lo i) ∨ (lI8 lv1 i < lI8 lv i ∧ bt8 lo i ∧ ¬ mo (11 * q + i) = 268435456 ∧ lI8 lv1 i = lI8 lv q + (mo (11 * q + i)).toInt)) ∧ (∀ i, i ≤ 10 → i < t → ¬ mo (11 * q + i) = 268435456 → lI8 lv1 i ≤ lI8 lv q + (mo (11 * q + i)).toInt) ∧ (lo = 0 ∨ ∃ i, i ≤ 10 ∧ bt8 lo i)
section LW
variable {mo lv lv1 : Nat → Int32} {q t n : Nat} {lo z z1 z2 : Int32}
theorem lwI8_0 : lwI8 mo lv q 0 0 lv := ⟨fun _ _ _ => rfl, rfl, fun i _ => Or.inl ⟨rfl, bt8_0⟩, fun i _ h => absurd h (Nat.not_lt_zero _), Or.inl rfl⟩
theorem lw_sum (hW : moW8 mo) (hq : q ≤ 10) (ht : t ≤ 10) (hl : lo8 lv n) (hn : n ≤ 2000) (h0 : npo8 (lI8 lv)) (h : lwI8 mo lv q t lo lv1) (ez : z = lv1 q + mo (11 * q + t)) : z.toInt = lI8 lv q + (mo (11 * q + t)).toInt := by
  have a1 := hl q hq
  have a2 : (lv q).toInt ≤ 0 := h0 q hq
  rw [ez, h.2.1]
  rcases hW.1 (11 * q + t) (by omega) with w | ⟨w1, w2⟩
  · rw [w, i32_add (by omega) (by omega) (by decide) (by decide)]; rfl
  · rw [i32_add (by omega) (by omega) (by omega) (by omega)]; rfl
theorem lwI8_n (hW : moW8 mo) (hq : q ≤ 10) (ht : t ≤ 10) (hl : lo8 lv n) (hn : n ≤ 2000) (h0 : npo8 (lI8 lv)) (h : lwI8 mo lv q t lo lv1) (ez : z = lv1 q + mo (11 * q + t)) (hz : ¬ z < lv1 t) : lwI8 mo lv q (t + 1) lo lv1 := by
  have e := lw_sum hW hq ht hl hn h0 h ez
  rw [Int32.lt_iff_toInt_lt] at hz
  have hz2 : ¬ z.toInt < lI8 lv1 t := hz
  obtain ⟨a1, a2, a3, a4, a5⟩ := h
  refine ⟨fun i hi hti => a1 i hi (by omega), a2, a3, fun i hi hti hf => ?_, a5⟩
  by_cases e9 : i = t
  · subst e9; omega
  · exact a4 i hi (by omega) hf
theorem lwI8_y (hW : moW8 mo) (hq : q ≤ 10) (ht : t ≤ 10) (hl : lo8 lv n) (hn : n ≤ 2000) (h0 : npo8 (lI8 lv)) (h : lwI8 mo lv q t lo lv1) (ez : z = lv1 q + mo (11 * q + t)) (hz : z < lv1 t) (e1 : z1 = 1 <<< (nI t &&& 31)) (e2 : z2 = lo ||| z1) : lwI8 mo lv q (t + 1) z2 (upd lv1 t z) := by
  have e := lw_sum hW hq ht hl hn h0 h ez
  rw [Int32.lt_iff_toInt_lt] at hz
  have hz2 : z.toInt < lI8 lv1 t := hz
  obtain ⟨a1, a2, a3, a4, a5⟩ := h
  have et : lv1 t = lv t := a1 t ht (Nat.le_refl _)
  have et2 : lI8 lv1 t = lI8 lv t := congrArg Int32.toInt et
  have b1 : (lv t).toInt ≤ 0 := h0 t ht
  have b2 := hl q hq
  have hf : ¬ mo (11 * q + t) = 268435456 := fun w => by
    rw [w, show (268435456 : Int32).toInt = 268435456 by decide] at e
    have b3 : -(50000 * (n : Int)) ≤ lI8 lv q := b2
    have b4 : lI8 lv t ≤ 0 := b1
    omega
  have hqt : ¬ q = t := fun w => by
    subst w
    rw [show 11 * q + q = 12 * q by omega] at hf
    exact hf (hW.2 q hq)
  have hb : ∀ i, i ≤ 10 → (bt8 z2 i ↔ (bt8 lo i ∨ i = t)) := fun i hi => by
    rw [e2, bt8_or, e1, bt8_sh (by omega) (by omega)]
  refine ⟨fun i hi hti => ?_, ?_, fun i hi => ?_, fun i hi hti hf2 => ?_, Or.inr ⟨t, ht, (hb t ht).mpr (Or.inr rfl)⟩⟩
  · rw [upd_ne (by omega)]; exact a1 i hi (by omega)
  · rw [upd_ne hqt]; exact a2
  · by_cases e9 : i = t
    · subst e9
      refine Or.inr ⟨?_, (hb i hi).mpr (Or.inr rfl), hf, ?_⟩
      · rw [lI8_upd]; omega
      · rw [lI8_upd]; exact e
    · rw [upd_ne e9, lI8_upn e9]
      rcases a3 i hi with ⟨c1, c2⟩ | ⟨c1, c2, c3, c4⟩
      · exact Or.inl ⟨c1, fun w => ((hb i hi).mp w).elim c2 e9⟩
      · exact Or.inr ⟨c1, (hb i hi).mpr (Or.inl c2), c3, c4⟩
  · by_cases e9 : i = t
    · subst e9; rw [lI8_upd]; omega
    · rw [lI8_upn e9]; exact a4 i hi (by omega) hf2
/-- what lowerFrom has done -/
theorem lwI8.le (h : lwI8 mo lv q t lo lv1) {i : Nat} (hi : i ≤ 10) : lI8 lv1 i ≤ lI8 lv i := by
  rcases h.2.2.1 i hi with ⟨c, _⟩ | ⟨c, _⟩
  · rw [show lI8 lv1 i = lI8 lv i from congrArg Int32.toInt c]; exact Int.le_refl _
  · omega
theorem lwI8.dn (h : lwI8 mo lv q t lo lv1) (hW : moW8 mo) (hq : q ≤ 10) (hl : lo8 lv n) : lo8 lv1 (n + 1) := fun i hi => by
  have a1 : -(50000 * (n : Int)) ≤ lI8 lv i := hl i hi
  have a2 : -(50000 * (n : Int)) ≤ lI8 lv q := hl q hq
  show -(50000 * ((n + 1 : Nat) : Int)) ≤ lI8 lv1 i
  rcases h.2.2.1 i hi with ⟨c, _⟩ | ⟨_, _, c3, c4⟩
  · rw [show lI8 lv1 i = lI8 lv i from congrArg Int32.toInt c]; omega
  · rcases hW.1 (11 * q + i) (by omega) with w | w
    · exact absurd w c3
    · omega
end LW
/-- behind p passes of settle: fr is where the new bound comes from -/
def stP8 (mo : Nat → Int32) (fr : Nat) (lo : Int32) (lv : Nat → Int32) (p : Nat) : Prop := svU8 (mL8 mo) (lI8 lv) ∧ (∀ x y m, mL8 mo x y m → lI8 lv x ≤ lI8 lv y + m ∨ bt8 lo y) ∧ ∀ g, grt8 (sol8 (mL8 mo)) g → g fr = lI8 lv fr ∧ (¬ lo = 0 → p + 1 ≤ cnq8 (lI8 lv) g 11)
/-- as settle begins: bounds fail from to alone -/
def stA8 (mo : Nat → Int32) (to fr : Nat) (lv : Nat → Int32) : Prop := svU8 (mL8 mo) (lI8 lv) ∧ (∀ x y m, mL8 mo x y m → lI8 lv x ≤ lI8 lv y + m ∨ y = to) ∧ ∀ g, grt8 (sol8 (mL8 mo)) g → g fr = lI8 lv fr
/-- within a pass -/
def stI8 (mo : Nat → Int32) (now : Int32) (lv1 : Nat → Int32) (lo2 : Int32) (lv2 : Nat → Int32) (w : Nat) : Prop := svU8 (mL8 mo) (lI8 lv2) ∧ (∀ i, i ≤ 10 → (lI8 lv2 i = lI8 lv1 i ∧ ¬ bt8 lo2 i) ∨ (lI8 lv2 i < lI8 lv1 i ∧ bt8 lo2 i)) ∧ (∀ x y m, mL8 mo x y m → bt8 now y → y < w → lI8 lv2 x ≤ lI8 lv1 y + m) ∧ (∀ x y m, mL8 mo x y m → lI8 lv2 x ≤ lI8 lv2 y + m ∨ bt8 lo2 y ∨ (w ≤ y ∧ bt8 now y)) ∧ (lo2 = 0 ∨ ∃ i, i ≤ 10 ∧ bt8 lo2 i)
/-- what settle answers -/
def stQ8 (mo lv : Nat → Int32) (u : Nat) : Prop := (u = 1 → grt8 (sol8 (mL8 mo)) (lI8 lv)) ∧ (u = 0 → ¬ ∃ v, sol8 (mL8 mo) v)
section ST
variable {mo lv lv1 lv2 lv3 : Nat → Int32} {to fr p w n u : Nat} {lo now lo2 lo3 lw z z1 z2 : Int32}
theorem stP8_0 (h : stA8 mo to fr lv) (ht : to ≤ 10) (hf : fr ≤ 10) (e : lo = 1 <<< (nI to &&& 31)) : stP8 mo fr lo lv 0 := by
  obtain ⟨h1, h2, h3⟩ := h
  refine ⟨h1, fun x y m hm => ?_, fun g hg => ⟨h3 g hg, fun _ => cnq8_pos (h3 g hg).symm 11 (by omega)⟩⟩
  rcases h2 x y m hm with q | q
  · exact Or.inl q
  · exact Or.inr (by rw [e]; exact (bt8_sh (by omega) (by have := hm.2.1; omega)).mpr q)
theorem stI8_0 (h : stP8 mo fr now lv p) : stI8 mo now lv 0 lv 0 := ⟨h.1, fun i _ => Or.inl ⟨rfl, bt8_0⟩, fun x y m _ _ q => absurd q (Nat.not_lt_zero _), fun x y m hm => (h.2.1 x y m hm).imp id (fun q => Or.inr ⟨Nat.zero_le _, q⟩), Or.inl rfl⟩
theorem stI8_n (h : stI8 mo now lv1 lo2 lv2 w) (hn : ¬ bt8 now w) : stI8 mo now lv1 lo2 lv2 (w + 1) := by
  obtain ⟨h1, h2, h3, h4, h5⟩ := h
  refine ⟨h1, h2, fun x y m hm q hy => ?_, fun x y m hm => ?_, h5⟩
  · by_cases e : y = w
    · subst e; exact absurd q hn
    · exact h3 x y m hm q (by omega)
  · rcases h4 x y m hm with q | q | ⟨q1, q2⟩
    · exact Or.inl q
    · exact Or.inr (Or.inl q)
    · refine Or.inr (Or.inr ⟨?_, q2⟩)
      rcases Nat.eq_or_lt_of_le q1 with e | e
      · rw [← e] at q2; exact absurd q2 hn
      · exact e
theorem stI8_y (h : stI8 mo now lv1 lo2 lv2 w) (hw : w ≤ 10) (hl : lwI8 mo lv2 w 11 lw lv3) (e : lo3 = lo2 ||| lw) : stI8 mo now lv1 lo3 lv3 (w + 1) := by
  obtain ⟨h1, h2, h3, h4, h5⟩ := h
  have hle : ∀ i, i ≤ 10 → lI8 lv3 i ≤ lI8 lv2 i := fun i hi => hl.le hi
  have ew : lI8 lv3 w = lI8 lv2 w := congrArg Int32.toInt hl.2.1
  have hx : ∀ x m, mL8 mo x w m → lI8 lv3 x ≤ lI8 lv2 w + m := fun x m hm => by
    have := hl.2.2.2.1 x hm.1 (by have := hm.1; omega) hm.2.2.1
    rw [hm.2.2.2] at this
    exact this
  refine ⟨⟨fun i hi => Int.le_trans (hle i hi) (h1.1 i hi), fun v hv i hi => ?_⟩, fun i hi => ?_, fun x y m hm q hy => ?_, fun x y m hm => ?_, ?_⟩
  · have a1 := h1.2 v hv i hi
    rcases hl.2.2.1 i hi with ⟨c, _⟩ | ⟨_, _, c3, c4⟩
    · rw [show lI8 lv3 i = lI8 lv2 i from congrArg Int32.toInt c]; exact a1
    · have a2 := hv.2 i w _ ⟨hi, hw, c3, rfl⟩
      have a3 := h1.2 v hv w hw
      omega
  · rcases hl.2.2.1 i hi with ⟨c, c2⟩ | ⟨c, c2, _⟩
    · rw [show lI8 lv3 i = lI8 lv2 i from congrArg Int32.toInt c]
      rcases h2 i hi with ⟨d1, d2⟩ | ⟨d1, d2⟩
      · exact Or.inl ⟨d1, fun q => (bt8_or.mp (by rw [← e]; exact q)).elim d2 c2⟩
      · exact Or.inr ⟨d1, by rw [e]; exact bt8_or.mpr (Or.inl d2)⟩
    · refine Or.inr ⟨?_, by rw [e]; exact bt8_or.mpr (Or.inr c2)⟩
      rcases h2 i hi with ⟨d1, _⟩ | ⟨d1, _⟩ <;> omega
  · by_cases e9 : y = w
    · subst e9
      have a1 := hx x m hm
      rcases h2 y hm.2.1 with ⟨d1, _⟩ | ⟨d1, _⟩ <;> omega
    · exact Int.le_trans (hle x hm.1) (h3 x y m hm q (by omega))
  · by_cases e9 : y = w
    · subst e9
      have a1 := hx x m hm
      exact Or.inl (by omega)
    · rcases hl.2.2.1 y hm.2.1 with ⟨c, c2⟩ | ⟨_, c2, _⟩
      · rw [show lI8 lv3 y = lI8 lv2 y from congrArg Int32.toInt c]
        rcases h4 x y m hm with q | q | ⟨q1, q2⟩
        · exact Or.inl (Int.le_trans (hle x hm.1) q)
        · exact Or.inr (Or.inl (by rw [e]; exact bt8_or.mpr (Or.inl q)))
        · exact Or.inr (Or.inr ⟨by omega, q2⟩)
      · exact Or.inr (Or.inl (by rw [e]; exact bt8_or.mpr (Or.inr c2)))
  · rcases h5 with q | ⟨i, hi, q⟩
    · rcases hl.2.2.2.2 with q2 | ⟨i, hi, q2⟩
      · exact Or.inl (by rw [e, q, q2]; decide)
      · exact Or.inr ⟨i, hi, by rw [e]; exact bt8_or.mpr (Or.inr q2)⟩
    · exact Or.inr ⟨i, hi, by rw [e]; exact bt8_or.mpr (Or.inl q)⟩
theorem stP8_nx (hp : stP8 mo fr now lv1 p) (h0 : ¬ now = 0) (hf : fr ≤ 10) (h : stI8 mo now lv1 lo2 lv2 w) (hw : w = 11) (hn : ¬ bt8 lo2 fr) : stP8 mo fr lo2 lv2 (p + 1) := by
  obtain ⟨h1, h2, h3, h4, h5⟩ := h
  have hle : ∀ i, i ≤ 10 → lI8 lv2 i ≤ lI8 lv1 i := fun i hi => by
    rcases h2 i hi with ⟨d, _⟩ | ⟨d, _⟩ <;> omega
  have hpas : pas8 (mL8 mo) (lI8 lv1) (lI8 lv2) := ⟨hle, fun x y m hm => by
    rcases hp.2.1 x y m hm with q | q
    · exact Int.le_trans (hle x hm.1) q
    · exact h3 x y m hm q (by have := hm.2.1; omega)⟩
  refine ⟨h1, fun x y m hm => ?_, fun g hg => ?_⟩
  · rcases h4 x y m hm with q | q | ⟨q, _⟩
    · exact Or.inl q
    · exact Or.inr q
    · have := hm.2.1
      exfalso; omega
  · obtain ⟨g1, g2⟩ := hp.2.2 g hg
    refine ⟨?_, fun q => ?_⟩
    · rcases h2 fr hf with ⟨d, _⟩ | ⟨_, d⟩
      · rw [d]; exact g1
      · exact absurd d hn
    · obtain ⟨i, hi, hb⟩ := h5.resolve_left q
      have a1 : lI8 lv2 i < lI8 lv1 i := by
        rcases h2 i hi with ⟨_, d⟩ | ⟨d, _⟩
        · exact absurd hb d
        · exact d
      have a2 := h1.2 g hg.1 i hi
      have a3 := pas8_cnt mL8_10 hg (fun i hi => hp.1.2 g hg.1 i hi) hp.1.1 (fun i hi => h1.2 g hg.1 i hi) hpas hi (by omega)
      have a4 := g2 h0
      omega
/-- where the new bound comes from is lowered: there are no such numbers -/
theorem stQ8_f (hp : stP8 mo fr now lv1 p) (hf : fr ≤ 10) (h : stI8 mo now lv1 lo2 lv2 w) (hn : bt8 lo2 fr) {lv9 : Nat → Int32} : stQ8 mo lv9 0 := by
  refine ⟨fun q => absurd q (by decide), fun _ hv => ?_⟩
  obtain ⟨g, hg⟩ := grt8_ex mL8_10 hv
  have g1 := (hp.2.2 g hg).1
  have g2 := h.1.2 g hg.1 fr hf
  rcases h.2.1 fr hf with ⟨_, d⟩ | ⟨d, _⟩
  · exact d hn
  · omega
theorem stQ8_y (hp : stP8 mo fr lo lv p) (h0 : lo = 0) : stQ8 mo lv 1 := by
  refine ⟨fun _ => hp.1.grt (fun x y m hm => ?_), fun q => absurd q (by decide)⟩
  rcases hp.2.1 x y m hm with q | q
  · exact q
  · rw [h0] at q; exact absurd q bt8_0
theorem stQ8_n (hp : stP8 mo fr lo lv p) (h0 : ¬ lo = 0) (h11 : 11 ≤ p) : stQ8 mo lv 0 := by
  refine ⟨fun q => absurd q (by decide), fun _ hv => ?_⟩
  obtain ⟨g, hg⟩ := grt8_ex mL8_10 hv
  have g1 := (hp.2.2 g hg).2 h0
  have g2 := cnq8_le (a := lI8 lv) (g := g) 11
  omega
end ST
/-- what bind answers: x3 is the new bound of q1 and q2 -/
def bnQ8 (mo lv : Nat → Int32) (P : (Nat → Int) → Prop) (mo2 lv2 : Nat → Int32) (u : Nat) : Prop := (u = 1 → (moW8 mo2 ∧ grt8 (sol8 (mL8 mo2)) (lI8 lv2)) ∧ ∀ v, sol8 (mL8 mo2) v ↔ (sol8 (mL8 mo) v ∧ P v)) ∧ (u = 0 → ¬ ∃ v, sol8 (mL8 mo) v ∧ P v)
section BN
variable {mo lv lv2 mo2 lv3 mo3 : Nat → Int32} {q1 q2 u : Nat} {c z z2 : Int32} {P Q : (Nat → Int) → Prop}
theorem bnQ8_s (hW : moW8 mo) (hg : grt8 (sol8 (mL8 mo)) (lI8 lv)) (e : q1 = q2) (hc : ¬ c < 0) : bnQ8 mo lv (fun v => v q1 ≤ v q2 + c.toInt) mo lv 1 := by
  rw [Int32.lt_iff_toInt_lt, show (0 : Int32).toInt = 0 by decide] at hc
  refine ⟨fun _ => ⟨⟨hW, hg⟩, fun v => ⟨fun q => ⟨q, ?_⟩, fun q => q.1⟩⟩, fun q => absurd q (by decide)⟩
  show v q1 ≤ v q2 + c.toInt
  rw [e]; omega
theorem bnQ8_f (e : q1 = q2) (hc : c < 0) : bnQ8 mo lv (fun v => v q1 ≤ v q2 + c.toInt) mo2 lv2 0 := by
  rw [Int32.lt_iff_toInt_lt, show (0 : Int32).toInt = 0 by decide] at hc
  refine ⟨fun q => absurd q (by decide), fun _ ⟨v, _, hv⟩ => ?_⟩
  have hv2 : v q1 ≤ v q2 + c.toInt := hv
  rw [e] at hv2
  omega
theorem bnQ8_o (hW : moW8 mo) (hg : grt8 (sol8 (mL8 mo)) (lI8 lv)) (h1 : q1 ≤ 10) (h2 : q2 ≤ 10) (hb : -50000 ≤ c.toInt ∧ c.toInt ≤ 50000) (hc : ¬ c < mo (11 * q2 + q1)) : bnQ8 mo lv (fun v => v q1 ≤ v q2 + c.toInt) mo lv 1 := by
  rw [Int32.lt_iff_toInt_lt] at hc
  have hf : ¬ mo (11 * q2 + q1) = 268435456 := fun w => by
    rw [w, show (268435456 : Int32).toInt = 268435456 by decide] at hc
    omega
  refine ⟨fun _ => ⟨⟨hW, hg⟩, fun v => ⟨fun q => ⟨q, ?_⟩, fun q => q.1⟩⟩, fun q => absurd q (by decide)⟩
  have := q.2 q1 q2 _ ⟨h1, h2, hf, rfl⟩
  show v q1 ≤ v q2 + c.toInt
  omega
/-- the bounds with the new one -/
theorem mL8_up (hW : moW8 mo) (h1 : q1 ≤ 10) (h2 : q2 ≤ 10) (hb : -50000 ≤ c.toInt ∧ c.toInt ≤ 50000) (hc : c < mo (11 * q2 + q1)) (v : Nat → Int) : sol8 (mL8 (upd mo (11 * q2 + q1) c)) v ↔ (sol8 (mL8 mo) v ∧ v q1 ≤ v q2 + c.toInt) := by
  have hf : ¬ c = 268435456 := fun w => by
    rw [w, show (268435456 : Int32).toInt = 268435456 by decide] at hb
    omega
  rw [Int32.lt_iff_toInt_lt] at hc
  constructor
  · intro ⟨h0, h⟩
    have hn : v q1 ≤ v q2 + c.toInt := h q1 q2 _ ⟨h1, h2, by rw [upd_eq]; exact hf, by rw [upd_eq]⟩
    refine ⟨⟨h0, fun x y m hm => ?_⟩, hn⟩
    obtain ⟨a1, a2, a3, a4⟩ := hm
    by_cases e : 11 * y + x = 11 * q2 + q1
    · have ex : x = q1 := by omega
      have ey : y = q2 := by omega
      subst ex ey
      omega
    · exact h x y m ⟨a1, a2, by rw [upd_ne e]; exact a3, by rw [upd_ne e]; exact a4⟩
  · intro ⟨⟨h0, h⟩, hn⟩
    refine ⟨h0, fun x y m hm => ?_⟩
    obtain ⟨a1, a2, a3, a4⟩ := hm
    by_cases e : 11 * y + x = 11 * q2 + q1
    · have ex : x = q1 := by omega
      have ey : y = q2 := by omega
      subst ex ey
      rw [upd_eq] at a4
      omega
    · rw [upd_ne e] at a3 a4
      exact h x y m ⟨a1, a2, a3, a4⟩
theorem bn_lo (hW : moW8 mo) (hg : grt8 (sol8 (mL8 mo)) (lI8 lv)) : lo8 lv 10 := fun i hi => by
  have := grt8_lo (fun x y m hm => (hW.b hm).1) mL8_10 hg hi
  have h2 : -500000 ≤ (lv i).toInt := this
  omega
theorem bn_sum (hW : moW8 mo) (hg : grt8 (sol8 (mL8 mo)) (lI8 lv)) (h2 : q2 ≤ 10) (hb : -50000 ≤ c.toInt ∧ c.toInt ≤ 50000) (ez : z = lv q2 + c) : z.toInt = lI8 lv q2 + c.toInt := by
  have a1 := bn_lo hW hg q2 h2
  have a2 : (lv q2).toInt ≤ 0 := hg.1.1 q2 h2
  rw [ez, i32_add (by omega) (by omega) (by omega) (by omega)]; rfl
theorem bnQ8_k (hW : moW8 mo) (hg : grt8 (sol8 (mL8 mo)) (lI8 lv)) (h1 : q1 ≤ 10) (h2 : q2 ≤ 10) (hn : ¬ q1 = q2) (hb : -50000 ≤ c.toInt ∧ c.toInt ≤ 50000) (hc : c < mo (11 * q2 + q1)) (ez : z = lv q2 + c) (hz : ¬ z < lv q1) : bnQ8 mo lv (fun v => v q1 ≤ v q2 + c.toInt) (upd mo (11 * q2 + q1) c) lv 1 := by
  have e := bn_sum hW hg h2 hb ez
  rw [Int32.lt_iff_toInt_lt] at hz
  have hz2 : ¬ z.toInt < lI8 lv q1 := hz
  refine ⟨fun _ => ⟨⟨hW.up h1 h2 hn hb, (mL8_up hW h1 h2 hb hc _).mpr ⟨hg.1, ?_⟩, fun v hv => hg.2 v ((mL8_up hW h1 h2 hb hc v).mp hv).1⟩, fun v => mL8_up hW h1 h2 hb hc v⟩, fun q => absurd q (by decide)⟩
  omega
/-- a level is lowered by the new bound: settle begins -/
theorem stA8_of (hW : moW8 mo) (hg : grt8 (sol8 (mL8 mo)) (lI8 lv)) (h1 : q1 ≤ 10) (h2 : q2 ≤ 10) (hn : ¬ q1 = q2) (hb : -50000 ≤ c.toInt ∧ c.toInt ≤ 50000) (hc : c < mo (11 * q2 + q1)) (ez : z = lv q2 + c) (hz : z < lv q1) (ez2 : z2 = lv q2 + c) : stA8 (upd mo (11 * q2 + q1) c) q1 q2 (upd lv q1 z2) ∧ lo8 (upd lv q1 z2) 11 := by
  have e := bn_sum hW hg h2 hb ez2
  have ee : z = z2 := ez.trans ez2.symm
  rw [ee, Int32.lt_iff_toInt_lt] at hz
  have hz2 : z2.toInt < lI8 lv q1 := hz
  have hlo := bn_lo hW hg
  have up : ∀ i, i ≤ 10 → lI8 (upd lv q1 z2) i ≤ lI8 lv i := fun i hi => by
    by_cases e9 : i = q1
    · subst e9; rw [lI8_upd]; omega
    · rw [lI8_upn e9]; exact Int.le_refl _
  have eq2 : lI8 (upd lv q1 z2) q2 = lI8 lv q2 := lI8_upn (fun w => hn w.symm)
  refine ⟨⟨⟨fun i hi => Int.le_trans (up i hi) (hg.1.1 i hi), fun v hv i hi => ?_⟩, fun x y m hm => ?_, fun g hg2 => ?_⟩, fun i hi => ?_⟩
  · obtain ⟨v1, v2⟩ := (mL8_up hW h1 h2 hb hc v).mp hv
    by_cases e9 : i = q1
    · subst e9
      have := hg.2 v v1 q2 h2
      rw [lI8_upd]; omega
    · rw [lI8_upn e9]; exact hg.2 v v1 i hi
  · by_cases ey : y = q1
    · exact Or.inr ey
    · rw [lI8_upn ey]
      obtain ⟨a1, a2, a3, a4⟩ := hm
      by_cases e9 : 11 * y + x = 11 * q2 + q1
      · have ex : x = q1 := by omega
        have ey2 : y = q2 := by omega
        subst ex ey2
        rw [upd_eq] at a4
        rw [lI8_upd]
        exact Or.inl (by omega)
      · rw [upd_ne e9] at a3 a4
        have := hg.1.2 x y m ⟨a1, a2, a3, a4⟩
        exact Or.inl (Int.le_trans (up x a1) this)
  · rw [eq2]
    exact grt8_keep h2 hg (fun v => mL8_up hW h1 h2 hb hc v) mL8_10 h1 hg2
  · by_cases e9 : i = q1
    · subst e9
      have a1 : -(50000 * ((10 : Nat) : Int)) ≤ lI8 lv q2 := hlo q2 h2
      rw [upd_eq]; omega
    · have := hlo i hi
      rw [upd_ne e9]; omega
theorem bnQ8_t (hW : moW8 mo) (h1 : q1 ≤ 10) (h2 : q2 ≤ 10) (hn : ¬ q1 = q2) (hb : -50000 ≤ c.toInt ∧ c.toInt ≤ 50000) (hc : c < mo (11 * q2 + q1)) (hs : stQ8 (upd mo (11 * q2 + q1) c) lv2 u) : bnQ8 mo lv (fun v => v q1 ≤ v q2 + c.toInt) (upd mo (11 * q2 + q1) c) lv2 u := ⟨fun q => ⟨⟨hW.up h1 h2 hn hb, hs.1 q⟩, fun v => mL8_up hW h1 h2 hb hc v⟩, fun q ⟨v, hv⟩ => hs.2 q ⟨v, (mL8_up hW h1 h2 hb hc v).mpr hv⟩⟩
theorem bnQ8.as (h : bnQ8 mo lv P mo2 lv2 u) (e : ∀ v, P v ↔ Q v) : bnQ8 mo lv Q mo2 lv2 u := ⟨fun q => ⟨(h.1 q).1, fun v => by rw [(h.1 q).2 v, e v]⟩, fun q ⟨v, h1, h2⟩ => h.2 q ⟨v, h1, (e v).mpr h2⟩⟩
theorem bnQ8.two {u1 : Nat} (h : bnQ8 mo lv P mo2 lv2 u1) (hu : u1 = 1) (h2 : bnQ8 mo2 lv2 Q mo3 lv3 u) : bnQ8 mo lv (fun v => P v ∧ Q v) mo3 lv3 u := ⟨fun q => ⟨(h2.1 q).1, fun v => by rw [(h2.1 q).2 v, (h.1 hu).2 v, and_assoc]⟩, fun q ⟨v, h3, h4, h5⟩ => h2.2 q ⟨v, ((h.1 hu).2 v).mpr ⟨h3, h4⟩, h5⟩⟩
theorem bnQ8.one {u1 : Nat} (h : bnQ8 mo lv P mo2 lv2 u1) (hu : u1 = 0) : bnQ8 mo lv (fun v => P v ∧ Q v) mo3 lv3 0 := ⟨fun q => absurd q (by decide), fun _ ⟨v, h3, h4, _⟩ => h.2 hu ⟨v, h3, h4⟩⟩
end BN

section TK9
variable {c x y q1 q2 : Nat} {m : Int} {z z2 : Int32} {v : Nat → Int}
theorem tk9_0 (h : c = 0) (hx : q1 = x) (hy : q2 = y) (e : z.toInt = m - 1) : v q1 ≤ v q2 + z.toInt ↔ atc9 c x y m v := by
  subst h hx hy
  rw [e]
  exact ⟨fun q => ⟨fun _ => q, fun q => absurd q (by decide), fun q => absurd q (by decide), fun q => absurd q (by decide), fun q => absurd q (by decide)⟩, fun q => q.1 rfl⟩
theorem tk9_2 (h : c = 2) (hx : q1 = x) (hy : q2 = y) (e : z.toInt = m) : v q1 ≤ v q2 + z.toInt ↔ atc9 c x y m v := by
  subst h hx hy
  rw [e]
  exact ⟨fun q => ⟨fun q => absurd q (by decide), fun _ => q, fun q => absurd q (by decide), fun q => absurd q (by decide), fun q => absurd q (by decide)⟩, fun q => q.2.1 rfl⟩
theorem tk9_1 (h : c = 1) (hx : q1 = x) (hy : q2 = y) (e : z.toInt = -m) : v q2 ≤ v q1 + z.toInt ↔ atc9 c x y m v := by
  subst h hx hy
  rw [e]
  exact ⟨fun q => ⟨fun q => absurd q (by decide), fun q => absurd q (by decide), fun _ => q, fun q => absurd q (by decide), fun q => absurd q (by decide)⟩, fun q => q.2.2.1 rfl⟩
theorem tk9_3 (h : c = 3) (hx : q1 = x) (hy : q2 = y) (e : z.toInt = -m - 1) : v q2 ≤ v q1 + z.toInt ↔ atc9 c x y m v := by
  subst h hx hy
  rw [e]
  exact ⟨fun q => ⟨fun q => absurd q (by decide), fun q => absurd q (by decide), fun q => absurd q (by decide), fun _ => q, fun q => absurd q (by decide)⟩, fun q => q.2.2.2.1 rfl⟩
theorem tk9_4 (h : c = 4) (hx : q1 = x) (hy : q2 = y) (e : z.toInt = m) (e2 : z2.toInt = -m) : (v q1 ≤ v q2 + z.toInt ∧ v q2 ≤ v q1 + z2.toInt) ↔ atc9 c x y m v := by
  subst h hx hy
  rw [e, e2]
  exact ⟨fun q => ⟨fun q => absurd q (by decide), fun q => absurd q (by decide), fun q => absurd q (by decide), fun q => absurd q (by decide), fun _ => q⟩, fun q => q.2.2.2.2 rfl⟩
end TK9
theorem tmb8 {t : Nat × Int32} {x : Int32} (hb : tmb 21483 t) (e : x = tmI t) : i2n x % 16 = t.1 ∧ ∀ z, z = x >>> (4 &&& 31) → z = t.2 := by
  obtain ⟨a, b, c⟩ := hb
  have h1 : abI t.2 < 10000000 := by unfold abI; omega
  rw [e]
  exact ⟨tmI_mod (by omega), fun z ez => ez.trans (tmI_shr (by omega) h1)⟩
theorem bcv8_s {f : Nat → Int32} {bo : Nat → Nat} {bn : Nat} : bcv8 (fun j => if j < 121 then 268435456 else f j) bo bn := bcv8_0 (fun k hk => if_pos (by omega))
