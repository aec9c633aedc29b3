/-- sums of small numbers -/
theorem i32_add {a b : Int32} (h1 : -1000000000 ≤ a.toInt) (h2 : a.toInt ≤ 1000000000) (h3 : -1000000000 ≤ b.toInt) (h4 : b.toInt ≤ 1000000000) : (a + b).toInt = a.toInt + b.toInt := by
  rw [Int32.toInt_add, Int.bmod_eq_of_le (by omega) (by omega)]
theorem i32_sub {a b : Int32} (h1 : -1000000000 ≤ a.toInt) (h2 : a.toInt ≤ 1000000000) (h3 : -1000000000 ≤ b.toInt) (h4 : b.toInt ≤ 1000000000) : (a - b).toInt = a.toInt - b.toInt := by
  rw [Int32.toInt_sub, Int.bmod_eq_of_le (by omega) (by omega)]
theorem i32_neg {a : Int32} (h1 : -1000000000 ≤ a.toInt) (h2 : a.toInt ≤ 1000000000) : (-a).toInt = -a.toInt := by
  rw [Int32.toInt_neg, Int.bmod_eq_of_le (by omega) (by omega)]
theorem le8 {x y : Int32} (h : y ≤ x) : ¬ x < y := fun q => by
  rw [Int32.le_iff_toInt_le] at h
  rw [Int32.lt_iff_toInt_lt] at q
  omega
theorem nl8 {x y : Int32} (h : ¬ y ≤ x) : x < y := by
  rw [Int32.le_iff_toInt_le] at h
  rw [Int32.lt_iff_toInt_lt]
  omega
/-- the first n are 0 -/
def zr8 (f : Nat → Int32) (n : Nat) : Prop := ∀ i, i < n → f i = 0
theorem zr8.step {f : Nat → Int32} {n : Nat} (h : zr8 f n) : zr8 (upd f n 0) (n + 1) := fun i hi => by
  by_cases e : i = n
  · subst e; rw [upd_eq]
  · rw [upd_ne e]; exact h i (by omega)
theorem zr8_0 {f : Nat → Int32} : zr8 f 0 := fun i hi => absurd hi (Nat.not_lt_zero _)
/-- numbers above all that keep the bounds -/
def svU8 (L : Nat → Nat → Int → Prop) (a : Nat → Int) : Prop := npo8 a ∧ ∀ v, sol8 L v → ∀ i, i ≤ 10 → v i ≤ a i
def lo8 (av : Nat → Int32) (n : Nat) : Prop := ∀ i, i ≤ 10 → -(50000 * (n : Int)) ≤ (av i).toInt
theorem svU8.grt {L : Nat → Nat → Int → Prop} {a : Nat → Int} (h : svU8 L a) (hs : ∀ x y m, L x y m → a x ≤ a y + m) : grt8 (sol8 L) a := ⟨⟨h.1, hs⟩, h.2⟩
theorem lo8.up {av : Nat → Int32} {n m : Nat} (h : lo8 av n) (hn : n ≤ m) : lo8 av m := fun i hi => by
  have := h i hi
  omega
theorem lo8.upd {av : Nat → Int32} {n k : Nat} {z : Int32} (h : lo8 av n) (hz : -(50000 * (n : Int)) ≤ z.toInt) : lo8 (upd av k z) n := fun i hi => by
  by_cases e : i = k
  · subst e; rw [upd_eq]; exact hz
  · rw [upd_ne e]; exact h i hi
/-- within a pass from a: the bounds of the points ahead of x9, y9 have been looked at -/
def sI8 (bd ib : Nat → Int32) (a b : Nat → Int) (x9 y9 mo : Nat) : Prop := svU8 (bL8 bd ib) b ∧ (∀ i, i ≤ 10 → b i ≤ a i) ∧ (∀ x y m, bL8 bd ib x y m → (x < x9 ∨ (x = x9 ∧ y < y9)) → b x ≤ a y + m) ∧ (mo = 0 → ∀ i, i ≤ 10 → b i = a i) ∧ (mo = 1 → ∃ i, i ≤ 10 ∧ b i < a i)
/-- behind p passes -/
def sP8 (bd ib av : Nat → Int32) (p mo : Nat) : Prop := svU8 (bL8 bd ib) (lI8 av) ∧ (mo = 0 → ∀ x y m, bL8 bd ib x y m → lI8 av x ≤ lI8 av y + m) ∧ (mo = 1 → ∀ g, grt8 (sol8 (bL8 bd ib)) g → p ≤ cnq8 (lI8 av) g 11)
/-- what solve answers -/
def slQ8 (bd ib av : Nat → Int32) (u : Nat) : Prop := (u = 1 → grt8 (sol8 (bL8 bd ib)) (lI8 av)) ∧ (u = 0 → ¬ ∃ v, sol8 (bL8 bd ib) v)
section SLV
variable {bd ib av av2 av3 : Nat → Int32} {a : Nat → Int} {x9 y9 mo p n : Nat} {z z2 : Int32}
theorem lI8_upd {k : Nat} : lI8 (upd av k z) k = z.toInt := by
  show (upd av k z k).toInt = _
  rw [upd_eq]
theorem lI8_upn {k i : Nat} (h : i ≠ k) : lI8 (upd av k z) i = lI8 av i := by
  show (upd av k z i).toInt = _
  rw [upd_ne h]; rfl
theorem sP8_0 (h : ∀ i, i ≤ 10 → av i = 0) : sP8 bd ib av 0 1 := by
  refine ⟨⟨fun i hi => ?_, fun v hv i hi => ?_⟩, fun q => absurd q (by decide), fun _ g _ => Nat.zero_le _⟩
  · show (av i).toInt ≤ 0
    rw [h i hi]; decide
  · have := hv.1 i hi
    show v i ≤ (av i).toInt
    rw [h i hi, show (0 : Int32).toInt = 0 by decide]; exact this
theorem lo8_0 (h : ∀ i, i ≤ 10 → av i = 0) : lo8 av 0 := fun i hi => by
  rw [h i hi, show (0 : Int32).toInt = 0 by decide]
  omega
theorem sI8_0 (h : sP8 bd ib av p mo) : sI8 bd ib (lI8 av) (lI8 av) 0 0 0 := ⟨h.1, fun i _ => Int.le_refl _, fun x y m _ q => absurd q (by omega), fun _ i _ => rfl, fun q => absurd q (by decide)⟩
theorem sI8_nx (h : sI8 bd ib a (lI8 av) x9 y9 mo) (hy : y9 = 11) : sI8 bd ib a (lI8 av) (x9 + 1) 0 mo := by
  obtain ⟨h1, h2, h3, h4⟩ := h
  refine ⟨h1, h2, fun x y m hm q => h3 x y m hm ?_, h4⟩
  have := hm.2.1
  omega
/-- nothing changes: there is no bound -/
theorem sI8_no (h : sI8 bd ib a (lI8 av) x9 y9 mo) (hi : ib (11 * x9 + y9) = 0) : sI8 bd ib a (lI8 av) x9 (y9 + 1) mo := by
  obtain ⟨h1, h2, h3, h4⟩ := h
  refine ⟨h1, h2, fun x y m hm q => ?_, h4⟩
  by_cases e : x = x9 ∧ y = y9
  · obtain ⟨rfl, rfl⟩ := e
    exact absurd hi hm.2.2.1
  · exact h3 x y m hm (by omega)
theorem sI8_sum (h : sI8 bd ib a (lI8 av) x9 y9 mo) (hl : lo8 av n) (hn : n ≤ 2000) (hW : bdW8 bd ib) (hx : x9 ≤ 10) (hy : y9 ≤ 10) (hi : ¬ ib (11 * x9 + y9) = 0) (ez : z = av y9 + bd (11 * x9 + y9)) : z.toInt = lI8 av y9 + (bd (11 * x9 + y9)).toInt := by
  obtain ⟨w1, w2⟩ := hW (11 * x9 + y9) (by omega) hi
  have h0 : (av y9).toInt ≤ 0 := h.1.1 y9 hy
  have hl9 := hl y9 hy
  rw [ez, i32_add (by omega) (by omega) (by omega) (by omega)]; rfl
/-- nothing changes: the bound holds -/
theorem sI8_ge (h : sI8 bd ib a (lI8 av) x9 y9 mo) (hl : lo8 av n) (hn : n ≤ 2000) (hW : bdW8 bd ib) (hx : x9 ≤ 10) (hy : y9 ≤ 10) (hi : ¬ ib (11 * x9 + y9) = 0) (ez : z = av y9 + bd (11 * x9 + y9)) (hz : ¬ z < av x9) : sI8 bd ib a (lI8 av) x9 (y9 + 1) mo := by
  have e := sI8_sum h hl hn hW hx hy hi ez
  rw [Int32.lt_iff_toInt_lt] at hz
  have hz2 : ¬ z.toInt < lI8 av x9 := hz
  obtain ⟨h1, h2, h3, h4⟩ := h
  refine ⟨h1, h2, fun x y m hm q => ?_, h4⟩
  by_cases e9 : x = x9 ∧ y = y9
  · obtain ⟨rfl, rfl⟩ := e9
    have := hm.2.2.2
    have := h2 y hy
    omega
  · exact h3 x y m hm (by omega)
/-- a number is lowered -/
theorem sI8_lt (h : sI8 bd ib a (lI8 av) x9 y9 mo) (hl : lo8 av n) (hn : n ≤ 2000) (hW : bdW8 bd ib) (hx : x9 ≤ 10) (hy : y9 ≤ 10) (hi : ¬ ib (11 * x9 + y9) = 0) (ez : z = av y9 + bd (11 * x9 + y9)) (hz : z < av x9) (ez2 : z2 = av y9 + bd (11 * x9 + y9)) : sI8 bd ib a (lI8 (upd av x9 z2)) x9 (y9 + 1) 1 ∧ lo8 (upd av x9 z2) (n + 1) := by
  have e := sI8_sum h hl hn hW hx hy hi ez2
  have ee : z = z2 := ez.trans ez2.symm
  rw [ee, Int32.lt_iff_toInt_lt] at hz
  have hz2 : z2.toInt < lI8 av x9 := hz
  obtain ⟨w1, w2⟩ := hW (11 * x9 + y9) (by omega) hi
  have hl9 : -(50000 * (n : Int)) ≤ lI8 av y9 := hl y9 hy
  obtain ⟨⟨h0, h1⟩, h2, h3, h4, h5⟩ := h
  have hx0 := h0 x9 hx
  have up : ∀ i, i ≤ 10 → lI8 (upd av x9 z2) i ≤ lI8 av i := fun i hi => by
    by_cases e9 : i = x9
    · subst e9; rw [lI8_upd]; omega
    · rw [lI8_upn e9]; exact Int.le_refl _
  refine ⟨⟨⟨fun i hi => Int.le_trans (up i hi) (h0 i hi), fun v hv i hi2 => ?_⟩, fun i hi2 => Int.le_trans (up i hi2) (h2 i hi2), fun x y m hm q => ?_, fun q => absurd q (by decide), fun _ => ⟨x9, hx, ?_⟩⟩, fun i hi2 => ?_⟩
  · by_cases e9 : i = x9
    · subst e9
      have := hv.2 i y9 _ ⟨hx, hy, hi, rfl⟩
      have := h1 v hv y9 hy
      rw [lI8_upd]; omega
    · rw [lI8_upn e9]; exact h1 v hv i hi2
  · by_cases e9 : x = x9 ∧ y = y9
    · obtain ⟨rfl, rfl⟩ := e9
      have := hm.2.2.2
      have := h2 y hy
      rw [lI8_upd]; omega
    · exact Int.le_trans (up x hm.1) (h3 x y m hm (by omega))
  · have := h2 x9 hx
    rw [lI8_upd]; omega
  · by_cases e9 : i = x9
    · subst e9; rw [upd_eq]; omega
    · have := hl i hi2
      rw [upd_ne e9]; omega
/-- the pass is over -/
theorem sP8_nx {mo0 : Nat} (hp : sP8 bd ib av2 p mo0) (hm0 : mo0 = 1) (h : sI8 bd ib (lI8 av2) (lI8 av3) x9 y9 mo) (hx : x9 = 11) : sP8 bd ib av3 (p + 1) mo := by
  obtain ⟨h1, h2, h3, h4, h5⟩ := h
  have hpas : pas8 (bL8 bd ib) (lI8 av2) (lI8 av3) := ⟨h2, fun x y m hm => h3 x y m hm (by have := hm.1; omega)⟩
  refine ⟨h1, fun q x y m hm => ?_, fun q g hg => ?_⟩
  · have e := h4 q
    rw [e y hm.2.1]
    exact h3 x y m hm (by have := hm.1; omega)
  · obtain ⟨i, hi, hlt⟩ := h5 q
    have a1 := h1.2 g hg.1 i hi
    have a2 := pas8_cnt bL8_10 hg (fun i hi => hp.1.2 g hg.1 i hi) hp.1.1 (fun i hi => h1.2 g hg.1 i hi) hpas hi (by omega)
    have a3 := hp.2.2 hm0 g hg
    omega
theorem slQ8_of (hp : sP8 bd ib av p mo) (h1 : mo = 0 ∨ (mo = 1 ∧ p = 12)) {u : Nat} (hu : u = 1 - mo) : slQ8 bd ib av u := by
  refine ⟨fun q => hp.1.grt (hp.2.1 (by omega)), fun q hv => ?_⟩
  obtain ⟨g, hg⟩ := grt8_ex bL8_10 hv
  have a1 := hp.2.2 (by omega) g hg
  have a2 := cnq8_le (a := lI8 av) (g := g) 11
  omega
end SLV
