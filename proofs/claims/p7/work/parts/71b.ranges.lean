theorem rng {x lo hi : Int32} {a b : Nat} (ha : lo = nI a) (hb : hi = nI b) (h1 : ¬ x < lo) (h2 : x ≤ hi) (qa : a < 2 ^ 31 := by decide) (qb : b < 2 ^ 31 := by decide) : ∃ j : Nat, a ≤ j ∧ j ≤ b ∧ x = nI j := by
  subst ha; subst hb
  rw [Int32.lt_iff_toInt_lt, nI_toInt qa] at h1
  rw [Int32.le_iff_toInt_le, nI_toInt qb] at h2
  refine ⟨x.toInt.toNat, by omega, by omega, Int32.toInt_inj.mp ?_⟩
  rw [nI_toInt (by omega)]; omega
theorem nle {x y : Int32} (h : ¬ y < x) : x ≤ y := by
  rw [Int32.lt_iff_toInt_lt] at h; rw [Int32.le_iff_toInt_le]; omega
theorem nlt {x y : Int32} (h : ¬ y ≤ x) : x < y := by
  rw [Int32.le_iff_toInt_le] at h; rw [Int32.lt_iff_toInt_lt]; omega
theorem lei {x y : Int32} (h : x < y) : x ≤ y := by
  rw [Int32.lt_iff_toInt_lt] at h; rw [Int32.le_iff_toInt_le]; omega
theorem rng1 {x : Int32} {b : Nat} (h1 : ¬ x < 0) (h2 : x < nI b) (qb : b < 2 ^ 31) : ∃ j : Nat, j < b ∧ x = nI j := by
  have h1' : ¬ x.toInt < 0 := by rw [Int32.lt_iff_toInt_lt] at h1; exact h1
  rw [Int32.lt_iff_toInt_lt, nI_toInt qb] at h2
  refine ⟨x.toInt.toNat, by omega, Int32.toInt_inj.mp ?_⟩
  rw [nI_toInt (by omega)]; omega
theorem hgt_le {f : Nat → Int32} {b : Nat} : ∀ k, hgt f b k ≤ k
  | 0 => Nat.le_refl _
  | k + 1 => by
    have h := hgt_le (f := f) (b := b) k
    show (if f (b + 6 * k) = 0 then hgt f b k + 1 else if f (b + 6 * k) = 1 then hgt f b k else hgt f b k - 1) ≤ k + 1
    (repeat' split) <;> omega
theorem hgt_step {f : Nat → Int32} {b k : Nat} : hgt f b k ≤ hgt f b (k + 1) + 1 := by
  show _ ≤ (if f (b + 6 * k) = 0 then hgt f b k + 1 else if f (b + 6 * k) = 1 then hgt f b k else hgt f b k - 1) + 1
  (repeat' split) <;> omega
theorem hgt_fin {f : Nat → Int32} {b : Nat} : ∀ (j k : Nat), hgt f b k ≤ hgt f b (k + j) + j
  | 0, k => Nat.le_refl _
  | j + 1, k => by
    have h1 := hgt_fin (f := f) (b := b) j k
    have h2 := hgt_step (f := f) (b := b) (k := k + j)
    rw [show k + (j + 1) = k + j + 1 by omega]; omega
