/-- 0, 1, 10, 100 .. -/
def pwo : Nat → Nat
  | 0 => 0
  | k + 1 => 10 ^ k
theorem pwo_le {k : Nat} (h : k ≤ 10) : pwo k ≤ 1000000000 := by
  cases k with
  | zero => exact Nat.zero_le _
  | succ k => exact Nat.pow_le_pow_right (n := 10) (by decide) (show k ≤ 9 by omega)
theorem pwo_pos {k : Nat} (h : 1 ≤ k) : 1 ≤ pwo k := by
  cases k with
  | zero => omega
  | succ k => exact Nat.pow_pos (by decide)
theorem pwo_mul {k : Nat} (h : 1 ≤ k) : 10 * pwo k = pwo (k + 1) := by
  cases k with
  | zero => omega
  | succ k => show 10 * 10 ^ k = 10 ^ (k + 1); rw [Nat.pow_succ, Nat.mul_comm]
theorem pwo_div : ∀ k, pwo (k + 1) / 10 = pwo k
  | 0 => rfl
  | k + 1 => by show 10 ^ (k + 1) / 10 = 10 ^ k; rw [Nat.pow_succ]; exact Nat.mul_div_cancel _ (by decide)
theorem dv9 (x : Int32) : x / nI 1000000000 < 10 := by
  rw [Int32.lt_iff_toInt_lt, Int32.toInt_div, show (nI 1000000000).toInt = 1000000000 by decide, show (10 : Int32).toInt = 10 by decide]
  have h1 := Int32.toInt_lt x
  have h2 := Int32.le_toInt x
  have h3 : x.toInt.tdiv 1000000000 ≤ 2 := by
    rcases Int.le_total 0 x.toInt with h | h
    · rw [Int.tdiv_eq_ediv_of_nonneg h]; omega
    · have := Int.tdiv_nonneg (a := -x.toInt) (b := 1000000000) (by omega) (by omega)
      rw [Int.neg_tdiv] at this; omega
  have h4 : -3 ≤ x.toInt.tdiv 1000000000 := by
    rcases Int.le_total 0 x.toInt with h | h
    · have := Int.tdiv_nonneg (a := x.toInt) (b := 1000000000) h (by omega); omega
    · have e := Int.tdiv_eq_ediv_of_nonneg (a := -x.toInt) (b := 1000000000) (by omega)
      rw [Int.neg_tdiv] at e; omega
  rw [Int.bmod_eq_of_le (by omega) (by omega)]; omega
/-- the weight of what waits on a path -/
def pzw (W : Nat → Nat) (x : Int32) : Nat := if x < 0 then 2 else W x.toNatClampNeg
def pzs (W : Nat → Nat) (pz : Nat → Int32) : Nat → Nat
  | 0 => 0
  | k + 1 => pzs W pz k + pzw W (pz k)
theorem pzw_n {W : Nat → Nat} {v : Nat} (h : v < 2 ^ 31) : pzw W (nI v) = W v := by
  unfold pzw
  rw [if_neg (nI_pos h), nI_clamp h]
theorem pzw_c {W : Nat → Nat} {x : Int32} (h : x < 0) : pzw W x = 2 := if_pos h
theorem pzs_congr {W : Nat → Nat} {pz pz' : Nat → Int32} : ∀ {n : Nat}, (∀ i, i < n → pz' i = pz i) → pzs W pz' n = pzs W pz n
  | 0, _ => rfl
  | n + 1, h => by
    show pzs W pz' n + pzw W (pz' n) = pzs W pz n + pzw W (pz n)
    rw [pzs_congr (fun i hi => h i (by omega)), h n (by omega)]
theorem pzs_1 {W : Nat → Nat} {pz : Nat → Int32} {n : Nat} {x : Int32} : pzs W (upd pz n x) (n + 1) = pzs W pz n + pzw W x := by
  show pzs W (upd pz n x) n + pzw W (upd pz n x n) = _
  rw [upd_eq, pzs_congr (fun i hi => upd_ne (by omega))]
theorem pzs_4 {W : Nat → Nat} {pz : Nat → Int32} {n : Nat} {x y z w : Int32} : pzs W (upd (upd (upd (upd pz n x) (n + 1) y) (n + 2) z) (n + 3) w) (n + 4) = pzs W pz n + pzw W x + pzw W y + pzw W z + pzw W w := by
  rw [pzs_1, pzs_1, pzs_1, pzs_1]
/-- what may wait on a path: a sign, or a place -/
def pzo (pz : Nat → Int32) (q n : Nat) : Prop := ∀ i, i < n → pz i < 0 ∨ ∃ v, v < q ∧ pz i = nI v
theorem pzo.up {pz : Nat → Int32} {q n : Nat} {x : Int32} (h : pzo pz q n) (hx : x < 0 ∨ ∃ v, v < q ∧ x = nI v) : pzo (upd pz n x) q (n + 1) := fun i hi => by
  by_cases e : i = n
  · subst e; rw [upd_eq]; exact hx
  · rw [upd_ne e]; exact h i (by omega)
theorem pzo.dn {pz : Nat → Int32} {q n : Nat} (h : pzo pz q (n + 1)) : pzo pz q n := fun i hi => h i (by omega)
theorem pzs_ge {W : Nat → Nat} {pz : Nat → Int32} {q : Nat} (hq : q < 2 ^ 31) (hW : ∀ v, v < q → 2 ≤ W v) : ∀ {n : Nat}, pzo pz q n → 2 * n ≤ pzs W pz n
  | 0, _ => Nat.le_refl _
  | n + 1, h => by
    have h1 := pzs_ge hq hW h.dn (n := n)
    have h2 : 2 ≤ pzw W (pz n) := by
      rcases h n (by omega) with e | ⟨v, hv, e⟩
      · rw [pzw_c e]; exact Nat.le_refl _
      · rw [e, pzw_n (by omega)]; exact hW v hv
    show 2 * (n + 1) ≤ pzs W pz n + pzw W (pz n)
    omega
theorem pzs_0 {W : Nat → Nat} {pz : Nat → Int32} {n : Nat} : pzs W pz (n + 1) = pzs W pz n + pzw W (pz n) := rfl
theorem fnI (f : Nat → Int32) : (fun j => nI ((fun j => i2n (f j)) j)) = f := funext fun j => nI_i2n (f j)
def wby (sf : Nat → Nat) (v : Nat) : Nat := 31 * sf v + 25
def wdp (sf : Nat → Nat) (v : Nat) : Nat := 3 * sf v - 1
theorem ge0 {x : Int32} (h : 0 ≤ x) (h2 : x < 0) : False := by
  rw [Int32.le_iff_toInt_le] at h
  rw [Int32.lt_iff_toInt_lt] at h2
  omega
section SAY
variable {sf : Nat → Nat} {pz : Nat → Int32} {q n v os : Nat}
theorem say_c (h1 : pz n < 0) : pzs (wby sf) pz (n + 1) = pzs (wby sf) pz n + 2 ∧ pzs (wdp sf) pz (n + 1) = pzs (wdp sf) pz n + 2 := by
  rw [pzs_0, pzs_0, pzw_c h1, pzw_c h1]; exact ⟨rfl, rfl⟩
theorem say_n (h1 : pz n = nI v) (hv : v < 2 ^ 31) : pzs (wby sf) pz (n + 1) = pzs (wby sf) pz n + (31 * sf v + 25) ∧ pzs (wdp sf) pz (n + 1) = pzs (wdp sf) pz n + (3 * sf v - 1) := by
  rw [pzs_0, pzs_0, h1, pzw_n hv, pzw_n hv]; exact ⟨rfl, rfl⟩
theorem say_1 (hv : v < 2 ^ 31) : pzs (wby sf) (upd pz n (nI v)) (n + 1) = pzs (wby sf) pz n + (31 * sf v + 25) ∧ pzs (wdp sf) (upd pz n (nI v)) (n + 1) = pzs (wdp sf) pz n + (3 * sf v - 1) := by
  rw [pzs_1, pzs_1, pzw_n hv, pzw_n hv]; exact ⟨rfl, rfl⟩
theorem say_4 {x y : Int32} {v w : Nat} (hx : x < 0) (hy : y < 0) (hv : v < 2 ^ 31) (hw : w < 2 ^ 31) : pzs (wby sf) (upd (upd (upd (upd pz n x) (n + 1) (nI v)) (n + 2) y) (n + 3) (nI w)) (n + 4) = pzs (wby sf) pz n + 2 + (31 * sf v + 25) + 2 + (31 * sf w + 25) ∧ pzs (wdp sf) (upd (upd (upd (upd pz n x) (n + 1) (nI v)) (n + 2) y) (n + 3) (nI w)) (n + 4) = pzs (wdp sf) pz n + 2 + (3 * sf v - 1) + 2 + (3 * sf w - 1) := by
  rw [pzs_4, pzs_4, pzw_n hv, pzw_n hv, pzw_n hw, pzw_n hw, pzw_c hx, pzw_c hx, pzw_c hy, pzw_c hy]; exact ⟨rfl, rfl⟩
end SAY
theorem pzo_1 {pz : Nat → Int32} {q : Nat} {x : Int32} (hx : x < 0 ∨ ∃ v, v < q ∧ x = nI v) : pzo (upd pz 0 x) q 1 := fun i hi => by
  rw [show i = 0 by omega, upd_eq]; exact hx
