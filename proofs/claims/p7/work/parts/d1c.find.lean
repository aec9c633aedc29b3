/-- small enough for a short -/
def sm8 (x : Int32) : Prop := -32768 ≤ x.toInt ∧ x.toInt ≤ 32767
theorem sm8_nI {a : Nat} (h : a < 32768) : sm8 (nI a) := by
  unfold sm8
  rw [nI_toInt (by omega)]
  omega
theorem sm8_m1 : sm8 (-1) := by unfold sm8; decide
theorem sm8_s {x : Int32} (h : sm8 x) : x.toInt16.toInt32 = x := by
  obtain ⟨h1, h2⟩ := h
  apply Int32.toInt_inj.mp
  rw [Int16.toInt_toInt32, Int32.toInt_toInt16, Int.bmod_eq_of_le (by omega) (by omega)]
theorem vps8 {x : Int32} (h : sm8 x) : vp_nar .short x = x := (vp_nar_short x).trans (sm8_s h)
theorem vps_0 : vp_nar .short 0 = 0 := vps8 (sm8_nI (a := 0) (by decide))
theorem vpn8 {a : Nat} (h : a < 32768) : vp_nar .short (nI a) = nI a := vps8 (sm8_nI h)
theorem nar_sn {a : Nat} (h : a < 32768) : narrow .short (.int (nI a)) = .int (nI a) := by
  show Value.int ((nI a).toInt16.toInt32) = _
  rw [sm8_s (sm8_nI h)]
theorem fl8 {f : Nat → Int32} {n : Nat} {v : Int32} (h : ∀ j, j < n → f j = vp_nar .short v) : ∀ j, j < n + 1 → upd f n (vp_nar .short v) j = vp_nar .short v := fun j hj => by
  by_cases e : j = n
  · subst e; rw [upd_eq]
  · rw [upd_ne e]; exact h j (by omega)
/-- one entry is changed -/
def up8 (f f' : Nat → Int32) (k : Nat) (x : Int32) : Prop := f' k = x ∧ ∀ j, j ≠ k → f' j = f j
theorem kp8 {f : Nat → Int32} {k : Nat} {x z : Int32} (h : sm8 x) (e : z = x.toInt16.toInt32) : up8 f (upd f k (vp_nar .short z)) k x := by
  have ez : z = x := e.trans (sm8_s h)
  refine ⟨?_, fun j hj => upd_ne hj⟩
  rw [upd_eq, ez]; exact vps8 h
/-- the numbers of claim j, i of them so far -/
def knI8 (nb lv : Nat → Int32) (j i : Nat) (nb1 : Nat → Int32) : Prop := (∀ v, v < i → nb1 (10 * j + v) = lv v - lv 10) ∧ ∀ k, (k < 10 * j ∨ 10 * j + 10 ≤ k) → nb1 k = nb k
section KN
variable {nb lv nb1 : Nat → Int32} {j i n : Nat}
theorem knI8_0 : knI8 nb lv j 0 nb := ⟨fun v h => absurd h (Nat.not_lt_zero _), fun _ _ => rfl⟩
theorem knI8_s (h : knI8 nb lv j i nb1) (e : nI n = lv i - lv 10) (hi : i < 10) : knI8 nb lv j (i + 1) (upd nb1 (10 * j + i) (nI n)) := by
  refine ⟨fun v hv => ?_, fun k hk => ?_⟩
  · by_cases q : v = i
    · subst q; rw [upd_eq]; exact e
    · rw [upd_ne (by omega)]; exact h.1 v (by omega)
  · rw [upd_ne (by omega)]; exact h.2 k hk
end KN
/-- what verdict answers -/
def vdF8 (r f x : Int32) : Prop := (5000 < r ∧ x = -1) ∨ (¬ 5000 < r ∧ f = -1 ∧ x = 1) ∨ (¬ 5000 < r ∧ ¬ f = -1 ∧ x = 0)
theorem vdF8.q {l : List sgT} {r f x : Int32} (h : vdF8 r f x) (er : r = nI (rwl8 l)) (hf : frq8 l f) : vdQ8 l x := by
  have hl : rwl8 l ≤ 5001 := rwo_le
  have e : 5000 < r ↔ rwl8 l = 5001 := by
    rw [er, Int32.lt_iff_toInt_lt, nI_toInt (by omega), show (5000 : Int32).toInt = 5000 by decide]
    omega
  rcases h with ⟨a, b⟩ | ⟨a, b, c⟩ | ⟨a, b, c⟩
  · exact Or.inl ⟨e.mp a, b⟩
  · exact Or.inr (Or.inl ⟨fun q => a (e.mpr q), by rw [← b]; exact hf, c⟩)
  · exact Or.inr (Or.inr ⟨fun q => a (e.mpr q), ⟨f, hf, b⟩, c⟩)
theorem kn8_y {u : Nat} {x : Int32} (h : hid ((u = 0 ∧ x = 0) ∨ (u = 1 ∧ ¬ x = 0))) (hu : ¬ u = 0) : ¬ x = 0 := by
  rcases h with ⟨a, _⟩ | ⟨_, b⟩
  · exact absurd a hu
  · exact b
