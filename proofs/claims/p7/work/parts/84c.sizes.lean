/-- sizes of atoms -/
def szA (kp : Nat → Int32) (fr k : Nat) (sz : Nat → Nat) : Prop := ∀ j, j < k → kp (6 * fr + 6 * j) = 0 → sz j = 1
theorem szA.step {kp : Nat → Int32} {fr k v : Nat} {sz : Nat → Nat} (h : szA kp fr k sz) (h1 : kp (6 * fr + 6 * k) = 0 → v = 1) : szA kp fr (k + 1) (sup sz k v) := by
  intro j hj q
  by_cases e : j = k
  · subst e
    rw [sup_eq]; exact h1 q
  · rw [sup_ne e]; exact h j (by omega) q
section DECC
variable {F : Nat → Int32} {o1 b : Nat}
theorem wcd_lt {w : Int32} : wcd w < 6 := by
  unfold wcd
  split
  · decide
  · split
    · decide
    · split
      · decide
      · split
        · decide
        · split <;> decide
theorem dec_c0 (h : F o1 = 0) : (dec F o1).1 < 6 := by
  unfold dec
  rw [if_pos h]
  exact wcd_lt
theorem dec_c1 (h : F o1 = 1) : (dec F o1).1 = 6 := by
  unfold dec
  rw [if_neg (by rw [h]; decide), if_pos h]; rfl
theorem dec_c2 (h : F o1 = 2) : (dec F o1).1 = 7 := by
  unfold dec
  rw [if_neg (by rw [h]; decide), if_neg (by rw [h]; decide), if_pos h]; rfl
theorem dec_c3 (h0 : ¬ F o1 = 0) (h1 : ¬ F o1 = 1) (h2 : ¬ F o1 = 2) : (dec F o1).1 = 8 := by
  unfold dec
  rw [if_neg h0, if_neg h1, if_neg h2]; rfl
theorem dec_cb (h0 : ¬ F o1 = 0) (h1 : ¬ F o1 = 1) : 7 ≤ (dec F o1).1 := by
  by_cases h2 : F o1 = 2
  · rw [dec_c2 h2]; exact Nat.le_refl 7
  · rw [dec_c3 h0 h1 h2]; decide
theorem ath_sgl : ∀ (q j : Nat), j < q → ath (sgl F b q) j = dec F (b + 6 * j)
  | 0, _, h => absurd h (Nat.not_lt_zero _)
  | q + 1, j, h => by
    rw [sgl_snoc]
    by_cases e : j = q
    · subst e
      have h9 := ath_e (l := sgl F b j) (s := dec F (b + 6 * j))
      rw [sgl_len] at h9
      exact h9
    · rw [ath_l (by rw [sgl_len]; omega)]
      exact ath_sgl q j (by omega)
end DECC
theorem sf_szl {kp : Nat → Int32} {fr q : Nat} {sf : Nat → Nat} (hz : szs kp fr q sf) (ha : szA kp fr q sf) : ∀ (n j : Nat), j < n → j < q → sf j = szl (sgl kp (6 * fr) q) j
  | 0, _, h, _ => absurd h (Nat.not_lt_zero _)
  | n + 1, j, h, hj => by
    have eo : olf (sgl kp (6 * fr) q) j = (dec kp (6 * fr + 6 * j)).1 := by
      show (ath (sgl kp (6 * fr) q) j).1 = _
      rw [ath_sgl q j hj]
    obtain ⟨z1, z2⟩ := hz j hj
    by_cases c0 : kp (6 * fr + 6 * j) = 0
    · rw [ha j hj c0]
      exact (szo_a (by rw [eo]; exact dec_c0 c0)).symm
    · by_cases c1 : kp (6 * fr + 6 * j) = 1
      · have e := z1 c1
        have h1 : 1 ≤ j := by
          rcases Nat.eq_zero_or_pos j with q0 | q0
          · rw [q0] at e; have e2 : sf (0 - 1) = sf 0 := rfl; omega
          · exact q0
        have i1 := sf_szl hz ha n (j - 1) (by omega) (by omega)
        rw [e, i1]
        show _ = szo (olf (sgl kp (6 * fr) q)) j
        rw [szo_n (by rw [eo]; exact dec_c1 c1) h1]
        exact Nat.add_comm _ _
      · have e := z2 c0 c1
        have h1 : 1 ≤ j := by
          rcases Nat.eq_zero_or_pos j with q0 | q0
          · rw [q0] at e; have e2 : sf (0 - 1) = sf 0 := rfl; omega
          · exact q0
        have i1 := sf_szl hz ha n (j - 1) (by omega) (by omega)
        have i2 := sf_szl hz ha n (j - 1 - sf (j - 1)) (by omega) (by omega)
        rw [e, i2, i1]
        show _ = szo (olf (sgl kp (6 * fr) q)) j
        rw [szo_b (by rw [eo]; exact dec_cb c0 c1) h1]
        show szo (olf (sgl kp (6 * fr) q)) (j - 1 - szo (olf (sgl kp (6 * fr) q)) (j - 1)) + szo (olf (sgl kp (6 * fr) q)) (j - 1) + 1 = 1 + szo (olf (sgl kp (6 * fr) q)) (j - 1) + szo (olf (sgl kp (6 * fr) q)) (j - 1 - szo (olf (sgl kp (6 * fr) q)) (j - 1))
        omega
