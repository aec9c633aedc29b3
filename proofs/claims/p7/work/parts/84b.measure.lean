def meb (kp : Nat → Int32) (fr : Nat) (sz wt wf : Nat → Nat) (j : Nat) : Prop := 1 ≤ sz j ∧ sz j ≤ j + 1 ∧ hgt kp (6 * fr) (j + 1 - sz j) + 1 = hgt kp (6 * fr) (j + 1) ∧ 1 ≤ wt j ∧ wt j ≤ 5001 ∧ 1 ≤ wf j ∧ wf j ≤ 5001
def mea (kp : Nat → Int32) (fr k : Nat) (sz wt wf : Nat → Nat) : Prop := ∀ j, j < k → meb kp fr sz wt wf j
theorem mea.step {kp : Nat → Int32} {fr k v x y : Nat} {sz wt wf : Nat → Nat} (h : mea kp fr k sz wt wf) (h1 : 1 ≤ v) (h2 : v ≤ k + 1) (h3 : hgt kp (6 * fr) (k + 1 - v) + 1 = hgt kp (6 * fr) (k + 1)) (h4 : 1 ≤ x) (h5 : x ≤ 5001) (h6 : 1 ≤ y) (h7 : y ≤ 5001) : mea kp fr (k + 1) (sup sz k v) (sup wt k x) (sup wf k y) := by
  intro j hj
  by_cases e : j = k
  · subst e
    unfold meb
    rw [sup_eq, sup_eq, sup_eq]
    exact ⟨h1, h2, h3, h4, h5, h6, h7⟩
  · unfold meb
    rw [sup_ne e, sup_ne e, sup_ne e]
    exact h j (by omega)
/-- a formula's size is that of its parts and 1 -/
def szs (kp : Nat → Int32) (fr k : Nat) (sz : Nat → Nat) : Prop := ∀ j, j < k → (kp (6 * fr + 6 * j) = 1 → sz j = sz (j - 1) + 1) ∧ (¬ kp (6 * fr + 6 * j) = 0 → ¬ kp (6 * fr + 6 * j) = 1 → sz j = sz (j - 1 - sz (j - 1)) + sz (j - 1) + 1)
theorem szs.step {kp : Nat → Int32} {fr k v : Nat} {sz : Nat → Nat} (h : szs kp fr k sz) (h1 : kp (6 * fr + 6 * k) = 1 → 1 ≤ k ∧ v = sz (k - 1) + 1) (h2 : ¬ kp (6 * fr + 6 * k) = 0 → ¬ kp (6 * fr + 6 * k) = 1 → 1 ≤ k ∧ v = sz (k - 1 - sz (k - 1)) + sz (k - 1) + 1) : szs kp fr (k + 1) (sup sz k v) := by
  intro j hj
  by_cases e : j = k
  · subst e
    rw [sup_eq]
    refine ⟨fun q => ?_, fun q1 q2 => ?_⟩
    · obtain ⟨a1, a2⟩ := h1 q
      rw [sup_ne (by omega)]; exact a2
    · obtain ⟨a1, a2⟩ := h2 q1 q2
      rw [sup_ne (show j - 1 ≠ j by omega), sup_ne (by omega)]; exact a2
  · rw [sup_ne e, sup_ne (show j - 1 ≠ k by omega), sup_ne (show j - 1 - sz (j - 1) ≠ k by omega)]
    exact h j (by omega)
