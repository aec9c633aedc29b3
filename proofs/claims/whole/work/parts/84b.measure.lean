def meb (kp : Nat → Int32) (fr : Nat) (sz wt wf : Nat → Nat) (j : Nat) : Prop := 1 ≤ sz j ∧ sz j ≤ j + 1 ∧ hgt kp (6 * fr) (j + 1 - sz j) + 1 = hgt kp (6 * fr) (j + 1) ∧ 1 ≤ wt j ∧ wt j ≤ 5001 ∧ 1 ≤ wf j ∧ wf j ≤ 5001
def mea (kp : Nat → Int32) (fr k : Nat) (sz wt wf : Nat → Nat) : Prop := ∀ j, j < k → meb kp fr sz wt wf j
theorem mea.step {kp : Nat → Int32} {fr k v x y : Nat} {sz wt wf : Nat → Nat} (h : mea kp fr k sz wt wf) (h1 : 1 ≤ v) (h2 : v ≤ k + 1) (h3 : hgt kp (6 * fr) (k + 1 - v) + 1 = hgt kp (6 * fr) (k + 1)) (h4 : 1 ≤ x) (h5 : x ≤ 5001) (h6 : 1 ≤ y) (h7 : y ≤ 5001) : mea kp fr (k + 1) (sup sz k v) (sup wt k x) (sup wf k y) := by
  intro j hj
  by_cases e : j = k
  · subst e
    unfold meb
    rw [sup_eq, sup_eq, sup_eq]
    exact ⟨h1, h2, h3, h4, h5, h6, h7⟩
  · unfold meb
    rw [sup_ne e, sup_ne e, sup_ne e]
    exact h j (by omega)
