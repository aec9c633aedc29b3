def msr (op : Nat → Nat) (E i : Nat) : Nat := if op i = 3 ∨ op i = 4 ∨ op i = 6 then 1 + (E - i) else 0
theorem msr_le {op : Nat → Nat} {E i : Nat} : msr op E i ≤ 1 + (E - i) := by unfold msr; split <;> omega
theorem msr_lt {op : Nat → Nat} {E i j : Nat} (h : op i = 3 ∨ op i = 4 ∨ op i = 6) (h1 : i < j) (h2 : j ≤ E) : msr op E j < msr op E i := by
  have := msr_le (op := op) (E := E) (i := j)
  unfold msr at *
  rw [if_pos h]; omega
theorem msr_0 {op : Nat → Nat} {E i j : Nat} (h : op i = 3 ∨ op i = 4 ∨ op i = 6) (h1 : op j = 5) : msr op E j < msr op E i := by
  unfold msr
  rw [if_pos h, if_neg (by omega)]; omega
theorem lpg_at {o n P : Nat} {op lk fi fs se ss tg gh : Nat → Nat} {tn hv pl : Nat → Int32} (h : lpg o n P op lk fi fs se ss tg gh tn hv pl) {i : Nat} (h1 : 40 * o ≤ i) (h2 : i < 40 * o + n) : iok o P op fi fs se ss tg gh tn hv pl i ∧ lok op lk (40 * o) n i := by
  obtain ⟨sn, fn, wn, hp, _⟩ := h
  obtain ⟨k, rfl⟩ : ∃ k, i = 40 * o + k := ⟨i - 40 * o, by omega⟩
  refine ⟨hp.1 k (by omega), ?_⟩
  rcases hp.2.1 k (by omega) with ⟨j, hj, _⟩ | h
  · omega
  · exact h
theorem lpg_n {o n P : Nat} {op lk fi fs se ss tg gh : Nat → Nat} {tn hv pl : Nat → Int32} (h : lpg o n P op lk fi fs se ss tg gh tn hv pl) : n ≤ 32 ∧ P ≤ 342 := by
  obtain ⟨sn, fn, wn, hp, a, b, c, d⟩ := h
  have := hp.2.2.2.2.2.1
  omega
