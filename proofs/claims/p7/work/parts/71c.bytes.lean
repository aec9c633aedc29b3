/-- byte k of a word -/
def byt (w : Int64) (k : Nat) : Nat := w.toBitVec.toNat / 2 ^ (8 * k) % 256
theorem sh8 (x : BitVec 64) {s : Nat} (hs : s ≤ 56) : (x.sshiftRight s).toNat % 256 = x.toNat / 2 ^ s % 256 := by
  have h : (x.sshiftRight s).setWidth 8 = (x >>> s).setWidth 8 := by
    apply BitVec.eq_of_getLsbD_eq
    intro i hi
    rw [BitVec.getLsbD_setWidth, BitVec.getLsbD_setWidth, BitVec.getLsbD_sshiftRight, BitVec.getLsbD_ushiftRight, if_pos (show s + i < 64 by omega)]
    simp [show ¬ 64 ≤ i by omega]
  have h2 := congrArg BitVec.toNat h
  rw [BitVec.toNat_setWidth, BitVec.toNat_setWidth, BitVec.toNat_ushiftRight, Nat.shiftRight_eq_div_pow] at h2
  exact h2
theorem shr8 {w : Int64} {k : Nat} (hk : k < 8) : (w >>> ((nI (8 * k)).toInt64 &&& 63)).toBitVec.toNat % 256 = byt w k := by
  have h : ∀ (s : Nat) (y : Int64), s ≤ 56 → (y.toBitVec.smod 64).toNat = s → (w >>> y).toBitVec.toNat % 256 = w.toBitVec.toNat / 2 ^ s % 256 := by
    intro s y hs e
    rw [Int64.toBitVec_shiftRight, BitVec.sshiftRight_eq', e]
    exact sh8 _ hs
  unfold byt
  rcases (show k = 0 ∨ k = 1 ∨ k = 2 ∨ k = 3 ∨ k = 4 ∨ k = 5 ∨ k = 6 ∨ k = 7 by omega) with rfl | rfl | rfl | rfl | rfl | rfl | rfl | rfl <;> exact h _ _ (by decide) (by decide +kernel)
theorem by255w {w x : Int64} {k : Nat} (hk : k < 8) (h : x = w >>> ((nI (8 * k)).toInt64 &&& 63)) : ∃ y : Nat, y < 256 ∧ (x &&& 255).toInt32 = nI y ∧ y = byt w k := by
  refine ⟨x.toBitVec.toNat % 256, Nat.mod_lt _ (by decide), ?_, by rw [h]; exact shr8 hk⟩
  apply Int32.toBitVec_inj.mp
  apply BitVec.eq_of_toNat_eq
  have h255 : (255 : Int64).toBitVec.toNat = 2 ^ 8 - 1 := by decide
  have e1 : (x &&& 255).toBitVec.toNat = x.toBitVec.toNat % 256 := by
    rw [Int64.toBitVec_and, BitVec.toNat_and, h255, Nat.and_two_pow_sub_one_eq_mod]
  have e2 : ((x &&& 255).toInt32).toBitVec.toNat = (x &&& 255).toBitVec.toNat % 2 ^ 32 := by
    rw [Int64.toBitVec_toInt32, BitVec.signExtend_eq_setWidth_of_le _ (by decide), BitVec.toNat_setWidth]
  rw [e2, e1, pk_tn (by omega)]
  omega
/-- i bytes of w are put behind the n that there are -/
def tyI (g g1 : Nat → Nat) (n i : Nat) (w : Int64) : Prop := ∀ j, g1 j = if n ≤ j ∧ j < n + i then byt w (j - n) else g j
theorem tyI_0 {g : Nat → Nat} {n : Nat} {w : Int64} : tyI g g n 0 w := fun j => (if_neg (by omega)).symm
theorem tyI_s {g g1 : Nat → Nat} {n i n1 y : Nat} {w : Int64} (h : tyI g g1 n i w) (hn : n1 = n + i) (hy : y = byt w i) : tyI g (sup g1 n1 y) n (i + 1) w := by
  intro j
  unfold sup
  by_cases e : j = n1
  · rw [if_pos e, if_pos (by omega), hy, show j - n = i by omega]
  · rw [if_neg e, h j]
    by_cases c : n ≤ j ∧ j < n + i
    · rw [if_pos c, if_pos (by omega)]
    · rw [if_neg c, if_neg (by omega)]
theorem tyI_eq {g g1 g2 : Nat → Nat} {n i : Nat} {w : Int64} (h : tyI g g1 n i w) (h2 : tyI g g2 n i w) : g1 = g2 := funext fun j => (h j).trans (h2 j).symm
