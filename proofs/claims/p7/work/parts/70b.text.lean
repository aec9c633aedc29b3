def txo (tx : Nat → Int32) (tz nw : Nat → Nat) (wh : Nat) : Prop := 2 * wh ≤ nw wh ∧ nw wh ≤ 2 * wh + 1 ∧ tz (nw wh) ≤ 96 ∧ wfs 6 tx (768 * nw wh) (tz (nw wh)) ∧ hgt tx (768 * nw wh) (tz (nw wh)) = 1
theorem txo_new {tx f : Nat → Int32} {tz nw : Nat → Nat} {wh ot q : Nat} (h1 : 2 * wh ≤ ot) (h2 : ot ≤ 2 * wh + 1) (hq : q ≤ 96) (hw : wfs 6 f 0 q) (hh : hgt f 0 q = 1) : txo (cpf tx f (768 * ot) (6 * q)) (sup tz ot q) (sup nw wh ot) wh := by
  have hk : ∀ j, j < 6 * q → f (0 + j) = cpf tx f (768 * ot) (6 * q) (768 * ot + j) := fun j hj => by rw [cpf_in hj, Nat.zero_add]
  unfold txo
  rw [sup_eq, sup_eq]
  exact ⟨h1, h2, hq, wfs_congr hk hw, by rw [← hh]; exact (hgt_congr (fun k hk2 => hk (6 * k) (by omega))).symm⟩
theorem txo_old {tx f : Nat → Int32} {tz nw : Nat → Nat} {wh wo ot q : Nat} (h : txo tx tz nw wo) (h1 : 2 * wh ≤ ot) (h2 : ot ≤ 2 * wh + 1) (hq : q ≤ 96) (hn : wo ≠ wh) : txo (cpf tx f (768 * ot) (6 * q)) (sup tz ot q) (sup nw wh ot) wo := by
  obtain ⟨a1, a2, a3, a4, a5⟩ := h
  have e1 : sup nw wh ot wo = nw wo := sup_ne hn
  have e2 : sup tz ot q (nw wo) = tz (nw wo) := sup_ne (by omega)
  have hk : ∀ j, j < 6 * tz (nw wo) → tx (768 * nw wo + j) = cpf tx f (768 * ot) (6 * q) (768 * nw wo + j) := fun j hj => (cpf_out (by omega)).symm
  unfold txo
  rw [e1, e2]
  exact ⟨a1, a2, a3, wfs_congr hk a4, by rw [← a5]; exact (hgt_congr (fun k hk2 => hk (6 * k) (by omega))).symm⟩
theorem by255 (x : Int64) : ∃ y : Nat, y < 256 ∧ (x &&& 255).toInt32 = nI y := by
  refine ⟨x.toBitVec.toNat % 256, Nat.mod_lt _ (by decide), ?_⟩
  apply Int32.toBitVec_inj.mp
  apply BitVec.eq_of_toNat_eq
  have h255 : (255 : Int64).toBitVec.toNat = 2 ^ 8 - 1 := by decide
  have e1 : (x &&& 255).toBitVec.toNat = x.toBitVec.toNat % 256 := by
    rw [Int64.toBitVec_and, BitVec.toNat_and, h255, Nat.and_two_pow_sub_one_eq_mod]
  have e2 : ((x &&& 255).toInt32).toBitVec.toNat = (x &&& 255).toBitVec.toNat % 2 ^ 32 := by
    rw [Int64.toBitVec_toInt32, BitVec.signExtend_eq_setWidth_of_le _ (by decide), BitVec.toNat_setWidth]
  rw [e2, e1, pk_tn (by omega)]
  omega
