theorem nb_tb (n : Nat) : (nI n).toBitVec = BitVec.ofNat 32 n := rfl
theorem nb_and2 (a b : Nat) : nI a &&& nI b = nI (a &&& b) := by
  apply Int32.toBitVec_inj.mp
  rw [Int32.toBitVec_and, nb_tb, nb_tb, nb_tb]
  apply BitVec.eq_of_toNat_eq
  rw [BitVec.toNat_and, BitVec.toNat_ofNat, BitVec.toNat_ofNat, BitVec.toNat_ofNat, ← Nat.and_mod_two_pow]
theorem nb_or2 (a b : Nat) : nI a ||| nI b = nI (a ||| b) := by
  apply Int32.toBitVec_inj.mp
  rw [Int32.toBitVec_or, nb_tb, nb_tb, nb_tb]
  apply BitVec.eq_of_toNat_eq
  rw [BitVec.toNat_or, BitVec.toNat_ofNat, BitVec.toNat_ofNat, BitVec.toNat_ofNat, ← Nat.or_mod_two_pow]
theorem nb_and (k a : Nat) : nI a &&& nI (2 ^ k - 1) = nI (a % 2 ^ k) := by rw [nb_and2, Nat.and_two_pow_sub_one_eq_mod]
theorem nb_andm (k : Nat) (x : Int32) : x &&& nI (2 ^ k - 1) = nI (i2n x % 2 ^ k) := by rw [← nb_and, nI_i2n]
theorem nb_sh : ∀ k, k < 32 → ((nI k &&& 31).toBitVec.smod 32).toNat = k := by decide +kernel
theorem nb_shl {k : Nat} (hk : k < 32) (a : Nat) : nI a <<< (nI k &&& 31) = nI (a * 2 ^ k) := by
  apply Int32.toBitVec_inj.mp
  rw [Int32.toBitVec_shiftLeft, nb_tb, nb_tb]
  apply BitVec.eq_of_toNat_eq
  have e : ((nI k &&& 31).toBitVec.smod 32).toNat = k := nb_sh k hk
  rw [BitVec.shiftLeft_eq', e, BitVec.toNat_shiftLeft, BitVec.toNat_ofNat, BitVec.toNat_ofNat, Nat.shiftLeft_eq, Nat.mod_mul_mod]
theorem nb_or {k b : Nat} (hb : b < 2 ^ k) (a : Nat) : nI (a * 2 ^ k) ||| nI b = nI (a * 2 ^ k + b) := by
  rw [nb_or2, Nat.mul_comm a, ← Nat.two_pow_add_eq_or_of_lt hb]
theorem nb_shr {k a : Nat} (hk : k < 32) (ha : a < 2 ^ 31) : nI a >>> (nI k &&& 31) = nI (a / 2 ^ k) := by
  apply Int32.toBitVec_inj.mp
  rw [Int32.toBitVec_shiftRight, nb_tb, nb_tb]
  have e : ((nI k &&& 31).toBitVec.smod 32).toNat = k := nb_sh k hk
  rw [BitVec.sshiftRight_eq', e]
  have hm : (BitVec.ofNat 32 a).msb = false := by
    rw [BitVec.msb_eq_false_iff_two_mul_lt, BitVec.toNat_ofNat, Nat.mod_eq_of_lt (by omega)]; omega
  rw [BitVec.sshiftRight_eq_of_msb_false hm]
  apply BitVec.eq_of_toNat_eq
  have hd : a / 2 ^ k ≤ a := Nat.div_le_self _ _
  rw [BitVec.toNat_ushiftRight, BitVec.toNat_ofNat, BitVec.toNat_ofNat, Nat.mod_eq_of_lt (by omega), Nat.mod_eq_of_lt (by omega), Nat.shiftRight_eq_div_pow]
/-- a packed term: its name is one of eleven -/
def trm (x : Int32) : Prop := ∃ b, b ≤ 10 ∧ x &&& 15 = nI b
theorem i2n_lt (x : Int32) : i2n x < 2 ^ 32 := x.toBitVec.isLt
theorem i2n_add (x y : Int32) : i2n (x + y) = (i2n x + i2n y) % 2 ^ 32 := by
  unfold i2n; rw [Int32.toBitVec_add, BitVec.toNat_add]
theorem i2n_and (x y : Int32) : i2n (x &&& y) = i2n x &&& i2n y := by
  unfold i2n; rw [Int32.toBitVec_and, BitVec.toNat_and]
theorem i2n_or (x y : Int32) : i2n (x ||| y) = i2n x ||| i2n y := by
  unfold i2n; rw [Int32.toBitVec_or, BitVec.toNat_or]
theorem and15 (x : Int32) : x &&& 15 = nI (i2n x % 16) := nb_andm 4 x
theorem m16 (x : Int32) : i2n (x &&& (-16)) % 16 = 0 := by
  rw [i2n_and, show i2n (-16) = 4294967280 by decide]
  have e : (i2n x &&& 4294967280) % 2 ^ 4 = (i2n x % 2 ^ 4) &&& (4294967280 % 2 ^ 4) := Nat.and_mod_two_pow
  rw [show (16 : Nat) = 2 ^ 4 by decide, e, show 4294967280 % 2 ^ 4 = 0 by decide, Nat.and_zero]
theorem trm_put {x y : Int32} (h : trm x) : trm (x + (y &&& (-16))) := by
  obtain ⟨b, hb, e⟩ := h
  refine ⟨b, hb, ?_⟩
  rw [and15] at e ⊢
  rw [← e, i2n_add]
  have h1 := m16 y
  congr 1
  omega
theorem trm_pack {x : Int32} {b : Nat} (hb : b ≤ 10) : trm ((x <<< (nI 4 &&& 31)) ||| nI b) := by
  refine ⟨b, hb, ?_⟩
  rw [and15, i2n_or]
  have e1 : i2n (x <<< (nI 4 &&& 31)) % 2 ^ 4 = 0 := by
    rw [← nI_i2n x, nb_shl (by decide)]
    unfold i2n
    rw [nb_tb, BitVec.toNat_ofNat]
    omega
  have e2 : i2n (nI b) = b := by unfold i2n; rw [nb_tb, BitVec.toNat_ofNat]; omega
  have e3 : (i2n (x <<< (nI 4 &&& 31)) ||| i2n (nI b)) % 2 ^ 4 = (i2n (x <<< (nI 4 &&& 31)) % 2 ^ 4) ||| (i2n (nI b) % 2 ^ 4) := Nat.or_mod_two_pow
  rw [show (16 : Nat) = 2 ^ 4 by decide, e3, e1, e2, Nat.zero_or, Nat.mod_eq_of_lt (by omega)]
theorem nb_or3 {k a b : Nat} (ha : a % 2 ^ k = 0) (hb : b < 2 ^ k) : nI a ||| nI b = nI (a + b) := by
  have e : a = a / 2 ^ k * 2 ^ k := by
    have := Nat.div_add_mod a (2 ^ k)
    rw [ha, Nat.mul_comm] at this; omega
  rw [e]; exact nb_or hb _
theorem nb_i2b {a : Nat} (h : a < 128) : (nI a).toInt8.toInt32 = nI a := by
  apply Int32.toInt_inj.mp
  rw [Int8.toInt_toInt32, Int32.toInt_toInt8, nI_toInt (by omega), Int.bmod_eq_of_le (by omega) (by omega)]
theorem nb_i2s {a : Nat} (h : a < 32768) : (nI a).toInt16.toInt32 = nI a := by
  apply Int32.toInt_inj.mp
  rw [Int16.toInt_toInt32, Int32.toInt_toInt16, nI_toInt (by omega), Int.bmod_eq_of_le (by omega) (by omega)]
theorem xf_supb (st : Nat → Nat) (i v : Nat) (h : v < 128) : upd (fun j => nI (st j)) i (vp_nar .byte (nI v)) = (fun j => nI (sup st i v j)) := by
  rw [show vp_nar .byte (nI v) = nI v from nb_i2b h]; exact xf_sup st i v
theorem xf_sups (st : Nat → Nat) (i v : Nat) (h : v < 32768) : upd (fun j => nI (st j)) i (vp_nar .short (nI v)) = (fun j => nI (sup st i v j)) := by
  rw [show vp_nar .short (nI v) = nI v from nb_i2s h]; exact xf_sup st i v
