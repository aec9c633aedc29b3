/-- the tape as the reference has it -/
def gtb (tb : Nat → Int32) : Nat → Nat := fun j => i2n (tb j) % 256
theorem gb_lt {tb : Nat → Int32} (j : Nat) : gtb tb j < 256 := Nat.mod_lt _ (by decide)
theorem gb_nI {tb : Nat → Int32} {j q : Nat} (h : tb j = nI q) (hq : q < 128) : gtb tb j = q := by
  show i2n (tb j) % 256 = q
  rw [h, i2n_nI (by omega)]; omega
theorem fit_nI {x : Int32} (h : fits .byte (.int x) = true) {q : Nat} (hq : q < 128) (e : i2n x % 256 = q) : x = nI q := by
  have h' : (decide ((-128 : Int32) ≤ x) && decide (x ≤ 127)) = true := h
  simp only [Bool.and_eq_true, decide_eq_true_eq] at h'
  obtain ⟨a, b⟩ := h'
  rw [Int32.le_iff_toInt_le] at a b
  have e1 : (-128 : Int32).toInt = -128 := by decide
  have e2 : (127 : Int32).toInt = 127 := by decide
  rw [e1] at a
  rw [e2] at b
  have hx : x.toInt = if 2 * i2n x < 2 ^ 32 then (i2n x : Int) else (i2n x : Int) - ((2 ^ 32 : Nat) : Int) := BitVec.toInt_eq_toNat_cond x.toBitVec
  have hl : i2n x < 2 ^ 32 := x.toBitVec.isLt
  apply Int32.toInt_inj.mp
  rw [nI_toInt (by omega)]
  split at hx <;> omega
theorem gb_iff {tb : Nat → Int32} {j q : Nat} (hb : bts tb 400) (hj : j < 400) (hq : q < 128) : gtb tb j = q ↔ tb j = nI q := ⟨fun e => fit_nI (hb j hj) hq e, fun e => gb_nI e hq⟩
theorem gb_yes {tb : Nat → Int32} {ts th q : Nat} (h : tb th = nI q) (hq : q < 128) (ht : th < ts) : bt (gtb tb) ts th = q := by
  rw [bt_in ht]; exact gb_nI h hq
theorem gb_in {tb : Nat → Int32} {ts th q lo hi : Nat} (h : tb th = nI q) (hq : q < 128) (ht : th < ts) (h1 : lo ≤ q) (h2 : q ≤ hi) : lo ≤ bt (gtb tb) ts th ∧ bt (gtb tb) ts th ≤ hi := by
  rw [gb_yes h hq ht]; exact ⟨h1, h2⟩
theorem gb_no {tb : Nat → Int32} {ts th lo hi : Nat} (hb : bts tb 400) (h4 : ts ≤ 400) (hl : 0 < lo) (hh : hi < 128) (h : ∀ j : Nat, lo ≤ j → j ≤ hi → tb th ≠ nI j) : ¬ (lo ≤ bt (gtb tb) ts th ∧ bt (gtb tb) ts th ≤ hi) := by
  rintro ⟨a, b⟩
  rcases Nat.lt_or_ge th ts with ht | ht
  · rw [bt_in ht] at a b
    exact h _ a b ((gb_iff hb (by omega) (by omega)).mp rfl)
  · rw [bt_out ht] at a; omega
theorem gb_end {tb : Nat → Int32} {ts th lo hi : Nat} (hl : 0 < lo) (ht : ts ≤ th) : ¬ (lo ≤ bt (gtb tb) ts th ∧ bt (gtb tb) ts th ≤ hi) := by
  rw [bt_out ht]; omega
theorem gb_no' {tb : Nat → Int32} {th lo hi : Nat} (hb : bts tb 400) (h4 : th < 400) (hh : hi < 128) (h : ∀ j : Nat, lo ≤ j → j ≤ hi → tb th ≠ nI j) : ¬ (lo ≤ gtb tb th ∧ gtb tb th ≤ hi) := by
  rintro ⟨a, b⟩
  exact h _ a b ((gb_iff hb h4 (by omega)).mp rfl)
theorem gb_61y {tb : Nat → Int32} {ts th : Nat} (h : tb th = 61) (ht : th < ts) : bt (gtb tb) ts th = 61 := gb_yes (q := 61) h (by decide) ht
theorem gb_61n {tb : Nat → Int32} {ts th : Nat} (hb : bts tb 400) (h4 : ts ≤ 400) (h : ts ≤ th ∨ ¬ tb th = 61) : ¬ bt (gtb tb) ts th = 61 := by
  intro q
  rcases Nat.lt_or_ge th ts with ht | ht
  · rw [bt_in ht] at q
    rcases h with h | h
    · omega
    · exact h ((gb_iff hb (by omega) (by decide)).mp q)
  · rw [bt_out ht] at q; omega
theorem gb_ne {tb : Nat → Int32} {th q : Nat} {x1 : Int32} (hb : bts tb 400) (h4 : th < 400) (hx : x1 = tb th) (hq : q < 128) (h : ¬ Int32.toInt x1 = (q : Int)) : gtb tb th ≠ q := fun e => h (by rw [hx, (gb_iff hb h4 hq).mp e, nI_toInt (by omega)])
theorem gb_upd {tb : Nat → Int32} {k : Nat} {v : Int32} : gtb (upd tb k v) = sup (gtb tb) k (i2n v % 256) := by
  funext j
  unfold gtb upd sup
  by_cases e : j = k
  · rw [if_pos e, if_pos e]
  · rw [if_neg e, if_neg e]
theorem sx8 : ∀ n, n < 256 → ((BitVec.ofNat 8 n).signExtend 32).toNat % 256 = n := by decide +kernel
theorem sx8b (y : BitVec 8) : (y.signExtend 32).toNat % 256 = y.toNat := by
  have h := sx8 y.toNat y.isLt
  rw [BitVec.ofNat_toNat, BitVec.setWidth_eq] at h
  exact h
theorem ush8 {w : Int64} {k : Nat} (hk : k < 8) : (w.toUInt64 >>> ((nI (8 * k)).toInt64.toUInt64 &&& Int64.toUInt64 63)).toBitVec.toNat % 256 = byt w k := by
  have h : ∀ (s : Nat) (y : UInt64), (y.toBitVec % 64).toNat = s → (w.toUInt64 >>> y).toBitVec.toNat % 256 = w.toBitVec.toNat / 2 ^ s % 256 := by
    intro s y e
    rw [UInt64.toBitVec_shiftRight, BitVec.ushiftRight_eq', BitVec.toNat_ushiftRight, e, Nat.shiftRight_eq_div_pow]
    rfl
  unfold byt
  rcases (show k = 0 ∨ k = 1 ∨ k = 2 ∨ k = 3 ∨ k = 4 ∨ k = 5 ∨ k = 6 ∨ k = 7 by omega) with rfl | rfl | rfl | rfl | rfl | rfl | rfl | rfl <;> exact h _ _ (by decide +kernel)
/-- the byte that is stored -/
theorem ap8 {w y : Int64} {x z : Int32} {k : Nat} (hk : k < 8) (h1 : y = (w.toUInt64 >>> ((nI (8 * k)).toInt64.toUInt64 &&& Int64.toUInt64 63)).toInt64) (h2 : x = y.toInt32) (h3 : z = x.toInt8.toInt32) : i2n (vp_nar .byte z) % 256 = byt w k ∧ fits .byte (.int (vp_nar .byte z)) = true := by
  have e1 : vp_nar .byte z = x.toInt8.toInt32 := by rw [h3, vp_nar_byte, Int8.toInt8_toInt32]
  have e2 : i2n (x.toInt8.toInt32) % 256 = x.toBitVec.toNat % 256 := by
    show (x.toInt8.toBitVec.signExtend 32).toNat % 256 = _
    rw [sx8b, Int32.toBitVec_toInt8, BitVec.signExtend_eq_setWidth_of_le _ (by decide), BitVec.toNat_setWidth]
  have e3 : x.toBitVec.toNat = y.toBitVec.toNat % 2 ^ 32 := by
    rw [h2, Int64.toBitVec_toInt32, BitVec.signExtend_eq_setWidth_of_le _ (by decide), BitVec.toNat_setWidth]
  have e4 : y.toBitVec.toNat % 256 = byt w k := by
    rw [h1]
    exact ush8 hk
  refine ⟨by rw [e1, e2, e3]; omega, ?_⟩
  rw [h3]
  exact byv_fits x
theorem ap_s {tb tb1 : Nat → Int32} {ts i1 n1 : Nat} {w y : Int64} {x z : Int32} (h : tyI (gtb tb) (gtb tb1) ts i1 w) (hk : i1 < 8) (h1 : y = (w.toUInt64 >>> ((nI (8 * i1)).toInt64.toUInt64 &&& Int64.toUInt64 63)).toInt64) (h2 : x = y.toInt32) (h3 : z = x.toInt8.toInt32) (hn : n1 = ts + i1) : tyI (gtb tb) (gtb (upd tb1 n1 (vp_nar .byte z))) ts (i1 + 1) w := by
  rw [gb_upd]
  exact tyI_s h hn (ap8 hk h1 h2 h3).1
/-- what is scanned at B: where it ends, its sort (32 for a blank) -/
def scE (g : Nat → Nat) (n B e : Nat) : Prop := e = if g B = 32 then B + 1 else tkE g n B
def scK (g : Nat → Nat) (n B s : Nat) : Prop := s = if g B = 32 then 32 else kd g n B
section SC
variable {g : Nat → Nat} {n B c : Nat}
theorem kd_ne2 (h : tkK g n B ≠ 2) : kd g n B = cso (tkK g n B) 0 := cso_v h
theorem sg_E (h0 : B < n) (hl : ¬ (97 ≤ g B ∧ g B ≤ 122)) (hd : ¬ (48 ≤ g B ∧ g B ≤ 57)) : tkE g n B = if (g B = 58 ∨ g B = 60 ∨ g B = 62) ∧ bt g n (B + 1) = 61 then B + 2 else B + 1 := by
  unfold tkE
  rw [if_neg (by omega), if_neg hl, if_neg hd]
theorem sg_K (h0 : B < n) (hl : ¬ (97 ≤ g B ∧ g B ≤ 122)) (hd : ¬ (48 ≤ g B ∧ g B ≤ 57)) : tkK g n B = if (g B = 58 ∨ g B = 60 ∨ g B = 62) ∧ bt g n (B + 1) = 61 then 700 + g B else if (g B = 60 ∨ g B = 62 ∨ g B = 61 ∨ g B = 35 ∨ g B = 38 ∨ g B = 124 ∨ g B = 33 ∨ g B = 40 ∨ g B = 41 ∨ g B = 123 ∨ g B = 125 ∨ g B = 59 ∨ g B = 43 ∨ g B = 45) then 200 + g B else 1 := by
  unfold tkK
  rw [if_neg (by omega), if_neg hl, if_neg hd]
theorem sg_32 (hc : g B = 32) : scE g n B (B + 1) ∧ scK g n B 32 := ⟨(if_pos hc).symm, (if_pos hc).symm⟩
theorem sg_2 {s : Nat} (h0 : B < n) (hl : ¬ (97 ≤ g B ∧ g B ≤ 122)) (hd : ¬ (48 ≤ g B ∧ g B ≤ 57)) (hc : g B = c) (h2 : c = 58 ∨ c = 60 ∨ c = 62) (h61 : bt g n (B + 1) = 61) (hs : cso (700 + c) 0 = s) : scE g n B (B + 2) ∧ scK g n B s := by
  have hk : tkK g n B = 700 + c := by rw [sg_K h0 hl hd, if_pos ⟨by omega, h61⟩, hc]
  refine ⟨?_, ?_⟩
  · unfold scE
    rw [if_neg (by omega), sg_E h0 hl hd, if_pos ⟨by omega, h61⟩]
  · unfold scK
    rw [if_neg (by omega), kd_ne2 (by omega), hk, hs]
theorem sg_1 {s : Nat} (h0 : B < n) (hl : ¬ (97 ≤ g B ∧ g B ≤ 122)) (hd : ¬ (48 ≤ g B ∧ g B ≤ 57)) (hc : g B = c) (h2 : c = 60 ∨ c = 62 ∨ c = 61 ∨ c = 35 ∨ c = 38 ∨ c = 124 ∨ c = 33 ∨ c = 40 ∨ c = 41 ∨ c = 123 ∨ c = 125 ∨ c = 59 ∨ c = 43 ∨ c = 45) (h61 : ¬ ((c = 58 ∨ c = 60 ∨ c = 62) ∧ bt g n (B + 1) = 61)) (hs : cso (200 + c) 0 = s) : scE g n B (B + 1) ∧ scK g n B s := by
  have h61' : ¬ ((g B = 58 ∨ g B = 60 ∨ g B = 62) ∧ bt g n (B + 1) = 61) := by rw [hc]; exact h61
  have hk : tkK g n B = 200 + c := by rw [sg_K h0 hl hd, if_neg h61', if_pos (by rw [hc]; exact h2), hc]
  refine ⟨?_, ?_⟩
  · unfold scE
    rw [if_neg (by omega), sg_E h0 hl hd, if_neg h61']
  · unfold scK
    rw [if_neg (by omega), kd_ne2 (by omega), hk, hs]
theorem sg_b (h0 : B < n) (hl : ¬ (97 ≤ g B ∧ g B ≤ 122)) (hd : ¬ (48 ≤ g B ∧ g B ≤ 57)) (h32 : g B ≠ 32) (h2 : ¬ (g B = 60 ∨ g B = 62 ∨ g B = 61 ∨ g B = 35 ∨ g B = 38 ∨ g B = 124 ∨ g B = 33 ∨ g B = 40 ∨ g B = 41 ∨ g B = 123 ∨ g B = 125 ∨ g B = 59 ∨ g B = 43 ∨ g B = 45)) (h61 : ¬ (g B = 58 ∧ bt g n (B + 1) = 61)) : scE g n B (B + 1) ∧ scK g n B 1 := by
  have h61' : ¬ ((g B = 58 ∨ g B = 60 ∨ g B = 62) ∧ bt g n (B + 1) = 61) := fun q => h61 ⟨by omega, q.2⟩
  have hk : tkK g n B = 1 := by rw [sg_K h0 hl hd, if_neg h61', if_neg h2]
  refine ⟨?_, ?_⟩
  · unfold scE
    rw [if_neg h32, sg_E h0 hl hd, if_neg h61']
  · unfold scK
    rw [if_neg h32, kd_ne2 (by omega), hk]; rfl
theorem sc_w {e s : Nat} (h0 : B < n) (hl : 97 ≤ g B ∧ g B ≤ 122) (he : e = ltE g n (n - B) B) (hs : s = cso (rwK g n B) (rwV g n B 0)) : scE g n B e ∧ scK g n B s := by
  have e1 : tkE g n B = ltE g n (n - B) B := (if_neg (by omega)).trans (if_pos hl)
  have e2 : tkK g n B = rwK g n B := (if_neg (by omega)).trans (if_pos hl)
  have e3 : tkV g n B 0 = rwV g n B 0 := (if_neg (by omega)).trans (if_pos hl)
  refine ⟨?_, ?_⟩
  · unfold scE
    rw [if_neg (by omega), e1, he]
  · unfold scK kd
    rw [if_neg (by omega), e2, e3, hs]
theorem sc_d {e s : Nat} (h0 : B < n) (hd : 48 ≤ g B ∧ g B ≤ 57) (he : e = dgE g n (n - B) B) (hs : s = if e - B ≤ 3 then 4 else 1) : scE g n B e ∧ scK g n B s := by
  have hl : ¬ (97 ≤ g B ∧ g B ≤ 122) := by omega
  have e1 : tkE g n B = dgE g n (n - B) B := (if_neg (by omega)).trans ((if_neg hl).trans (if_pos hd))
  have e2 : tkK g n B = (if dgE g n (n - B) B - B ≤ 3 then 3 else 1) := (if_neg (by omega)).trans ((if_neg hl).trans (if_pos hd))
  refine ⟨?_, ?_⟩
  · unfold scE
    rw [if_neg (by omega), e1, he]
  · unfold scK
    rw [if_neg (by omega), kd_ne2 (by rw [e2]; split <;> omega), e2, hs, he]
    split <;> rfl
theorem tk_gt (h0 : B < n) : B < tkE g n B := by
  unfold tkE
  rw [if_neg (by omega)]
  by_cases h1 : 97 ≤ g B ∧ g B ≤ 122
  · rw [if_pos h1]
    have hb : 97 ≤ bt g n B ∧ bt g n B ≤ 122 := by rw [bt_in h0]; exact h1
    have f2 := (ltE_le (g := g) (n := n) (n - (B + 1)) (B + 1) (by omega))
    rw [ltE_step hb]; omega
  · rw [if_neg h1]
    by_cases h2 : 48 ≤ g B ∧ g B ≤ 57
    · rw [if_pos h2]
      have hb : 48 ≤ bt g n B ∧ bt g n B ≤ 57 := by rw [bt_in h0]; exact h2
      have f2 := (dgE_le (g := g) (n := n) (n - (B + 1)) (B + 1) (by omega))
      rw [dgE_step hb]; omega
    · rw [if_neg h2]
      split <;> omega
theorem sc_gt {e : Nat} (h0 : B < n) (h : scE g n B e) : B < e := by
  unfold scE at h
  have := tk_gt (g := g) h0
  split at h <;> omega
theorem kd_32 (h0 : B < n) (h : g B ≠ 32) : kd g n B ≠ 32 := by
  intro q
  have q2 : tkK g n B = 232 := by
    have := q
    unfold kd cso at this
    (repeat' split at this) <;> omega
  unfold tkK at q2
  rw [if_neg (by omega)] at q2
  by_cases h1 : 97 ≤ g B ∧ g B ≤ 122
  · rw [if_pos h1] at q2
    unfold rwK at q2
    have h3 := wo_le (wv g B (ltE g n (n - B) B - B))
    (repeat' split at q2) <;> omega
  · rw [if_neg h1] at q2
    (repeat' split at q2) <;> omega
theorem sc_32 {s : Nat} (h0 : B < n) (h : scK g n B s) : s = 32 ↔ g B = 32 := by
  unfold scK at h
  constructor
  · intro e
    by_cases c : g B = 32
    · exact c
    · rw [if_neg c] at h
      exact absurd (h.symm.trans e) (kd_32 h0 c)
  · intro c
    rw [if_pos c] at h; exact h
/-- token i begins there -/
def tpo (g : Nat → Nat) (n : Nat) : Nat → Nat
  | 0 => nxB g n 0
  | i + 1 => nxt g n (tpo g n i)
/-- token i, packed -/
def tkc (g : Nat → Nat) (n v i : Nat) : Prop := v / 131072 = tpo g n i ∧ v % 128 = kd g n (tpo g n i) ∧ ((kd g n (tpo g n i) = 2 ∨ kd g n (tpo g n i) = 3 ∨ kd g n (tpo g n i) = 4 ∨ kd g n (tpo g n i) = 5) → v / 128 % 1024 = kv g n (tpo g n i))
theorem tt_b {th c e : Nat} (h0 : th < n) (h : nxB g n th = tpo g n c) (hg : g th = 32) (he : scE g n th e) : nxB g n e = tpo g n c := by
  unfold scE at he
  rw [if_pos hg] at he
  rw [← h, he]
  exact (skB_step (g := g) (n := n) (q := th) (by rw [bt_in h0]; exact hg)).symm
theorem tt_t {th c e s am : Nat} (h0 : th < n) (h : nxB g n th = tpo g n c) (hg : ¬ g th = 32) (he : scE g n th e) (hs : scK g n th s) (h128 : s < 128) (hv : (kd g n th = 2 ∨ kd g n th = 3 ∨ kd g n th = 4 ∨ kd g n th = 5) → am % 1024 = kv g n th) : nxB g n e = tpo g n (c + 1) ∧ tkc g n (th * 131072 + am % 1024 * 128 + s) c := by
  have e1 : nxB g n th = th := skB_stop (by rw [bt_in h0]; exact hg) _
  have e2 : tpo g n c = th := h.symm.trans e1
  unfold scE at he
  unfold scK at hs
  rw [if_neg hg] at he hs
  refine ⟨?_, ?_, ?_, ?_⟩
  · show nxB g n e = nxt g n (tpo g n c)
    rw [e2, he]; rfl
  · rw [e2]; omega
  · rw [e2, ← hs]; omega
  · rw [e2]
    intro q
    rw [← hv q]; omega
theorem tt_e {ts c : Nat} (h : nxB g ts ts = tpo g ts c) : tkc g ts (ts * 131072 + 0) c := by
  have e1 : nxB g ts ts = ts := by
    unfold nxB
    rw [Nat.sub_self]; rfl
  have e2 : tpo g ts c = ts := h.symm.trans e1
  have e3 : tkK g ts ts = 0 := if_pos (Nat.le_refl _)
  have e4 : kd g ts ts = 0 := by rw [kd_ne2 (by omega), e3]; rfl
  refine ⟨by rw [e2]; omega, ?_, ?_⟩
  · rw [e2, e4]; omega
  · rw [e2, e4]; omega
end SC
/-- the tokens of a text -/
def tkr (g : Nat → Nat) (n : Nat) (tk : Nat → Nat) (cn : Nat) : Prop := ∀ i, i ≤ cn → tkc g n (tk i) i
theorem tkr_of {g : Nat → Nat} {n c : Nat} {tk : Nat → Nat} (h : ∀ j, j < c → tkc g n (tk j) j) (he : tkc g n (n * 131072 + 0) c) : tkr g n (sup tk c (n * 131072 + 0)) c := by
  intro i hi
  by_cases e : i = c
  · subst e; rw [sup_eq]; exact he
  · rw [sup_ne e]; exact h i (by omega)
/-- words, by their letters -/
def vl : List Nat → Nat
  | [] => 0
  | d :: ds => 27 * vl ds + d
theorem wv_un {g : Nat → Nat} {p : Nat} : ∀ (ds : List Nat) (k : Nat), (∀ d ∈ ds, 1 ≤ d ∧ d ≤ 26) → (∀ j, p ≤ j → j < p + k → 97 ≤ g j ∧ g j ≤ 122) → wv g p k = vl ds → k = ds.length ∧ ∀ j, j < k → g (p + j) = 96 + ds.getD (k - 1 - j) 0
  | [], k, _, hl, h => by
    cases k with
    | zero => exact ⟨rfl, fun j hj => absurd hj (Nat.not_lt_zero _)⟩
    | succ k =>
      have h1 := hl (p + k) (by omega) (by omega)
      have e : wv g p (k + 1) = 27 * wv g p k + g (p + k) - 96 := rfl
      have h2 : vl [] = 0 := rfl
      omega
  | d :: ds, k, hd, hl, h => by
    have hd0 := hd d List.mem_cons_self
    have e2 : vl (d :: ds) = 27 * vl ds + d := rfl
    cases k with
    | zero =>
      have e : wv g p 0 = 0 := rfl
      omega
    | succ k =>
      have h1 := hl (p + k) (by omega) (by omega)
      have e : wv g p (k + 1) = 27 * wv g p k + g (p + k) - 96 := rfl
      have h3 : wv g p k = vl ds := by omega
      have h4 : g (p + k) = 96 + d := by omega
      obtain ⟨q1, q2⟩ := wv_un ds k (fun x hx => hd x (List.mem_cons_of_mem _ hx)) (fun j a b => hl j a (by omega)) h3
      refine ⟨by rw [List.length_cons]; omega, fun j hj => ?_⟩
      by_cases ej : j = k
      · subst ej
        rw [h4, show j + 1 - 1 - j = 0 by omega]; rfl
      · rw [q2 j (by omega), show k + 1 - 1 - j = (k - 1 - j) + 1 by omega]; rfl
theorem wv_eq {g : Nat → Nat} {p : Nat} : ∀ (ds : List Nat) (k : Nat), k = ds.length → (∀ j, j < k → g (p + j) = 96 + ds.getD (k - 1 - j) 0) → wv g p k = vl ds
  | [], k, hk, _ => by
    have : k = 0 := hk
    subst this; rfl
  | d :: ds, k, hk, h => by
    have hk2 : k = ds.length + 1 := hk
    subst hk2
    have h1 := h ds.length (by omega)
    rw [show ds.length + 1 - 1 - ds.length = 0 by omega] at h1
    have h1' : g (p + ds.length) = 96 + d := h1
    have ih := wv_eq ds ds.length rfl (fun j hj => by
      have := h j (by omega)
      rw [show ds.length + 1 - 1 - j = (ds.length - 1 - j) + 1 by omega] at this
      exact this)
    have e : wv g p (ds.length + 1) = 27 * wv g p ds.length + g (p + ds.length) - 96 := rfl
    have e2 : vl (d :: ds) = 27 * vl ds + d := rfl
    omega
def nl : List Nat := [382255, 249, 399641, 107681, 171, 12387497, 6961, 16083, 123, 409, 24824414]
def kwS (g : Nat → Nat) (p th : Nat) : Nat := cso (if p + 6 < th then 1 else wo (wv g p (th - p))) 0
def rdq (u : Nat) (P : Prop) : Prop := (u = 1 ∧ P) ∨ (u = 0 ∧ ¬ P)
theorem rdq.y {u : Nat} {P : Prop} (h : rdq u P) (hu : ¬ u = 0) : P := by
  rcases h with h | h
  · exact h.2
  · exact absurd h.1 hu
theorem rdq.n {u : Nat} {P : Prop} (h : rdq u P) (hu : u = 0) : ¬ P := by
  rcases h with h | h
  · exact absurd (h.1.symm.trans hu) (by decide)
  · exact h.2
