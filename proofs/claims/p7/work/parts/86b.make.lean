/-- how many formulas' signs lie on the stack, and how long each may be -/
def rgs (r : Nat) (tp : Nat → Nat) : Nat → Nat → Prop
  | 0, _ => True
  | k + 1, v => v - tp k ≤ r ∧ rgs r tp k (tp k)
theorem rgs.congr {r r' : Nat} {tp tp' : Nat → Nat} (hr : r ≤ r') : ∀ {k v : Nat}, rgs r tp k v → (∀ i, i < k → tp' i = tp i) → rgs r' tp' k v
  | 0, _, _, _ => trivial
  | k + 1, v, ⟨h1, h2⟩, ht => by
    have e := ht k (by omega)
    refine ⟨by omega, ?_⟩
    rw [e]; exact rgs.congr hr h2 (fun i hi => ht i (by omega))
def mkn (f w c g v kt us cn r : Nat) : Prop := kt + us * 2 ^ f + 16 * w ≤ 20800 ∧ cn + c ≤ 32 ∧ 98 ≤ r ∧ r * 2 ^ g + 16 * v ≤ 8064
section MKN
variable {f w c g v kt us cn r f' w' c' g' v' us' kt' cn' a b x d t9 : Nat}
theorem pw1 (f : Nat) : 1 ≤ 2 ^ f := Nat.one_le_two_pow
theorem mul_pw (us f : Nat) : us ≤ us * 2 ^ f := Nat.le_mul_of_pos_right _ (pw1 f)
theorem mkn.bd (h : mkn f w c g v kt us cn r) : kt + us ≤ 20800 ∧ cn ≤ 32 ∧ 98 ≤ r ∧ r ≤ 8064 := by
  obtain ⟨h1, h2, h3, h4⟩ := h
  have := mul_pw us f
  have := mul_pw r g
  omega
theorem pw_mono {us us' f f' : Nat} (hu : us' ≤ us) (hf : f' ≤ f) : us' * 2 ^ f' ≤ us * 2 ^ f := Nat.mul_le_mul hu (Nat.pow_le_pow_right (by decide) hf)
theorem mkn.mono (h : mkn f w c g v kt us cn r) (h1 : f' ≤ f) (h2 : w' ≤ w) (h3 : c' ≤ c) (h4 : g' ≤ g) (h5 : v' ≤ v) : mkn f' w' c' g' v' kt us cn r := by
  obtain ⟨a1, a2, a3, a4⟩ := h
  have := pw_mono (Nat.le_refl us) h1
  have := pw_mono (Nat.le_refl r) h4
  exact ⟨by omega, by omega, a3, by omega⟩
theorem mkn.fi (h : mkn (f + 1) w c g v kt us cn r) (hu : us' ≤ 2 * us) : mkn f w c g v kt us' cn r := by
  obtain ⟨a1, a2, a3, a4⟩ := h
  have h1 : us' * 2 ^ f ≤ 2 * us * 2 ^ f := Nat.mul_le_mul_right _ hu
  have h2 : us * 2 ^ (f + 1) = 2 * us * 2 ^ f := by rw [Nat.pow_succ, Nat.mul_comm (2 ^ f) 2, ← Nat.mul_assoc, Nat.mul_comm us 2]
  exact ⟨by omega, a2, a3, a4⟩
theorem pw_le16 {f : Nat} (h : f ≤ 4) (a : Nat) : a * 2 ^ f ≤ 16 * a := by
  have : 2 ^ f ≤ 2 ^ 4 := Nat.pow_le_pow_right (by decide) h
  have := Nat.mul_le_mul_left a this
  omega
theorem pw_le8 {f : Nat} (h : f ≤ 3) (a : Nat) : a * 2 ^ f ≤ 8 * a := by
  have : 2 ^ f ≤ 2 ^ 3 := Nat.pow_le_pow_right (by decide) h
  have := Nat.mul_le_mul_left a this
  omega
theorem pw_add {us a f us' : Nat} (h : us' ≤ us + a) (hf : f ≤ 4) : us' * 2 ^ f ≤ us * 2 ^ f + 16 * a := by
  have h1 : us' * 2 ^ f ≤ (us + a) * 2 ^ f := Nat.mul_le_mul_right _ h
  rw [Nat.add_mul] at h1
  have := pw_le16 hf a
  omega
theorem mkn.add (h : mkn f (w + d) c g v kt us cn r) (hf : f ≤ 4) (hu : us' ≤ us + d) : mkn f w c g v kt us' cn r := by
  obtain ⟨a1, a2, a3, a4⟩ := h
  have := pw_add hu hf
  exact ⟨by omega, a2, a3, a4⟩
theorem mkn.asr (h : mkn f w c g (v + (a + 2)) kt us cn r) (hg : g ≤ 4) : mkn f w c g v kt us cn (r + (a + 1)) := by
  obtain ⟨a1, a2, a3, a4⟩ := h
  have := pw_add (Nat.le_refl (r + (a + 1))) hg
  exact ⟨a1, a2, by omega, by omega⟩
theorem mkn.ifr (h : mkn f w c (g + 1) (v + (a + 2)) kt us cn r) (hg : g ≤ 3) : mkn f w c g v kt us cn (2 * r + (2 * a + 4)) := by
  obtain ⟨a1, a2, a3, a4⟩ := h
  have h1 : (2 * r + (2 * a + 4)) * 2 ^ g = r * 2 ^ (g + 1) + (2 * a + 4) * 2 ^ g := by rw [Nat.add_mul, Nat.pow_succ, Nat.mul_comm (2 ^ g) 2, ← Nat.mul_assoc, Nat.mul_comm r 2]
  have := pw_le8 hg (2 * a + 4)
  exact ⟨a1, a2, by omega, by omega⟩
theorem mkn.cut (h : mkn f (w + d) (c + x) g v kt us cn r) (hf : f ≤ 4) (ht : t9 ≤ us) (hu : us' ≤ t9 + a) (hk : kt' ≤ kt + (us - t9) + b) (hb : b + 16 * a ≤ 16 * d) (hc : cn' ≤ cn + x) : mkn f w c g v kt' us' cn' r := by
  obtain ⟨a1, a2, a3, a4⟩ := h
  have h1 := pw_add hu hf
  have h2 := mul_pw (us - t9) f
  have h3 : us * 2 ^ f = (us - t9) * 2 ^ f + t9 * 2 ^ f := by rw [← Nat.add_mul, Nat.sub_add_cancel ht]
  exact ⟨by omega, by omega, a3, a4⟩
end MKN
def mks (o : Nat) (op fs ss : Nat → Nat) (k kt us cn r : Nat) : Prop := mkn (sms (cfi op) (40 * o) k) (2 * sms (cst op fs ss) (40 * o) k + 4 * k + 98 * sms (cod op) (40 * o) k) (sms (ccn op) (40 * o) k) (sms (cif op) (40 * o) k) (sms (cst op fs ss) (40 * o) k + 2 * k) kt us cn r
theorem sms_mono {f : Nat → Nat} {B : Nat} : ∀ {n k : Nat}, k ≤ n → sms f B k ≤ sms f B n
  | 0, k, h => by rw [show k = 0 by omega]; exact Nat.le_refl _
  | n + 1, k, h => by
    rcases Nat.lt_or_ge n k with h1 | h1
    · rw [show k = n + 1 by omega]; exact Nat.le_refl _
    · have := sms_mono (f := f) (B := B) h1
      exact Nat.le_trans this (Nat.le_add_right _ _)
theorem dpi_back {op : Nat → Nat} {B : Nat} : ∀ (j k : Nat), dpi op B k + sms (cfi op) B k + sms (cod op) B k ≤ dpi op B (k + j) + sms (cfi op) B (k + j) + sms (cod op) B (k + j)
  | 0, k => Nat.le_refl _
  | j + 1, k => by
    have h1 := dpi_back (op := op) (B := B) j k
    refine Nat.le_trans h1 ?_
    have e1 : sms (cfi op) B (k + j + 1) = sms (cfi op) B (k + j) + cfi op (B + (k + j)) := rfl
    have e2 : sms (cod op) B (k + j + 1) = sms (cod op) B (k + j) + cod op (B + (k + j)) := rfl
    have e3 : dpi op B (k + j + 1) = if op (B + (k + j)) = 2 ∨ op (B + (k + j)) = 5 then dpi op B (k + j) + 1 else if op (B + (k + j)) = 4 ∨ op (B + (k + j)) = 6 then dpi op B (k + j) - 1 else dpi op B (k + j) := rfl
    rw [show k + (j + 1) = k + j + 1 by omega, e1, e2, e3]
    unfold cfi cod
    (repeat' split) <;> omega
section MKS
variable {o n P k kt us cn r kt' us' cn' t9 : Nat} {op lk fi fs se ss tg gh : Nat → Nat} {tn hv pl : Nat → Int32}
theorem lpg_b (h : lpg o n P op lk fi fs se ss tg gh tn hv pl) (hk : k ≤ n) : sms (cfi op) (40 * o) k ≤ 4 ∧ sms (cif op) (40 * o) k ≤ 4 ∧ dpi op (40 * o) k ≤ 8 := by
  obtain ⟨sn, fn, wn, hp, b1, b2, b3, b4⟩ := h
  obtain ⟨a1, a2, a3, a4, a5, a6, a7, a8, a9, a10, a11, a12⟩ := hp
  have e1 := sms_mono (f := cfi op) (B := 40 * o) hk
  have e2 := sms_mono (f := cif op) (B := 40 * o) hk
  have e3 := dpi_back (op := op) (B := 40 * o) (n - k) k
  rw [show k + (n - k) = n by omega] at e3
  omega
theorem lpg_0 (h : lpg o n P op lk fi fs se ss tg gh tn hv pl) (hu : us ≤ 96) : mks o op fs ss n 0 us 0 98 := by
  have hb := lpg_b h (Nat.le_refl n)
  have hn := lpg_n h
  obtain ⟨sn, fn, wn, hp, b1, b2, b3, b4⟩ := h
  obtain ⟨a1, a2, a3, a4, a5, a6, a7, a8, a9, a10, a11, a12⟩ := hp
  have h1 := pw_le16 hb.1 us
  have h2 := pw_le16 hb.2.1 98
  unfold mks mkn
  refine ⟨by omega, by omega, by omega, by omega⟩
theorem mks.bd (h : mks o op fs ss k kt us cn r) : kt + us ≤ 20800 ∧ cn ≤ 32 ∧ 98 ≤ r ∧ r ≤ 8064 := mkn.bd h
theorem mks.same (h : mks o op fs ss (k + 1) kt us cn r) : mks o op fs ss k kt us cn r := by
  have m1 : ∀ f : Nat → Nat, sms f (40 * o) k ≤ sms f (40 * o) (k + 1) := fun f => Nat.le_add_right _ _
  have e1 := m1 (cfi op); have e2 := m1 (cst op fs ss); have e3 := m1 (cod op); have e4 := m1 (ccn op); have e5 := m1 (cif op)
  exact mkn.mono h e1 (by omega) e4 e5 (by omega)
theorem mks_eq (h : mks o op fs ss (k + 1) kt us cn r) : mkn (sms (cfi op) (40 * o) k + cfi op (40 * o + k)) (2 * (sms (cst op fs ss) (40 * o) k + cst op fs ss (40 * o + k)) + 4 * (k + 1) + 98 * (sms (cod op) (40 * o) k + cod op (40 * o + k))) (sms (ccn op) (40 * o) k + ccn op (40 * o + k)) (sms (cif op) (40 * o) k + cif op (40 * o + k)) (sms (cst op fs ss) (40 * o) k + cst op fs ss (40 * o + k) + 2 * (k + 1)) kt us cn r := h
theorem mks.fi2 (h : mks o op fs ss (k + 1) kt us cn r) (e : op (40 * o + k) = 4) (hu : us' ≤ 2 * us) : mks o op fs ss k kt us' cn r := by
  have h := mks_eq h
  have e1 : cfi op (40 * o + k) = 1 := if_pos e
  rw [e1] at h
  exact mkn.mono (mkn.fi h hu) (Nat.le_refl _) (by omega) (by omega) (by omega) (by omega)
theorem mks.iff (h : mks o op fs ss (k + 1) kt us cn r) (e : op (40 * o + k) = 2) (hf : sms (cfi op) (40 * o) k ≤ 4) (hg : sms (cif op) (40 * o) (k + 1) ≤ 4) (hu : us' ≤ us + 2 * fs (40 * o + k) + 4) : mks o op fs ss k kt us' cn (2 * r + (2 * fs (40 * o + k) + 4)) := by
  have h := mks_eq h
  have e1 : cif op (40 * o + k) = 1 := if_pos e
  have e2 : cst op fs ss (40 * o + k) = fs (40 * o + k) := by unfold cst; rw [e, if_neg (by decide), if_pos (by decide)]
  have e3 : sms (cif op) (40 * o) (k + 1) = sms (cif op) (40 * o) k + cif op (40 * o + k) := rfl
  rw [e1, e2] at h
  have h1 := mkn.mono (f' := sms (cfi op) (40 * o) k) (w' := 2 * sms (cst op fs ss) (40 * o) k + 4 * k + 98 * sms (cod op) (40 * o) k + (2 * fs (40 * o + k) + 4)) (c' := sms (ccn op) (40 * o) k) (v' := sms (cst op fs ss) (40 * o) k + 2 * k + (fs (40 * o + k) + 2)) h (by omega) (by omega) (by omega) (Nat.le_refl _) (by omega)
  exact mkn.ifr (mkn.add h1 hf (by omega)) (by omega)
theorem mks.asr (h : mks o op fs ss (k + 1) kt us cn r) (e : op (40 * o + k) = 7) (hf : sms (cfi op) (40 * o) k ≤ 4) (hg : sms (cif op) (40 * o) k ≤ 4) (hu : us' ≤ us + fs (40 * o + k) + 1) : mks o op fs ss k kt us' cn (r + (fs (40 * o + k) + 1)) := by
  have h := mks_eq h
  have e2 : cst op fs ss (40 * o + k) = fs (40 * o + k) := by unfold cst; rw [e, if_neg (by decide), if_pos (by decide)]
  rw [e2] at h
  have h1 := mkn.mono (f' := sms (cfi op) (40 * o) k) (w' := 2 * sms (cst op fs ss) (40 * o) k + 4 * k + 98 * sms (cod op) (40 * o) k + (2 * fs (40 * o + k) + 4)) (c' := sms (ccn op) (40 * o) k) (g' := sms (cif op) (40 * o) k) (v' := sms (cst op fs ss) (40 * o) k + 2 * k + (fs (40 * o + k) + 2)) h (by omega) (by omega) (by omega) (by omega) (by omega)
  exact mkn.asr (mkn.add h1 hf (by omega)) hg
theorem mks.od (h : mks o op fs ss (k + 1) kt us cn r) (e : op (40 * o + k) = 6) (hf : sms (cfi op) (40 * o) k ≤ 4) (hu : us' ≤ us + 98) : mks o op fs ss k kt us' cn r := by
  have h := mks_eq h
  have e2 : cod op (40 * o + k) = 1 := if_pos e
  rw [e2] at h
  have h1 := mkn.mono (f' := sms (cfi op) (40 * o) k) (w' := 2 * sms (cst op fs ss) (40 * o) k + 4 * k + 98 * sms (cod op) (40 * o) k + 98) (c' := sms (ccn op) (40 * o) k) (g' := sms (cif op) (40 * o) k) (v' := sms (cst op fs ss) (40 * o) k + 2 * k) h (by omega) (by omega) (by omega) (by omega) (by omega)
  exact mkn.add h1 hf hu
theorem mks.wh (h : mks o op fs ss (k + 1) kt us cn r) (e : op (40 * o + k) = 5) (hf : sms (cfi op) (40 * o) k ≤ 4) (ht : t9 ≤ us) (hu : us' ≤ t9 + ss (40 * o + k)) (hk : kt' ≤ kt + (us - t9) + (3 * ss (40 * o + k) + 3 * fs (40 * o + k) + 15)) (hc : cn' ≤ cn + 3) : mks o op fs ss k kt' us' cn' r := by
  have h := mks_eq h
  have e1 : ccn op (40 * o + k) = 3 := by unfold ccn; rw [e]; rfl
  have e2 : cst op fs ss (40 * o + k) = fs (40 * o + k) + ss (40 * o + k) := by unfold cst; rw [e]; rfl
  rw [e1, e2] at h
  have h1 := mkn.mono (f' := sms (cfi op) (40 * o) k) (w' := 2 * sms (cst op fs ss) (40 * o) k + 4 * k + 98 * sms (cod op) (40 * o) k + (2 * (fs (40 * o + k) + ss (40 * o + k)) + 4)) (c' := sms (ccn op) (40 * o) k + 3) (g' := sms (cif op) (40 * o) k) (v' := sms (cst op fs ss) (40 * o) k + 2 * k) h (by omega) (by omega) (by omega) (by omega) (by omega)
  exact mkn.cut h1 hf ht hu hk (by omega) hc
theorem mks.cut (h : mks o op fs ss (k + 1) kt us cn r) (e : op (40 * o + k) = 8) (hf : sms (cfi op) (40 * o) k ≤ 4) (ht : t9 ≤ us) (hu : us' ≤ t9 + fs (40 * o + k)) (hk : kt' ≤ kt + (us - t9) + (fs (40 * o + k) + 2)) (hc : cn' ≤ cn + 1) : mks o op fs ss k kt' us' cn' r := by
  have h := mks_eq h
  have e1 : ccn op (40 * o + k) = 1 := by unfold ccn; rw [e]; rfl
  have e2 : cst op fs ss (40 * o + k) = fs (40 * o + k) := by unfold cst; rw [e]; rfl
  rw [e1, e2] at h
  have h1 := mkn.mono (f' := sms (cfi op) (40 * o) k) (w' := 2 * sms (cst op fs ss) (40 * o) k + 4 * k + 98 * sms (cod op) (40 * o) k + (2 * fs (40 * o + k) + 4)) (c' := sms (ccn op) (40 * o) k + 1) (g' := sms (cif op) (40 * o) k) (v' := sms (cst op fs ss) (40 * o) k + 2 * k) h (by omega) (by omega) (by omega) (by omega) (by omega)
  exact mkn.cut h1 hf ht hu hk (by omega) hc
theorem lpg_d (h : lpg o n P op lk fi fs se ss tg gh tn hv pl) (hk : k < n) (e : op (40 * o + k) = 3 ∨ op (40 * o + k) = 4 ∨ op (40 * o + k) = 6) : 1 ≤ dpi op (40 * o) k := by
  obtain ⟨sn, fn, wn, hp, _⟩ := h
  exact hp.2.2.2.2.1 k hk e
theorem dpi_up (e : op (40 * o + k) = 2 ∨ op (40 * o + k) = 5) : dpi op (40 * o) (k + 1) = dpi op (40 * o) k + 1 := if_pos e
theorem dpi_dn (e : op (40 * o + k) = 4 ∨ op (40 * o + k) = 6) : dpi op (40 * o) (k + 1) = dpi op (40 * o) k - 1 := (if_neg (by omega)).trans (if_pos e)
theorem dpi_eq (e : ¬ (op (40 * o + k) = 2 ∨ op (40 * o + k) = 5)) (e2 : ¬ (op (40 * o + k) = 4 ∨ op (40 * o + k) = 6)) : dpi op (40 * o) (k + 1) = dpi op (40 * o) k := (if_neg e).trans (if_neg e2)
end MKS
def kmi : Nat → Int32
  | 0 => -1
  | k + 1 => nI k
theorem kmi_dec : ∀ k, nI k + (-1) = kmi k
  | 0 => rfl
  | k + 1 => pk_m1 k
theorem kmi_sub : ∀ k, nI k - 1 = kmi k
  | 0 => rfl
  | k + 1 => (Int32.sub_eq_add_neg _ _).trans (pk_m1 k)
section RGS
variable {r r' k v v' : Nat} {tp tp' : Nat → Nat}
theorem rgs.one (h : rgs r tp (k + 1) v) (hl : ∀ i, i ≤ k → tp' i = tp i) (hr : r ≤ r') (hv : v' - tp k ≤ r') : rgs r' tp' (k + 1) v' := by
  obtain ⟨_, h2⟩ := h
  have e := hl k (Nat.le_refl _)
  refine ⟨by omega, ?_⟩
  rw [e]; exact h2.congr hr (fun i hi => hl i (by omega))
theorem rgs.two (h : rgs r tp (k + 2) v) (hl : ∀ i, i ≤ k → tp' i = tp i) (hr : r ≤ r') (hv : v' - tp k ≤ r') : rgs r' tp' (k + 1) v' := rgs.one (v := tp (k + 1)) h.2 hl hr hv
theorem rgs.dup (h : rgs r tp (k + 1) v) : rgs r (sup tp (k + 1) v) (k + 2) (v + (v - tp k)) := by
  have h1 := h.1
  refine ⟨by rw [sup_eq]; omega, ?_⟩
  rw [sup_eq]
  exact rgs.congr (Nat.le_refl _) h (fun i hi => sup_ne (by omega))
theorem rgs.swp (h : rgs r tp (k + 2) v) (hl : ∀ i, i ≤ k → tp' i = tp i) (e : tp' (k + 1) = tp k + (v - tp (k + 1))) (h1 : tp k ≤ tp (k + 1)) (h2 : tp (k + 1) ≤ v) : rgs r tp' (k + 2) v := by
  obtain ⟨a1, a2, a3⟩ := h
  have ek := hl k (Nat.le_refl _)
  refine ⟨by omega, by omega, ?_⟩
  rw [ek]; exact a3.congr (Nat.le_refl _) (fun i hi => hl i (by omega))
theorem rgs.new (h : rgs r tp k v) (hl : ∀ i, i < k → tp' i = tp i) (e : tp' k = v) (hv : v' - v ≤ r) : rgs r tp' (k + 1) v' := by
  refine ⟨by omega, ?_⟩
  rw [e]; exact h.congr (Nat.le_refl _) hl
theorem rgs.p1 (h : rgs r tp (k + 1) v) : v - tp k ≤ r := h.1
theorem rgs.p2 (h : rgs r tp (k + 2) v) : v - tp (k + 1) ≤ r ∧ tp (k + 1) - tp k ≤ r := ⟨h.1, h.2.1⟩
end RGS
theorem rgs_1 {r u : Nat} {tp : Nat → Nat} (h : u - tp 0 ≤ r) : rgs r tp 1 u := ⟨h, trivial⟩
theorem lpg_d0 {o n P : Nat} {op lk fi fs se ss tg gh : Nat → Nat} {tn hv pl : Nat → Int32} (h : lpg o n P op lk fi fs se ss tg gh tn hv pl) : dpi op (40 * o) n = 0 := by
  obtain ⟨sn, fn, wn, hp, _⟩ := h
  exact hp.2.2.2.1
