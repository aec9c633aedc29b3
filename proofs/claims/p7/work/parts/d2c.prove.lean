/-- what is demanded, the last one first; the rows asked of them together -/
def dml8 (dm : Nat → Nat) : Nat → List Nat
  | 0 => []
  | n + 1 => dm n :: dml8 dm n
def vl8 (o : Nat → Nat) (dm ix : Nat → Nat) : Nat → Nat
  | 0 => 0
  | n + 1 => ix n * pd8 o (dml8 dm n) + vl8 o dm ix n
def dg8 (o : Nat → Nat) (dm ix : Nat → Nat) (n : Nat) : Prop := ∀ i, i < n → ix i < rwo o (dm i)
def jx8 (f : Nat → Int32) : Nat → Nat := fun i => i2n (f i)
/-- heights and sizes of what waits -/
def hh8 (l : List sgT) (dm : Nat → Nat) (w : Nat) : Prop := ∀ i, i < w → i + dpl l (dm i / 2) ≤ 64 ∧ dm i / 2 < l.length
def sz8 (l : List sgT) (dm : Nat → Nat) : Nat → Nat
  | 0 => 0
  | n + 1 => sz8 l dm n + szl l (dm n / 2)
section DML
variable {o : Nat → Nat} {dm dm' ix ix' : Nat → Nat} {l : List sgT} {w x d : Nat} {f : Nat → Int32}
theorem dml8_congr : ∀ n, (∀ i, i < n → dm' i = dm i) → dml8 dm' n = dml8 dm n
  | 0, _ => rfl
  | n + 1, h => by
    show dm' n :: dml8 dm' n = dm n :: dml8 dm n
    rw [dml8_congr n (fun i hi => h i (by omega)), h n (by omega)]
theorem vl8_congr : ∀ n, (∀ i, i < n → dm' i = dm i) → (∀ i, i < n → ix' i = ix i) → vl8 o dm' ix' n = vl8 o dm ix n
  | 0, _, _ => rfl
  | n + 1, h, h2 => by
    show ix' n * pd8 o (dml8 dm' n) + vl8 o dm' ix' n = ix n * pd8 o (dml8 dm n) + vl8 o dm ix n
    rw [dml8_congr n (fun i hi => h i (by omega)), vl8_congr n (fun i hi => h i (by omega)) (fun i hi => h2 i (by omega)), h2 n (by omega)]
theorem sz8_congr : ∀ n, (∀ i, i < n → dm' i = dm i) → sz8 l dm' n = sz8 l dm n
  | 0, _ => rfl
  | n + 1, h => by
    show sz8 l dm' n + szl l (dm' n / 2) = sz8 l dm n + szl l (dm n / 2)
    rw [sz8_congr n (fun i hi => h i (by omega)), h n (by omega)]
theorem vl8_lt : ∀ n, dg8 o dm ix n → vl8 o dm ix n < pd8 o (dml8 dm n)
  | 0, _ => Nat.lt_succ_self 0
  | n + 1, h => by
    have h1 := vl8_lt n (fun i hi => h i (by omega))
    have h2 := h n (by omega)
    show ix n * pd8 o (dml8 dm n) + vl8 o dm ix n < rwo o (dm n) * pd8 o (dml8 dm n)
    have h3 : (ix n + 1) * pd8 o (dml8 dm n) ≤ rwo o (dm n) * pd8 o (dml8 dm n) := Nat.mul_le_mul_right _ h2
    rw [Nat.add_mul, Nat.one_mul] at h3
    omega
theorem vl8_dv {n : Nat} (h : dg8 o dm ix n) : (x * pd8 o (dml8 dm n) + vl8 o dm ix n) / pd8 o (dml8 dm n) = x ∧ (x * pd8 o (dml8 dm n) + vl8 o dm ix n) % pd8 o (dml8 dm n) = vl8 o dm ix n := by
  have h1 := vl8_lt n h
  rw [Nat.mul_comm x, Nat.mul_add_div (pd8_pos _), Nat.mul_add_mod, Nat.div_eq_of_lt h1, Nat.mod_eq_of_lt h1, Nat.add_zero]
  exact ⟨rfl, rfl⟩
theorem jx8_up (hx : x < 4294967296) : jx8 (upd f w (nI x)) = sup (jx8 f) w x := by
  funext i
  show i2n (upd f w (nI x) i) = _
  by_cases e : i = w
  · subst e
    rw [upd_eq, sup_eq, i2n_nI (by omega)]
  · rw [upd_ne e, sup_ne e]; rfl
theorem dml8_s : dml8 (sup dm w d) (w + 1) = d :: dml8 dm w := by
  show sup dm w d w :: dml8 (sup dm w d) w = _
  rw [sup_eq, dml8_congr w (fun i hi => sup_ne (by omega))]
theorem vl8_s : vl8 o (sup dm w d) (sup ix w x) (w + 1) = x * pd8 o (dml8 dm w) + vl8 o dm ix w := by
  show sup ix w x w * pd8 o (dml8 (sup dm w d) w) + vl8 o (sup dm w d) (sup ix w x) w = _
  rw [sup_eq, dml8_congr w (fun i hi => sup_ne (by omega)), vl8_congr w (fun i hi => sup_ne (by omega)) (fun i hi => sup_ne (by omega))]
theorem dg8_s (h : dg8 o dm ix w) (hx : x < rwo o d) : dg8 o (sup dm w d) (sup ix w x) (w + 1) := fun i hi => by
  by_cases e : i = w
  · subst e; rw [sup_eq, sup_eq]; exact hx
  · rw [sup_ne e, sup_ne e]; exact h i (by omega)
theorem hh8_s (h : hh8 l dm w) (h1 : w + dpl l (d / 2) ≤ 64) (h2 : d / 2 < l.length) : hh8 l (sup dm w d) (w + 1) := fun i hi => by
  by_cases e : i = w
  · subst e; rw [sup_eq]; exact ⟨h1, h2⟩
  · rw [sup_ne e]; exact h i (by omega)
theorem hh8.le (h : hh8 l dm w) : w ≤ 64 := by
  cases w with
  | zero => omega
  | succ n =>
    have h1 := (h n (Nat.lt_succ_self n)).1
    have h2 : 1 ≤ dpl l (dm n / 2) := dpl_pos
    omega
theorem sz8_s : sz8 l (sup dm w d) (w + 1) = sz8 l dm w + szl l (d / 2) := by
  show sz8 l (sup dm w d) w + szl l (sup dm w d w / 2) = _
  rw [sup_eq, sz8_congr w (fun i hi => sup_ne (by omega))]
theorem sz8_0 (h : sz8 l dm w = 0) : w = 0 := by
  cases w with
  | zero => rfl
  | succ n =>
    have h1 : sz8 l dm n + szl l (dm n / 2) = 0 := h
    have h2 : 1 ≤ szl l (dm n / 2) := szo_pos
    omega
end DML
/-- a demand divided: the step that the machine does -/
def dvQ8 (l : List sgT) (d w x : Nat) (dm : Nat → Nat) (ix : Nat → Int32) (dm' : Nat → Nat) (ix' : Nat → Int32) (w' : Nat) : Prop := sp8 l (d :: dml8 dm w) (x * pd8 (olf l) (dml8 dm w) + vl8 (olf l) dm (jx8 ix) w) = (dml8 dm' w', vl8 (olf l) dm' (jx8 ix') w') ∧ dg8 (olf l) dm' (jx8 ix') w' ∧ hh8 l dm' w' ∧ sz8 l dm' w' + 1 ≤ sz8 l dm w + szl l (d / 2)
/-- what must hold for it -/
def dvP8 (l : List sgT) (d w x : Nat) (dm : Nat → Nat) (ix : Nat → Int32) : Prop := dg8 (olf l) dm (jx8 ix) w ∧ hh8 l dm w ∧ x < rwo (olf l) d ∧ w + dpl l (d / 2) ≤ 64 ∧ d / 2 < l.length ∧ pd8 (olf l) (d :: dml8 dm w) ≤ 5000
section DV
variable {l : List sgT} {nd tr w x a q y r : Nat} {dm : Nat → Nat} {ix : Nat → Int32}
theorem dvP8.sm {d : Nat} (h : dvP8 l d w x dm ix) : w < 64 ∧ x ≤ 5000 := by
  have h1 : 1 ≤ dpl l (d / 2) := dpl_pos
  have h2 := h.2.2.2.1
  have h3 := h.2.2.1
  have h4 := pd8_big h.2.2.2.2.2
  omega
theorem dpl_n6 {k : Nat} (h : olf l k = 6) (hk : 1 ≤ k) : dpl l k = 1 + dpl l (k - 1) := dpo_n h hk
theorem dpl_b7 {k : Nat} (h : 7 ≤ olf l k) (hk : 1 ≤ k) : dpl l k = 1 + max (dpl l (k - 1)) (dpl l (k - 1 - szl l (k - 1))) := dpo_b h hk
theorem szl_n6 {k : Nat} (h : olf l k = 6) (hk : 1 ≤ k) : szl l k = 1 + szl l (k - 1) := szo_n h hk
theorem szl_b7 {k : Nat} (h : 7 ≤ olf l k) (hk : 1 ≤ k) : szl l k = 1 + szl l (k - 1) + szl l (k - 1 - szl l (k - 1)) := szo_b h hk
theorem dvP8.b7 (h : dvP8 l (2 * nd + tr) w x dm ix) (ht : tr ≤ 1) (h7 : 7 ≤ olf l nd) (h1 : 1 ≤ nd) : w + 1 < 64 := by
  have h2 := h.2.2.2.1
  rw [(dm_t ht).1] at h2
  have e := dpl_b7 h7 h1
  have h3 : 1 ≤ dpl l (nd - 1) := dpl_pos
  have h4 : dpl l (nd - 1) ≤ max (dpl l (nd - 1)) (dpl l (nd - 1 - szl l (nd - 1))) := Nat.le_max_left _ _
  omega
theorem ntd_t (ht : tr ≤ 1) : ntd (2 * nd + tr) = 2 * (nd - 1) + (1 - tr) := by
  unfold ntd
  rw [(dm_t ht).1, (dm_t ht).2]
theorem rgd_t (ht : tr ≤ 1) : rgd (2 * nd + tr) = 2 * (nd - 1) + tr := by
  unfold rgd
  rw [(dm_t ht).1, (dm_t ht).2]
theorem lfd_t (ht : tr ≤ 1) : lfd (olf l) (2 * nd + tr) = 2 * (nd - 1 - szl l (nd - 1)) + tr := by
  unfold lfd
  rw [(dm_t ht).1, (dm_t ht).2]; rfl
theorem dvQ8_n (h : dvP8 l (2 * nd + tr) w x dm ix) (ht : tr ≤ 1) (h6 : olf l nd = 6) (h1 : 1 ≤ nd) (ea : a = nd - 1) : dvQ8 l (2 * nd + tr) w x dm ix (sup dm w (2 * a + (1 - tr))) (upd ix w (nI x)) (w + 1) := by
  subst ea
  obtain ⟨hw, hx⟩ := h.sm
  obtain ⟨p1, p2, p3, p4, p5, p6⟩ := h
  rw [(dm_t ht).1] at p4 p5
  have e1 := dpl_n6 h6 h1
  have e2 := szl_n6 h6 h1
  have e3 : (2 * (nd - 1) + (1 - tr)) / 2 = nd - 1 := by omega
  rw [← ntd_t ht] at e3
  have er : rwo (olf l) (2 * nd + tr) = rwo (olf l) (ntd (2 * nd + tr)) := rwo_n (by rw [(dm_t ht).1]; exact h6) (by rw [(dm_t ht).1]; omega)
  unfold dvQ8
  rw [← ntd_t ht, sp8_n (by rw [(dm_t ht).1]; exact h6) (by rw [(dm_t ht).1]; omega), dml8_s, jx8_up (by omega), vl8_s, sz8_s, e3, (dm_t ht).1]
  exact ⟨rfl, dg8_s p1 (by rw [← er]; exact p3), hh8_s p2 (by rw [e3]; omega) (by rw [e3]; omega), by omega⟩
theorem dvQ8_l (h : dvP8 l (2 * nd + tr) w x dm ix) (ht : tr ≤ 1) (h7 : 7 ≤ olf l nd) (h1 : 1 ≤ nd) (hb : ¬ olf l nd + tr = 8) (ea : a = nd - 1 - szl l (nd - 1)) (hx : x < rwo (olf l) (2 * a + tr)) : dvQ8 l (2 * nd + tr) w x dm ix (sup dm w (2 * a + tr)) (upd ix w (nI x)) (w + 1) := by
  subst ea
  obtain ⟨hw, hx5⟩ := h.sm
  obtain ⟨p1, p2, p3, p4, p5, p6⟩ := h
  rw [(dm_t ht).1] at p4 p5
  have e1 := dpl_b7 h7 h1
  have e2 := szl_b7 h7 h1
  have e3 := (lfd_h (o := olf l) (d := 2 * nd + tr)).1
  rw [(dm_t ht).1] at e3
  rw [← lfd_t ht] at hx
  have e4 : lfd (olf l) (2 * nd + tr) / 2 = nd - 1 - szl l (nd - 1) := e3
  have hs : x * pd8 (olf l) (dml8 dm w) + vl8 (olf l) dm (jx8 ix) w < rwo (olf l) (lfd (olf l) (2 * nd + tr)) * pd8 (olf l) (dml8 dm w) := by
    have q1 := vl8_lt w p1
    have q2 : (x + 1) * pd8 (olf l) (dml8 dm w) ≤ rwo (olf l) (lfd (olf l) (2 * nd + tr)) * pd8 (olf l) (dml8 dm w) := Nat.mul_le_mul_right _ hx
    rw [Nat.add_mul, Nat.one_mul] at q2
    omega
  unfold dvQ8
  rw [← lfd_t ht, sp8_l (by rw [(dm_t ht).1]; exact h7) (by rw [(dm_t ht).1]; omega) (by rw [(dm_t ht).1, (dm_t ht).2]; exact hb) hs, dml8_s, jx8_up (by omega), vl8_s, sz8_s, e4, (dm_t ht).1]
  exact ⟨rfl, dg8_s p1 hx, hh8_s p2 (by rw [e4]; omega) (by rw [e4]; omega), by omega⟩
theorem dvQ8_r (h : dvP8 l (2 * nd + tr) w x dm ix) (ht : tr ≤ 1) (h7 : 7 ≤ olf l nd) (h1 : 1 ≤ nd) (hb : ¬ olf l nd + tr = 8) (ea : a = nd - 1 - szl l (nd - 1)) (hx : ¬ x < rwo (olf l) (2 * a + tr)) (q1 : q = nd - 1) (ey : y = x - rwo (olf l) (2 * a + tr)) : dvQ8 l (2 * nd + tr) w x dm ix (sup dm w (2 * q + tr)) (upd ix w (nI y)) (w + 1) := by
  subst ea q1
  obtain ⟨hw, hx5⟩ := h.sm
  obtain ⟨p1, p2, p3, p4, p5, p6⟩ := h
  have hbg := pd8_big p6
  rw [(dm_t ht).1] at p4 p5
  have e1 := dpl_b7 h7 h1
  have e2 := szl_b7 h7 h1
  have e4 : rgd (2 * nd + tr) / 2 = nd - 1 := by rw [rgd_h.1, (dm_t ht).1]
  rw [← lfd_t ht] at hx ey
  have e5 := rwo_e (o := olf l) (d := 2 * nd + tr) (by rw [(dm_t ht).1]; exact h7) (by rw [(dm_t ht).1]; omega) (by rw [(dm_t ht).1, (dm_t ht).2]; exact hb)
  rw [lm8_id (by rw [← e5]; exact hbg)] at e5
  have q2 : rwo (olf l) (lfd (olf l) (2 * nd + tr)) * pd8 (olf l) (dml8 dm w) ≤ x * pd8 (olf l) (dml8 dm w) := Nat.mul_le_mul_right _ (by omega)
  have q3 : x * pd8 (olf l) (dml8 dm w) = rwo (olf l) (lfd (olf l) (2 * nd + tr)) * pd8 (olf l) (dml8 dm w) + y * pd8 (olf l) (dml8 dm w) := by
    rw [← Nat.add_mul, ey, show rwo (olf l) (lfd (olf l) (2 * nd + tr)) + (x - rwo (olf l) (lfd (olf l) (2 * nd + tr))) = x by omega]
  have q4 : x * pd8 (olf l) (dml8 dm w) + vl8 (olf l) dm (jx8 ix) w - rwo (olf l) (lfd (olf l) (2 * nd + tr)) * pd8 (olf l) (dml8 dm w) = y * pd8 (olf l) (dml8 dm w) + vl8 (olf l) dm (jx8 ix) w := by omega
  unfold dvQ8
  rw [← rgd_t ht, sp8_r (by rw [(dm_t ht).1]; exact h7) (by rw [(dm_t ht).1]; omega) (by rw [(dm_t ht).1, (dm_t ht).2]; exact hb) (by omega), q4, dml8_s, jx8_up (by omega), vl8_s, sz8_s, e4, (dm_t ht).1]
  exact ⟨rfl, dg8_s p1 (by omega), hh8_s p2 (by rw [e4]; omega) (by rw [e4]; omega), by omega⟩
theorem dvQ8_y (h : dvP8 l (2 * nd + tr) w x dm ix) (ht : tr ≤ 1) (h7 : 7 ≤ olf l nd) (h1 : 1 ≤ nd) (hb : olf l nd + tr = 8) (ea : a = nd - 1 - szl l (nd - 1)) (q1 : q = nd - 1) (ey : y = x % rwo (olf l) (2 * q + tr)) (er : r = x / rwo (olf l) (2 * q + tr)) : dvQ8 l (2 * nd + tr) w x dm ix (sup (sup dm w (2 * q + tr)) (w + 1) (2 * a + tr)) (upd (upd ix w (nI y)) (w + 1) (nI r)) (w + 1 + 1) := by
  subst ea q1
  obtain ⟨hw, hx5⟩ := h.sm
  obtain ⟨p1, p2, p3, p4, p5, p6⟩ := h
  have hbg := pd8_big p6
  rw [(dm_t ht).1] at p4 p5
  have e1 := dpl_b7 h7 h1
  have e2 := szl_b7 h7 h1
  have e4 : rgd (2 * nd + tr) / 2 = nd - 1 := by rw [rgd_h.1, (dm_t ht).1]
  have e3 : lfd (olf l) (2 * nd + tr) / 2 = nd - 1 - szl l (nd - 1) := by
    have := (lfd_h (o := olf l) (d := 2 * nd + tr)).1
    rw [(dm_t ht).1] at this
    exact this
  rw [← rgd_t ht] at ey er
  have e5 := rwo_y (o := olf l) (d := 2 * nd + tr) (by rw [(dm_t ht).1]; exact h7) (by rw [(dm_t ht).1]; omega) (by rw [(dm_t ht).1, (dm_t ht).2]; exact hb)
  rw [lm8_id (by rw [← e5]; exact hbg)] at e5
  have hp := rwo_pos (o := olf l) (d := rgd (2 * nd + tr))
  have g1 : y < rwo (olf l) (rgd (2 * nd + tr)) := by rw [ey]; exact Nat.mod_lt _ hp
  have g2 : r < rwo (olf l) (lfd (olf l) (2 * nd + tr)) := by
    rw [er]
    exact (Nat.div_lt_iff_lt_mul hp).mpr (by rw [← e5]; exact p3)
  have g3 : r * rwo (olf l) (rgd (2 * nd + tr)) + y = x := by
    rw [er, ey, Nat.mul_comm]; exact Nat.div_add_mod _ _
  have g4 : y ≤ x := by rw [ey]; exact Nat.mod_le _ _
  have g5 : r ≤ x := by rw [er]; exact Nat.div_le_self _ _
  unfold dvQ8
  rw [← lfd_t ht, ← rgd_t ht, sp8_y (by rw [(dm_t ht).1]; exact h7) (by rw [(dm_t ht).1]; omega) (by rw [(dm_t ht).1, (dm_t ht).2]; exact hb), dml8_s, dml8_s, jx8_up (by omega), jx8_up (by omega), vl8_s, vl8_s, dml8_s, sz8_s, sz8_s, e4, e3, (dm_t ht).1]
  refine ⟨?_, dg8_s (dg8_s p1 g1) g2, hh8_s (hh8_s p2 (by rw [e4]; omega) (by rw [e4]; omega)) (by rw [e3]; omega) (by rw [e3]; omega), by omega⟩
  congr 1
  show x * pd8 (olf l) (dml8 dm w) + _ = r * (rwo (olf l) (rgd (2 * nd + tr)) * pd8 (olf l) (dml8 dm w)) + (y * pd8 (olf l) (dml8 dm w) + _)
  rw [← Nat.mul_assoc, ← Nat.add_assoc, ← Nat.add_mul, g3]
end DV
/-- the demand of a formula that is to be false -/
def rt8 (l : List sgT) : List Nat := [2 * (l.length - 1)]
/-- fits, behind t demands -/
def ftI8 (l : List sgT) (r t : Nat) (dm : Nat → Nat) (ix : Nat → Int32) (w : Nat) : Prop := sn8 l (rt8 l) r t = (dml8 dm w, vl8 (olf l) dm (jx8 ix) w) ∧ dg8 (olf l) dm (jx8 ix) w ∧ hh8 l dm w ∧ sz8 l dm w + t ≤ l.length
def fbI8 (l : List sgT) (r t fi : Nat) (mo lv : Nat → Int32) : Prop := (fi = 1 → grt8 (sol8 (mL8 mo)) (lI8 lv) ∧ ∀ v, sol8 (mL8 mo) v ↔ (npo8 v ∧ tk8 l (rt8 l) r v t)) ∧ (fi = 0 → ∃ k, t = k + 1 ∧ (¬ ∃ v, npo8 v ∧ tk8 l (rt8 l) r v (k + 1)) ∧ ∃ v, npo8 v ∧ tk8 l (rt8 l) r v k)
/-- what fits answers -/
def fqQ8 (l : List sgT) (r : Nat) (dm : Nat → Nat) (w : Nat) (lv : Nat → Int32) (u : Nat) : Prop := (u = 1 → grt8 (psv8 l r) (lI8 lv)) ∧ (u = 0 → ∃ k, ((¬ ∃ v, npo8 v ∧ tk8 l (rt8 l) r v (k + 1)) ∧ ∃ v, npo8 v ∧ tk8 l (rt8 l) r v k) ∧ (sn8 l (rt8 l) r (k + 1)).1 = dml8 dm w)
section FT
variable {l : List sgT} {r t w w' x u fi : Nat} {dm dm' : Nat → Nat} {ix ix' mo lv mo2 lv2 : Nat → Int32}
theorem ftI8_0 (hr : r < rwl8 l) (hl : 1 ≤ l.length) (hd : dpl l (l.length - 1) ≤ 64) (hs : szl l (l.length - 1) ≤ l.length) (hr5 : r < 5001) : ftI8 l r 0 (sup dm 0 (2 * (l.length - 1))) (upd ix 0 (nI r)) 1 := by
  have e : (2 * (l.length - 1)) / 2 = l.length - 1 := by omega
  have q1 : dml8 (sup dm 0 (2 * (l.length - 1))) (0 + 1) = 2 * (l.length - 1) :: dml8 dm 0 := dml8_s
  refine ⟨?_, ?_, ?_, ?_⟩
  · show (rt8 l, r) = (dml8 (sup dm 0 (2 * (l.length - 1))) (0 + 1), vl8 (olf l) (sup dm 0 (2 * (l.length - 1))) (jx8 (upd ix 0 (nI r))) (0 + 1))
    rw [q1, jx8_up (by omega), vl8_s]
    show (rt8 l, r) = ([2 * (l.length - 1)], r * 1 + 0)
    rw [Nat.mul_one, Nat.add_zero]; rfl
  · show dg8 (olf l) _ _ (0 + 1)
    rw [jx8_up (by omega)]
    exact dg8_s (fun i hi => absurd hi (Nat.not_lt_zero _)) hr
  · show hh8 l _ (0 + 1)
    exact hh8_s (fun i hi => absurd hi (Nat.not_lt_zero _)) (by rw [e]; omega) (by rw [e]; omega)
  · show sz8 l (sup dm 0 (2 * (l.length - 1))) (0 + 1) + 0 ≤ l.length
    rw [sz8_s, e]
    show 0 + szl l (l.length - 1) + 0 ≤ l.length
    omega
theorem fbI8_0 (hg : grt8 (sol8 (mL8 mo)) (lI8 lv)) (hf : ∀ v, sol8 (mL8 mo) v ↔ npo8 v) : fbI8 l r 0 1 mo lv := ⟨fun _ => ⟨hg, fun v => (hf v).trans ⟨fun q => ⟨q, trivial⟩, fun q => q.1⟩⟩, fun q => absurd q (by decide)⟩
/-- the state at the head: the last demand and the rest -/
theorem ftI8.hd (h : ftI8 l r t dm ix (w + 1)) (h5 : rwl8 l ≤ 5000) (hr : r < rwl8 l) (hi : ix w = nI x) (hx : x < 4294967296) : dvP8 l (dm w) w x dm ix ∧ sn8 l (rt8 l) r t = (dm w :: dml8 dm w, x * pd8 (olf l) (dml8 dm w) + vl8 (olf l) dm (jx8 ix) w) := by
  obtain ⟨h1, h2, h3, h4⟩ := h
  have ex : jx8 ix w = x := by
    show i2n (ix w) = x
    rw [hi, i2n_nI (by omega)]
  have e1 : sn8 l (rt8 l) r t = (dm w :: dml8 dm w, x * pd8 (olf l) (dml8 dm w) + vl8 (olf l) dm (jx8 ix) w) := by
    rw [h1, ← ex]; rfl
  have hN : pd8 (olf l) (rt8 l) ≤ 5000 := by
    show pd8 (olf l) [_] ≤ 5000
    rw [pd8_1]; exact h5
  obtain ⟨c, b1, b2, b3, b4⟩ := sn8_blk hN (x := r) (by show r < pd8 (olf l) [_]; rw [pd8_1]; exact hr) t
  rw [e1] at b3
  have b5 : c + pd8 (olf l) (dm w :: dml8 dm w) ≤ pd8 (olf l) (rt8 l) := b3
  have h3w := h3 w (by omega)
  refine ⟨⟨fun i hi2 => h2 i (by omega), fun i hi2 => h3 i (by omega), ?_, h3w.1, h3w.2, by omega⟩, e1⟩
  rw [← ex]; exact h2 w (by omega)
theorem ftI8.nx (h : ftI8 l r t dm ix (w + 1)) (e1 : sn8 l (rt8 l) r t = (dm w :: dml8 dm w, x * pd8 (olf l) (dml8 dm w) + vl8 (olf l) dm (jx8 ix) w)) (hd : dvQ8 l (dm w) w x dm ix dm' ix' w') : ftI8 l r (t + 1) dm' ix' w' := by
  obtain ⟨h1, h2, h3, h4⟩ := h
  obtain ⟨d1, d2, d3, d4⟩ := hd
  have h5 : sz8 l dm w + szl l (dm w / 2) + t ≤ l.length := h4
  refine ⟨?_, d2, d3, by omega⟩
  show sp8 l (sn8 l (rt8 l) r t).1 (sn8 l (rt8 l) r t).2 = _
  rw [e1]; exact d1
theorem ftI8.at (h : ftI8 l r t dm ix (w + 1)) (h6 : olf l (dm w / 2) < 6) (e1 : sn8 l (rt8 l) r t = (dm w :: dml8 dm w, x * pd8 (olf l) (dml8 dm w) + vl8 (olf l) dm (jx8 ix) w)) : ftI8 l r (t + 1) dm ix w := by
  obtain ⟨h1, h2, h3, h4⟩ := h
  have h5 : sz8 l dm w + szl l (dm w / 2) + t ≤ l.length := h4
  have h9 : 1 ≤ szl l (dm w / 2) := szo_pos
  refine ⟨?_, fun i hi => h2 i (by omega), fun i hi => h3 i (by omega), by omega⟩
  show sp8 l (sn8 l (rt8 l) r t).1 (sn8 l (rt8 l) r t).2 = _
  rw [e1]
  show sp8 l (dm w :: dml8 dm w) (x * pd8 (olf l) (dml8 dm w) + vl8 (olf l) dm (jx8 ix) w) = _
  rw [sp8_a (Or.inl h6), (vl8_dv (fun i hi => h2 i (by omega))).2]
theorem fbI8.nx (h : fbI8 l r t 1 mo lv) (e1 : sn8 l (rt8 l) r t = (dm w :: dml8 dm w, x * pd8 (olf l) (dml8 dm w) + vl8 (olf l) dm (jx8 ix) w)) (h6 : ¬ olf l (dm w / 2) < 6) (h0 : ¬ dm w / 2 = 0) : fbI8 l r (t + 1) 1 mo lv := by
  obtain ⟨a, b⟩ := h.1 rfl
  refine ⟨fun _ => ⟨a, fun v => (b v).trans ?_⟩, fun q => absurd q (by decide)⟩
  show _ ↔ (npo8 v ∧ (tk8 l (rt8 l) r v t ∧ tc8 l v (sn8 l (rt8 l) r t).1 (sn8 l (rt8 l) r t).2))
  rw [e1]
  show _ ↔ (npo8 v ∧ (tk8 l (rt8 l) r v t ∧ tc8 l v (dm w :: dml8 dm w) (x * pd8 (olf l) (dml8 dm w) + vl8 (olf l) dm (jx8 ix) w)))
  rw [tc8_t (by omega), and_true]
theorem fbI8.at (h : fbI8 l r t 1 mo lv) (hg : dg8 (olf l) dm (jx8 ix) w) (e1 : sn8 l (rt8 l) r t = (dm w :: dml8 dm w, x * pd8 (olf l) (dml8 dm w) + vl8 (olf l) dm (jx8 ix) w)) (h6 : olf l (dm w / 2) < 6) (hb : bnQ8 mo lv (fun v => atq8 (ath l (dm w / 2)) (dm w % 2) x v) mo2 lv2 u) : fbI8 l r (t + 1) u mo2 lv2 := by
  obtain ⟨a, b⟩ := h.1 rfl
  have e2 : ∀ v, tk8 l (rt8 l) r v (t + 1) ↔ (tk8 l (rt8 l) r v t ∧ atq8 (ath l (dm w / 2)) (dm w % 2) x v) := fun v => by
    show (tk8 l (rt8 l) r v t ∧ tc8 l v (sn8 l (rt8 l) r t).1 (sn8 l (rt8 l) r t).2) ↔ _
    rw [e1]
    show (tk8 l (rt8 l) r v t ∧ tc8 l v (dm w :: dml8 dm w) (x * pd8 (olf l) (dml8 dm w) + vl8 (olf l) dm (jx8 ix) w)) ↔ _
    rw [tc8_a (Or.inl h6), (vl8_dv hg).1]
  refine ⟨fun q => ⟨(hb.1 q).1.2, fun v => ?_⟩, fun q => ⟨t, rfl, fun ⟨v, v1, v2⟩ => ?_, ?_⟩⟩
  · rw [(hb.1 q).2 v, b v, e2 v, and_assoc]
  · exact hb.2 q ⟨v, (b v).mpr ⟨v1, ((e2 v).mp v2).1⟩, ((e2 v).mp v2).2⟩
  · exact ⟨_, (b _).mp a.1⟩
theorem fqQ8_y (h : ftI8 l r t dm ix w) (hb : fbI8 l r t 1 mo lv) (h5 : rwl8 l ≤ 5000) (hr : r < rwl8 l) (hw : w = 0) {dm9 : Nat → Nat} {w9 : Nat} : fqQ8 l r dm9 w9 lv 1 := by
  have hN : pd8 (olf l) (rt8 l) ≤ 5000 := by
    show pd8 (olf l) [_] ≤ 5000
    rw [pd8_1]; exact h5
  obtain ⟨a, b⟩ := hb.1 rfl
  refine ⟨fun _ => a.congr (fun v => ?_), fun q => absurd q (by decide)⟩
  have e := sn8_rst (v := v) hN (x := r) (by show r < pd8 (olf l) [_]; rw [pd8_1]; exact hr) t
  rw [h.1, hw] at e
  have e2 : rst8 l v (rt8 l) r ↔ rso l v (2 * (l.length - 1)) r := rst8_1
  have e3 : rst8 l v (dml8 dm 0) (vl8 (olf l) dm (jx8 ix) 0) := trivial
  rw [b v]
  unfold psv8
  rw [← e2, e]
  exact ⟨fun q => ⟨q.1, q.2, e3⟩, fun q => ⟨q.1, q.2.1⟩⟩
theorem fqQ8_n (h : ftI8 l r t dm ix w) (hb : fbI8 l r t 0 mo lv) {lv9 : Nat → Int32} : fqQ8 l r dm w lv9 0 := by
  obtain ⟨k, e, k1, k2⟩ := hb.2 rfl
  refine ⟨fun q => absurd q (by decide), fun _ => ⟨k, ⟨k1, k2⟩, ?_⟩⟩
  rw [← e, h.1]
theorem ftI8.end (h : ftI8 l r t dm ix w) (ht : l.length ≤ t) : w = 0 := sz8_0 (l := l) (dm := dm) (by have := h.2.2.2; omega)
end FT
/-- the search at row r: those ahead of it are not possible, and it is the first of its kind -/
def srI8 (l : List sgT) (r : Nat) : Prop := (∀ r', r' < r → r' < rwl8 l → ¬ psb8 l r') ∧ (r < rwl8 l → ∀ k, ¬ (sn8 l (rt8 l) r k).2 = 0 → ∃ v, npo8 v ∧ tk8 l (rt8 l) r v k)
section SR
variable {l : List sgT} {r w n : Nat} {dm : Nat → Nat} {lv : Nat → Int32}
theorem srI8_0 (h5 : rwl8 l ≤ 5000) : srI8 l 0 := ⟨fun r' h => absurd h (Nat.not_lt_zero _), fun _ => nx8_0 (by show pd8 (olf l) [_] ≤ 5000; rw [pd8_1]; exact h5)⟩
theorem srI8.nx (h : srI8 l r) (h5 : rwl8 l ≤ 5000) (hr : r < rwl8 l) (hf : fqQ8 l r dm w lv 0) (en : n = pd8 (olf l) (dml8 dm w)) : srI8 l (r + n) ∧ r + n ≤ rwl8 l ∧ 1 ≤ n := by
  obtain ⟨k, ⟨k1, k2⟩, k3⟩ := hf.2 rfl
  have e : pd8 (olf l) (rt8 l) = rwl8 l := pd8_1
  obtain ⟨a, b, c, d⟩ := nx8 (l := l) (D := rt8 l) (r := r) (t := k) (n := n) (by rw [e]; exact h5) (by rw [e]; exact hr) (h.2 hr) k2 k1 (by rw [k3, en])
  rw [e] at b d
  refine ⟨⟨fun r' h1 h2 => ?_, d⟩, b, c⟩
  rcases Nat.lt_or_ge r' r with q | q
  · exact h.1 r' q h2
  · intro ⟨v, hv⟩
    exact a r' q h1 ⟨v, hv.1, rst8_1.mpr hv.2⟩
/-- what search has found -/
def srQ8 (l : List sgT) (x : Int32) (lv : Nat → Int32) : Prop := frq8 l x ∧ ∀ r, x = nI r → r < 5001 → grt8 (psv8 l r) (lI8 lv)
theorem srQ8_y (h : srI8 l r) (h5 : rwl8 l ≤ 5000) (hr : r < rwl8 l) (hf : fqQ8 l r dm w lv 1) : srQ8 l (nI r) lv := by
  have hg := hf.1 rfl
  refine ⟨Or.inr ⟨r, hr, by omega, rfl, ⟨_, hg.1⟩, fun r' h1 => h.1 r' h1 (by omega)⟩, fun r' e h1 => ?_⟩
  have := (nI_eq (a := r) (b := r') (by omega) (by omega)).mp e
  subst this; exact hg
theorem srQ8_n (h : srI8 l r) (hr : rwl8 l ≤ r) : srQ8 l (-1) lv := ⟨Or.inl ⟨rfl, Or.inr (fun r' h1 => h.1 r' (by omega) h1)⟩, fun r' e h1 => absurd e.symm (nIm1 (by omega))⟩
theorem srQ8_m (h5 : rwl8 l = 5001) : srQ8 l (-1) lv := ⟨Or.inl ⟨rfl, Or.inl h5⟩, fun r' e h1 => absurd e.symm (nIm1 (by omega))⟩
end SR
/-- rows of the first k nodes -/
def roQ8 (l : List sgT) (k : Nat) (ro : Nat → Int32) : Prop := ∀ d, d < 2 * k → ro d = nI (rwo (olf l) d)
section RO
variable {l : List sgT} {k c y x : Nat} {ro : Nat → Int32} {z1 z2 : Int32}
theorem roQ8_s1 (h : roQ8 l k ro) (e1 : z1 = nI (rwo (olf l) (2 * k + 1))) (e2 : z2 = nI (rwo (olf l) (2 * k))) : roQ8 l (k + 1) (upd (upd ro (2 * k + 1) z1) (2 * k) z2) := fun d hd => by
  by_cases c1 : d = 2 * k
  · subst c1; rw [upd_eq]; exact e2
  · rw [upd_ne c1]
    by_cases c2 : d = 2 * k + 1
    · subst c2; rw [upd_eq]; exact e1
    · rw [upd_ne c2]; exact h d (by omega)
theorem roQ8_s2 (h : roQ8 l k ro) (e1 : z1 = nI (rwo (olf l) (2 * k))) (e2 : z2 = nI (rwo (olf l) (2 * k + 1))) : roQ8 l (k + 1) (upd (upd ro (2 * k) z1) (2 * k + 1) z2) := fun d hd => by
  by_cases c1 : d = 2 * k + 1
  · subst c1; rw [upd_eq]; exact e2
  · rw [upd_ne c1]
    by_cases c2 : d = 2 * k
    · subst c2; rw [upd_eq]; exact e1
    · rw [upd_ne c2]; exact h d (by omega)
end RO
theorem lm8_min (n : Nat) : min n 5001 = lm8 n := by
  unfold lm8
  split <;> omega
/-- a comparison that is to be true (t = 1) or false -/
def cn8 (o t : Nat) : Nat := if t = 1 then o else ng8 o
theorem cn8_x {o : Nat} (h : o < 6) : nI o ^^^ 1 = nI (ng8 o) := (by decide +kernel : ∀ o, o < 6 → nI o ^^^ 1 = nI (ng8 o)) o h
theorem cn8_y {o t : Nat} (h : o < 6) (ht : t < 2) : nI (ng8 o) ^^^ nI t = nI (cn8 o t) := (by decide +kernel : ∀ o, o < 6 → ∀ t, t < 2 → nI (ng8 o) ^^^ nI t = nI (cn8 o t)) o h t ht
theorem cn8_le {o t : Nat} (h : o < 6) (ht : t < 2) : cn8 o t ≤ 5 := (by decide +kernel : ∀ o, o < 6 → ∀ t, t < 2 → cn8 o t ≤ 5) o h t ht
theorem cd8_n {o t r : Nat} (h : ¬ cn8 o t = 5) : cn8 o t = cd8 o t r := (if_neg h).symm
theorem cd8_0 {o t r : Nat} (h : cn8 o t = 5) (hr : r = 0) : 0 = cd8 o t r := by
  have e : cd8 o t r = (if r = 0 then 0 else 3) := if_pos h
  rw [e, if_pos hr]
theorem cd8_3 {o t r : Nat} (h : cn8 o t = 5) (hr : ¬ r = 0) : 3 = cd8 o t r := by
  have e : cd8 o t r = (if r = 0 then 0 else 3) := if_pos h
  rw [e, if_neg hr]
section CN
variable {l : List sgT} {k a c y x an : Nat} {ro : Nat → Int32}
/-- rows of an atom -/
theorem ro8_a1 (h6 : olf l k < 6) (h : (olf l k = 5 ∧ x = 2) ∨ (¬ olf l k = 5 ∧ x = 1)) : x = rwo (olf l) (2 * k + 1) := by
  rw [rwo_a (by rw [(dm_1 k).1]; exact Or.inl h6), (dm_1 k).1, (dm_1 k).2]
  rcases h with ⟨a, b⟩ | ⟨a, b⟩
  · rw [if_pos (by omega)]; exact b
  · rw [if_neg (by omega)]; exact b
theorem ro8_a0 (h6 : olf l k < 6) (h : (olf l k = 4 ∧ x = 2) ∨ (¬ olf l k = 4 ∧ x = 1)) : x = rwo (olf l) (2 * k) := by
  rw [rwo_a (by rw [(dm_0 k).1]; exact Or.inl h6), (dm_0 k).1, (dm_0 k).2]
  rcases h with ⟨a, b⟩ | ⟨a, b⟩
  · rw [if_pos (by omega)]; exact b
  · rw [if_neg (by omega)]; exact b
theorem ro8_n (h6 : olf l k = 6) (h1 : 1 ≤ k) (ea : a = k - 1) : rwo (olf l) (2 * a) = rwo (olf l) (2 * k + 1) ∧ rwo (olf l) (2 * a + 1) = rwo (olf l) (2 * k) := by
  subst ea
  rw [rwo_n (o := olf l) (d := 2 * k + 1) (by rw [(dm_1 k).1]; exact h6) (by rw [(dm_1 k).1]; omega), rwo_n (o := olf l) (d := 2 * k) (by rw [(dm_0 k).1]; exact h6) (by rw [(dm_0 k).1]; omega)]
  unfold ntd
  rw [(dm_1 k).1, (dm_1 k).2, (dm_0 k).1, (dm_0 k).2]
  exact ⟨rfl, rfl⟩
theorem ro8_b (h7 : 7 ≤ olf l k) (h8 : olf l k ≤ 8) (h1 : 1 ≤ k) (ea : a = k - 1 - szl l (k - 1)) (ec : c = k - 1) {b e : Nat} (hb : b + e = 1) (ho : (olf l k = 7 ∧ b = 1) ∨ (¬ olf l k = 7 ∧ b = 0)) : lm8 (rwo (olf l) (2 * a + b) * rwo (olf l) (2 * c + b)) = rwo (olf l) (2 * k + b) ∧ lm8 (rwo (olf l) (2 * a + e) + rwo (olf l) (2 * c + e)) = rwo (olf l) (2 * k + e) := by
  subst ea ec
  have tb := dm_t (k := k) (t := b) (by omega)
  have te := dm_t (k := k) (t := e) (by omega)
  rw [rwo_y (o := olf l) (d := 2 * k + b) (by rw [tb.1]; exact h7) (by rw [tb.1]; omega) (by rw [tb.1, tb.2]; omega), rwo_e (o := olf l) (d := 2 * k + e) (by rw [te.1]; exact h7) (by rw [te.1]; omega) (by rw [te.1, te.2]; omega), lfd_t (by omega), lfd_t (by omega), rgd_t (by omega), rgd_t (by omega)]
  exact ⟨rfl, rfl⟩
theorem atn8_y (h : an = atn8 (olf l) k) (h6 : olf l k < 6) : an + 1 = atn8 (olf l) (k + 1) := by
  show an + 1 = atn8 (olf l) k + (if olf l k < 6 then 1 else 0)
  rw [if_pos h6, ← h]
theorem atn8_o (h : an = atn8 (olf l) k) (h6 : ¬ olf l k < 6) : an = atn8 (olf l) (k + 1) := by
  show an = atn8 (olf l) k + (if olf l k < 6 then 1 else 0)
  rw [if_neg h6, ← h]; rfl
end CN
