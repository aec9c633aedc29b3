/-- a sign of a formula (parts first): its code (0 to 5 an atom's comparison, 6 not, 7 and, 8 or), its two terms (a name, 10 for none, and a number) -/
abbrev sgT : Type := Nat × (Nat × Int32) × (Nat × Int32)
def sg0 : sgT := (0, (0, 0), (0, 0))
def opS (x : Nat) : sgT := (x + 5, (0, 0), (0, 0))
/-- how many signs the formula has that ends at k -/
def szF (o : Nat → Nat) : Nat → Nat → Nat
  | 0, _ => 0
  | f + 1, k => if o k < 6 ∨ k = 0 then 1 else if o k = 6 then 1 + szF o f (k - 1) else 1 + szF o f (k - 1) + szF o f (k - 1 - szF o f (k - 1))
def szo (o : Nat → Nat) (k : Nat) : Nat := szF o (k + 1) k
theorem szF_eq {o o' : Nat → Nat} : ∀ (f f' k : Nat), k < f → k < f' → (∀ j, j ≤ k → o' j = o j) → szF o' f' k = szF o f k
  | 0, _, _, h, _, _ => absurd h (Nat.not_lt_zero _)
  | _ + 1, 0, _, _, h, _ => absurd h (Nat.not_lt_zero _)
  | f + 1, f' + 1, k, h1, h2, h => by
    show (if o' k < 6 ∨ k = 0 then 1 else if o' k = 6 then 1 + szF o' f' (k - 1) else 1 + szF o' f' (k - 1) + szF o' f' (k - 1 - szF o' f' (k - 1))) = (if o k < 6 ∨ k = 0 then 1 else if o k = 6 then 1 + szF o f (k - 1) else 1 + szF o f (k - 1) + szF o f (k - 1 - szF o f (k - 1)))
    rw [h k (Nat.le_refl k)]
    by_cases e1 : o k < 6 ∨ k = 0
    · rw [if_pos e1, if_pos e1]
    · rw [if_neg e1, if_neg e1]
      have i1 := szF_eq f f' (k - 1) (by omega) (by omega) (fun j hj => h j (by omega))
      rw [i1]
      by_cases e2 : o k = 6
      · rw [if_pos e2, if_pos e2]
      · rw [if_neg e2, if_neg e2, szF_eq f f' (k - 1 - szF o f (k - 1)) (by omega) (by omega) (fun j hj => h j (by omega))]
section SZO
variable {o o' : Nat → Nat} {k : Nat}
theorem szo_congr (h : ∀ j, j ≤ k → o' j = o j) : szo o' k = szo o k := szF_eq (k + 1) (k + 1) k (by omega) (by omega) h
theorem szo_a (h : o k < 6) : szo o k = 1 := if_pos (Or.inl h)
theorem szo_0 (h : k = 0) : szo o k = 1 := if_pos (Or.inr h)
theorem szo_n (h : o k = 6) (hk : 1 ≤ k) : szo o k = 1 + szo o (k - 1) := by
  have e : szo o k = 1 + szF o k (k - 1) := (if_neg (by omega)).trans (if_pos h)
  rw [e, szF_eq (o := o) (k - 1 + 1) k (k - 1) (by omega) (by omega) (fun _ _ => rfl)]; rfl
theorem szo_b (h : 7 ≤ o k) (hk : 1 ≤ k) : szo o k = 1 + szo o (k - 1) + szo o (k - 1 - szo o (k - 1)) := by
  have e : szo o k = 1 + szF o k (k - 1) + szF o k (k - 1 - szF o k (k - 1)) := (if_neg (by omega)).trans (if_neg (by omega))
  have e1 : szF o k (k - 1) = szo o (k - 1) := szF_eq (k - 1 + 1) k (k - 1) (by omega) (by omega) (fun _ _ => rfl)
  rw [e, e1, szF_eq (o := o) (k - 1 - szo o (k - 1) + 1) k (k - 1 - szo o (k - 1)) (by omega) (by omega) (fun _ _ => rfl)]; rfl
theorem szo_pos : 1 ≤ szo o k := by
  show 1 ≤ (if o k < 6 ∨ k = 0 then 1 else if o k = 6 then 1 + szF o k (k - 1) else 1 + szF o k (k - 1) + szF o k (k - 1 - szF o k (k - 1)))
  split
  · exact Nat.le_refl 1
  · split <;> omega
end SZO
/-- how deep it is -/
def dpF (o : Nat → Nat) : Nat → Nat → Nat
  | 0, _ => 0
  | f + 1, k => if o k < 6 ∨ k = 0 then 1 else if o k = 6 then 1 + dpF o f (k - 1) else 1 + max (dpF o f (k - 1)) (dpF o f (k - 1 - szo o (k - 1)))
def dpo (o : Nat → Nat) (k : Nat) : Nat := dpF o (k + 1) k
theorem dpF_eq {o o' : Nat → Nat} : ∀ (f f' k : Nat), k < f → k < f' → (∀ j, j ≤ k → o' j = o j) → dpF o' f' k = dpF o f k
  | 0, _, _, h, _, _ => absurd h (Nat.not_lt_zero _)
  | _ + 1, 0, _, _, h, _ => absurd h (Nat.not_lt_zero _)
  | f + 1, f' + 1, k, h1, h2, h => by
    show (if o' k < 6 ∨ k = 0 then 1 else if o' k = 6 then 1 + dpF o' f' (k - 1) else 1 + max (dpF o' f' (k - 1)) (dpF o' f' (k - 1 - szo o' (k - 1)))) = (if o k < 6 ∨ k = 0 then 1 else if o k = 6 then 1 + dpF o f (k - 1) else 1 + max (dpF o f (k - 1)) (dpF o f (k - 1 - szo o (k - 1))))
    rw [h k (Nat.le_refl k)]
    by_cases e1 : o k < 6 ∨ k = 0
    · rw [if_pos e1, if_pos e1]
    · rw [if_neg e1, if_neg e1]
      have i1 := dpF_eq f f' (k - 1) (by omega) (by omega) (fun j hj => h j (by omega))
      have i2 : szo o' (k - 1) = szo o (k - 1) := szo_congr (fun j hj => h j (by omega))
      rw [i1, i2]
      by_cases e2 : o k = 6
      · rw [if_pos e2, if_pos e2]
      · rw [if_neg e2, if_neg e2, dpF_eq f f' (k - 1 - szo o (k - 1)) (by omega) (by omega) (fun j hj => h j (by omega))]
section DPO
variable {o o' : Nat → Nat} {k : Nat}
theorem dpo_congr (h : ∀ j, j ≤ k → o' j = o j) : dpo o' k = dpo o k := dpF_eq (k + 1) (k + 1) k (by omega) (by omega) h
theorem dpo_a (h : o k < 6) : dpo o k = 1 := if_pos (Or.inl h)
theorem dpo_n (h : o k = 6) (hk : 1 ≤ k) : dpo o k = 1 + dpo o (k - 1) := by
  have e : dpo o k = 1 + dpF o k (k - 1) := (if_neg (by omega)).trans (if_pos h)
  rw [e, dpF_eq (o := o) (k - 1 + 1) k (k - 1) (by omega) (by omega) (fun _ _ => rfl)]; rfl
theorem dpo_b (h : 7 ≤ o k) (hk : 1 ≤ k) : dpo o k = 1 + max (dpo o (k - 1)) (dpo o (k - 1 - szo o (k - 1))) := by
  have hp := szo_pos (o := o) (k := k - 1)
  have e : dpo o k = 1 + max (dpF o k (k - 1)) (dpF o k (k - 1 - szo o (k - 1))) := (if_neg (by omega)).trans (if_neg (by omega))
  rw [e, dpF_eq (o := o) (k - 1 + 1) k (k - 1) (by omega) (by omega) (fun _ _ => rfl), dpF_eq (o := o) (k - 1 - szo o (k - 1) + 1) k (k - 1 - szo o (k - 1)) (by omega) (by omega) (fun _ _ => rfl)]; rfl
end DPO
/-- sign k of a list -/
def ath : List sgT → Nat → sgT
  | [], _ => sg0
  | s :: _, 0 => s
  | _ :: l, k + 1 => ath l k
theorem ath_l : ∀ {l m : List sgT} {k : Nat}, k < l.length → ath (l ++ m) k = ath l k
  | [], _, _, h => absurd h (Nat.not_lt_zero _)
  | _ :: _, _, 0, _ => rfl
  | _ :: l, _, k + 1, h => ath_l (l := l) (k := k) (Nat.lt_of_succ_lt_succ h)
theorem ath_r : ∀ {l m : List sgT} {k : Nat}, ath (l ++ m) (l.length + k) = ath m k
  | [], m, k => by
    show ath m (0 + k) = ath m k
    rw [Nat.zero_add]
  | s :: l, m, k => by
    have e : (s :: l).length + k = (l.length + k) + 1 := by rw [List.length_cons]; omega
    rw [e]
    exact ath_r (l := l)
theorem ath_e {l : List sgT} {s : sgT} : ath (l ++ [s]) l.length = s := ath_r (l := l) (m := [s]) (k := 0)
theorem ath_mem : ∀ {l : List sgT} {k : Nat}, k < l.length → ath l k ∈ l
  | [], _, h => absurd h (Nat.not_lt_zero _)
  | _ :: _, 0, _ => List.mem_cons_self
  | _ :: l, k + 1, h => List.mem_cons_of_mem _ (ath_mem (l := l) (k := k) (Nat.lt_of_succ_lt_succ h))
def olf (l : List sgT) : Nat → Nat := fun k => (ath l k).1
def szl (l : List sgT) (k : Nat) : Nat := szo (olf l) k
def dpl (l : List sgT) (k : Nat) : Nat := dpo (olf l) k
section SZL
variable {l m x m1 m2 : List sgT} {k d d1 d2 : Nat} {s : sgT}
theorem szl_l (h : k < l.length) : szl (l ++ m) k = szl l k := szo_congr (fun j hj => by
  show (ath (l ++ m) j).1 = (ath l j).1
  rw [ath_l (by omega)])
theorem dpl_l (h : k < l.length) : dpl (l ++ m) k = dpl l k := dpo_congr (fun j hj => by
  show (ath (l ++ m) j).1 = (ath l j).1
  rw [ath_l (by omega)])
theorem olf_e : olf (l ++ [s]) l.length = s.1 := by
  show (ath (l ++ [s]) l.length).1 = s.1
  rw [ath_e]
theorem szl_a (h : s.1 < 6) : szl (l ++ [s]) l.length = 1 := szo_a (by rw [olf_e]; exact h)
theorem szl_n (h : s.1 = 6) (hl : 1 ≤ l.length) : szl (l ++ [s]) l.length = 1 + szl l (l.length - 1) := by
  show szo (olf (l ++ [s])) l.length = _
  rw [szo_n (by rw [olf_e]; exact h) hl]
  rw [show szo (olf (l ++ [s])) (l.length - 1) = szl l (l.length - 1) from szl_l (by omega)]
theorem szl_b (h : 7 ≤ s.1) (hl : 1 ≤ l.length) : szl (l ++ [s]) l.length = 1 + szl l (l.length - 1) + szl l (l.length - 1 - szl l (l.length - 1)) := by
  show szo (olf (l ++ [s])) l.length = _
  rw [szo_b (by rw [olf_e]; exact h) hl]
  have e1 : szo (olf (l ++ [s])) (l.length - 1) = szl l (l.length - 1) := szl_l (by omega)
  rw [e1, show szo (olf (l ++ [s])) (l.length - 1 - szl l (l.length - 1)) = szl l (l.length - 1 - szl l (l.length - 1)) from szl_l (by omega)]
theorem dpl_a (h : s.1 < 6) : dpl (l ++ [s]) l.length = 1 := dpo_a (by rw [olf_e]; exact h)
theorem dpl_n (h : s.1 = 6) (hl : 1 ≤ l.length) : dpl (l ++ [s]) l.length = 1 + dpl l (l.length - 1) := by
  show dpo (olf (l ++ [s])) l.length = _
  rw [dpo_n (by rw [olf_e]; exact h) hl]
  rw [show dpo (olf (l ++ [s])) (l.length - 1) = dpl l (l.length - 1) from dpl_l (by omega)]
theorem dpl_b (h : 7 ≤ s.1) (hl : 1 ≤ l.length) : dpl (l ++ [s]) l.length = 1 + max (dpl l (l.length - 1)) (dpl l (l.length - 1 - szl l (l.length - 1))) := by
  show dpo (olf (l ++ [s])) l.length = _
  rw [dpo_b (by rw [olf_e]; exact h) hl]
  have e1 : szo (olf (l ++ [s])) (l.length - 1) = szl l (l.length - 1) := szl_l (by omega)
  rw [e1, show dpo (olf (l ++ [s])) (l.length - 1) = dpl l (l.length - 1) from dpl_l (by omega), show dpo (olf (l ++ [s])) (l.length - 1 - szl l (l.length - 1)) = dpl l (l.length - 1 - szl l (l.length - 1)) from dpl_l (by omega)]
/-- one formula, whole, at most d deep -/
def cmpl (d : Nat) (m : List sgT) : Prop := 1 ≤ m.length ∧ ∀ x : List sgT, (∀ k, k < m.length → szl (x ++ m) (x.length + k) ≤ k + 1) ∧ szl (x ++ m) (x.length + m.length - 1) = m.length ∧ dpl (x ++ m) (x.length + m.length - 1) ≤ d
theorem cmpl.up (h : cmpl d m) (hd : d ≤ d1) : cmpl d1 m := ⟨h.1, fun x => ⟨(h.2 x).1, (h.2 x).2.1, Nat.le_trans (h.2 x).2.2 hd⟩⟩
theorem cmpl_a (h : s.1 < 6) : cmpl 1 [s] := by
  refine ⟨Nat.le_refl 1, fun x => ?_⟩
  have e := szl_a (l := x) h
  have e2 := dpl_a (l := x) h
  refine ⟨fun k hk => ?_, ?_, ?_⟩
  · have h0 : k = 0 := by have : k < 1 := hk; omega
    subst h0
    rw [Nat.add_zero, e]; exact Nat.le_refl 1
  · show szl (x ++ [s]) (x.length + 1 - 1) = 1
    rw [Nat.add_sub_cancel, e]
  · show dpl (x ++ [s]) (x.length + 1 - 1) ≤ 1
    rw [Nat.add_sub_cancel, e2]; exact Nat.le_refl 1
theorem cmpl_n (h : cmpl d m) (hs : s.1 = 6) : cmpl (d + 1) (m ++ [s]) := by
  obtain ⟨h0, h⟩ := h
  have hl : (m ++ [s]).length = m.length + 1 := by rw [List.length_append]; rfl
  refine ⟨by omega, fun x => ?_⟩
  obtain ⟨a1, a2, a3⟩ := h x
  have hx : (x ++ m).length = x.length + m.length := List.length_append
  have e := szl_n (l := x ++ m) hs (by omega)
  have e2 := dpl_n (l := x ++ m) hs (by omega)
  rw [hx] at e e2
  rw [← List.append_assoc, hl]
  refine ⟨fun k hk => ?_, ?_, ?_⟩
  · by_cases c : k < m.length
    · rw [szl_l (by omega)]; exact a1 k c
    · rw [show k = m.length by omega, e, a2]; omega
  · rw [show x.length + (m.length + 1) - 1 = x.length + m.length by omega, e, a2]; omega
  · rw [show x.length + (m.length + 1) - 1 = x.length + m.length by omega, e2]; omega
theorem cmpl_b (h1 : cmpl d1 m1) (h2 : cmpl d2 m2) (hs : 7 ≤ s.1) (hd1 : d1 < d) (hd2 : d2 < d) : cmpl d (m1 ++ m2 ++ [s]) := by
  obtain ⟨n1, h1⟩ := h1
  obtain ⟨n2, h2⟩ := h2
  have hl : (m1 ++ m2 ++ [s]).length = m1.length + m2.length + 1 := by rw [List.length_append, List.length_append]; rfl
  refine ⟨by omega, fun x => ?_⟩
  obtain ⟨a1, a2, a3⟩ := h1 x
  obtain ⟨b1, b2, b3⟩ := h2 (x ++ m1)
  have hx : (x ++ m1).length = x.length + m1.length := List.length_append
  have hy : (x ++ m1 ++ m2).length = x.length + m1.length + m2.length := by rw [List.length_append, hx]
  have e := szl_b (l := x ++ m1 ++ m2) hs (by omega)
  have e2 := dpl_b (l := x ++ m1 ++ m2) hs (by omega)
  rw [hx] at b1 b2 b3
  rw [hy, b2, show x.length + m1.length + m2.length - 1 - m2.length = x.length + m1.length - 1 by omega, szl_l (l := x ++ m1) (m := m2) (by omega), a2] at e
  rw [hy, b2, show x.length + m1.length + m2.length - 1 - m2.length = x.length + m1.length - 1 by omega, dpl_l (l := x ++ m1) (m := m2) (k := x.length + m1.length - 1) (by omega)] at e2
  rw [← List.append_assoc, ← List.append_assoc, hl]
  refine ⟨fun k hk => ?_, ?_, ?_⟩
  · by_cases c : k < m1.length
    · rw [szl_l (by omega), szl_l (by omega)]; exact a1 k c
    · by_cases c2 : k < m1.length + m2.length
      · have := b1 (k - m1.length) (by omega)
        rw [show x.length + m1.length + (k - m1.length) = x.length + k by omega] at this
        rw [szl_l (by omega)]; omega
      · rw [show x.length + k = x.length + m1.length + m2.length by omega, e]; omega
  · rw [show x.length + (m1.length + m2.length + 1) - 1 = x.length + m1.length + m2.length by omega, e]; omega
  · rw [show x.length + (m1.length + m2.length + 1) - 1 = x.length + m1.length + m2.length by omega, e2]; omega
/-- signs, each with its parts ahead of it -/
def wfl (l : List sgT) : Prop := ∀ k, k < l.length → szl l k ≤ k + 1
theorem wfl_0 : wfl [] := fun k hk => absurd hk (Nat.not_lt_zero _)
theorem wfl.app (h : wfl l) (h2 : cmpl d m) : wfl (l ++ m) := by
  intro k hk
  rw [List.length_append] at hk
  by_cases c : k < l.length
  · rw [szl_l c]; exact h k c
  · have := (h2.2 l).1 (k - l.length) (by omega)
    rw [show l.length + (k - l.length) = k by omega] at this
    omega
theorem cmpl.wf (h : cmpl d m) : wfl m := (wfl_0.app h : wfl ([] ++ m))
theorem cmpl.fin (h : cmpl d m) : szl (l ++ m ++ x) (l.length + m.length - 1) = m.length := by
  have h1 := h.1
  rw [szl_l (by rw [List.length_append]; omega)]
  exact (h.2 l).2.1
theorem cmpl.root (h : cmpl d m) : szl m (m.length - 1) = m.length := by
  have := (h.2 []).2.1
  rw [show ([] : List sgT).length + m.length - 1 = m.length - 1 by rw [List.length_nil, Nat.zero_add]] at this
  exact this
theorem cmpl.rdp (h : cmpl d m) : dpl m (m.length - 1) ≤ d := by
  have := (h.2 []).2.2
  rw [show ([] : List sgT).length + m.length - 1 = m.length - 1 by rw [List.length_nil, Nat.zero_add]] at this
  exact this
end SZL
/-- signs a, a + 1, .. , n of them -/
def slf (f : Nat → sgT) (a : Nat) : Nat → List sgT
  | 0 => []
  | n + 1 => slf f a n ++ [f (a + n)]
theorem slf_len {f : Nat → sgT} {a : Nat} : ∀ n, (slf f a n).length = n
  | 0 => rfl
  | n + 1 => by
    show (slf f a n ++ [f (a + n)]).length = n + 1
    rw [List.length_append, slf_len n]; rfl
theorem slf_add {f : Nat → sgT} {a n : Nat} : ∀ m, slf f a (n + m) = slf f a n ++ slf f (a + n) m
  | 0 => (List.append_nil _).symm
  | m + 1 => by
    show slf f a (n + m) ++ [f (a + (n + m))] = slf f a n ++ (slf f (a + n) m ++ [f (a + n + m)])
    rw [slf_add m, List.append_assoc, Nat.add_assoc]
theorem slf_congr {f f' : Nat → sgT} {a a' : Nat} : ∀ n, (∀ j, j < n → f' (a' + j) = f (a + j)) → slf f' a' n = slf f a n
  | 0, _ => rfl
  | n + 1, h => by
    show slf f' a' n ++ [f' (a' + n)] = slf f a n ++ [f (a + n)]
    rw [slf_congr n (fun j hj => h j (by omega)), h n (Nat.lt_succ_self n)]
theorem slf_list : ∀ (m x y : List sgT), slf (ath (x ++ (m ++ y))) x.length m.length = m
  | [], _, _ => rfl
  | s :: m, x, y => by
    rw [List.length_cons, Nat.add_comm m.length 1, slf_add]
    have e1 : slf (ath (x ++ (s :: m ++ y))) x.length 1 = [s] := by
      show [] ++ [ath (x ++ (s :: m ++ y)) (x.length + 0)] = [s]
      rw [ath_r]; rfl
    have e2 : x ++ (s :: m ++ y) = (x ++ [s]) ++ (m ++ y) := by rw [List.append_assoc]; rfl
    have e3 : x.length + 1 = (x ++ [s]).length := by rw [List.length_append]; rfl
    rw [e1, e2, e3, slf_list m (x ++ [s]) y]; rfl
/-- the formula that ends at k -/
def sub9 (l : List sgT) (k : Nat) : List sgT := slf (ath l) (k + 1 - szl l k) (szl l k)
section SUB
variable {l m x y : List sgT} {k d : Nat}
theorem sub9_a (h : (ath l k).1 < 6) : sub9 l k = [ath l k] := by
  have e : szl l k = 1 := szo_a h
  unfold sub9
  rw [e]
  show [] ++ [ath l (k + 1 - 1 + 0)] = [ath l k]
  rfl
theorem sub9_n (hw : wfl l) (hk : k < l.length) (h : (ath l k).1 = 6) (h1 : 1 ≤ k) : sub9 l k = sub9 l (k - 1) ++ [ath l k] := by
  have e : szl l k = 1 + szl l (k - 1) := szo_n h h1
  have hq := hw (k - 1) (by omega)
  unfold sub9
  rw [e, Nat.add_comm 1, show k + 1 - (szl l (k - 1) + 1) = k - 1 + 1 - szl l (k - 1) by omega]
  show slf (ath l) (k - 1 + 1 - szl l (k - 1)) (szl l (k - 1)) ++ [ath l (k - 1 + 1 - szl l (k - 1) + szl l (k - 1))] = _
  rw [show k - 1 + 1 - szl l (k - 1) + szl l (k - 1) = k by omega]
theorem szl_bl (hw : wfl l) (hk : k < l.length) (h : 7 ≤ (ath l k).1) (h1 : 1 ≤ k) : szl l k = 1 + szl l (k - 1) + szl l (k - 1 - szl l (k - 1)) ∧ szl l (k - 1) + 1 ≤ k := by
  have e : szl l k = 1 + szl l (k - 1) + szl l (k - 1 - szl l (k - 1)) := szo_b h h1
  have h2 := hw k hk
  have h3 : 1 ≤ szl l (k - 1 - szl l (k - 1)) := szo_pos
  exact ⟨e, by omega⟩
theorem sub9_b (hw : wfl l) (hk : k < l.length) (h : 7 ≤ (ath l k).1) (h1 : 1 ≤ k) : sub9 l k = sub9 l (k - 1 - szl l (k - 1)) ++ sub9 l (k - 1) ++ [ath l k] := by
  obtain ⟨e, hq⟩ := szl_bl hw hk h h1
  have hp := hw (k - 1 - szl l (k - 1)) (by omega)
  unfold sub9
  rw [e]
  generalize szl l (k - 1) = q at *
  generalize szl l (k - 1 - q) = p at *
  rw [show 1 + q + p = p + q + 1 by omega, show k + 1 - (p + q + 1) = k - 1 - q + 1 - p by omega]
  show slf (ath l) (k - 1 - q + 1 - p) (p + q) ++ [ath l (k - 1 - q + 1 - p + (p + q))] = _
  rw [slf_add, show k - 1 - q + 1 - p + (p + q) = k by omega, show k - 1 - q + 1 - p + p = k - 1 + 1 - q by omega]
theorem sub9_m (h : cmpl d m) : sub9 (x ++ (m ++ y)) (x.length + m.length - 1) = m := by
  have h1 := h.1
  have e : szl (x ++ (m ++ y)) (x.length + m.length - 1) = m.length := by
    rw [← List.append_assoc]; exact h.fin
  unfold sub9
  rw [e, show x.length + m.length - 1 + 1 - m.length = x.length by omega]
  exact slf_list m x y
end SUB
/-- names and numbers of terms: none too great -/
def tmb (N : Nat) (t : Nat × Int32) : Prop := t.1 ≤ 10 ∧ -(N : Int) ≤ t.2.toInt ∧ t.2.toInt ≤ (N : Int)
def nbl (N : Nat) (m : List sgT) : Prop := ∀ s, s ∈ m → s.1 ≤ 8 ∧ (s.1 < 6 → tmb N s.2.1 ∧ tmb N s.2.2)
theorem nbl_0 {N : Nat} : nbl N [] := fun s h => absurd h List.not_mem_nil
theorem nbl.app {N : Nat} {l m : List sgT} (h : nbl N l) (h2 : nbl N m) : nbl N (l ++ m) := fun s hs => (List.mem_append.mp hs).elim (h s) (h2 s)
theorem nbl_1 {N : Nat} {s : sgT} (h : s.1 ≤ 8 ∧ (s.1 < 6 → tmb N s.2.1 ∧ tmb N s.2.2)) : nbl N [s] := fun q hq => by
  rw [List.mem_singleton.mp hq]; exact h
theorem nbl_o {N x : Nat} (h : 1 ≤ x) (h2 : x ≤ 3) : nbl N [opS x] := nbl_1 ⟨by show x + 5 ≤ 8; omega, fun q => by have : x + 5 < 6 := q; omega⟩
theorem tmb.up {N M : Nat} {t : Nat × Int32} (h : tmb N t) (hm : N ≤ M) : tmb M t := ⟨h.1, by have := h.2.1; omega, by have := h.2.2; omega⟩
theorem nbl.up {N M : Nat} {l : List sgT} (h : nbl N l) (hm : N ≤ M) : nbl M l := fun s hs => ⟨(h s hs).1, fun q => ⟨((h s hs).2 q).1.up hm, ((h s hs).2 q).2.up hm⟩⟩
