/-- no more than 5001 -/
def lm8 (n : Nat) : Nat := if n ≤ 5001 then n else 5001
theorem lm8_le (n : Nat) : lm8 n ≤ 5001 := by
  unfold lm8
  split <;> omega
theorem lm8_pos {n : Nat} (h : 1 ≤ n) : 1 ≤ lm8 n := by
  unfold lm8
  split <;> omega
theorem lm8_id {n : Nat} (h : lm8 n ≤ 5000) : lm8 n = n := by
  unfold lm8 at h ⊢
  by_cases c : n ≤ 5001
  · rw [if_pos c]
  · rw [if_neg c] at h; omega
theorem lm8_n {n : Nat} (h : n ≤ 5001) : lm8 n = n := if_pos h
theorem lm8_m {n : Nat} (h : 5001 ≤ n) : lm8 n = 5001 := by
  unfold lm8
  split <;> omega
/-- a demand is 2 * node, and 1 more where the node is to be true; the demands of its parts -/
def rgd (d : Nat) : Nat := 2 * (d / 2 - 1) + d % 2
def ntd (d : Nat) : Nat := 2 * (d / 2 - 1) + (1 - d % 2)
def lfd (o : Nat → Nat) (d : Nat) : Nat := 2 * (d / 2 - 1 - szo o (d / 2 - 1)) + d % 2
theorem rgd_h {d : Nat} : rgd d / 2 = d / 2 - 1 ∧ rgd d % 2 = d % 2 := by
  unfold rgd
  omega
theorem ntd_h {d : Nat} : ntd d / 2 = d / 2 - 1 ∧ ntd d % 2 = 1 - d % 2 := by
  unfold ntd
  omega
theorem lfd_h {o : Nat → Nat} {d : Nat} : lfd o d / 2 = d / 2 - 1 - szo o (d / 2 - 1) ∧ lfd o d % 2 = d % 2 := by
  unfold lfd
  omega
/-- how many rows a demand has -/
def rwF (o : Nat → Nat) : Nat → Nat → Nat
  | 0, _ => 1
  | f + 1, d => if o (d / 2) < 6 ∨ d / 2 = 0 then (if o (d / 2) = 4 + d % 2 then 2 else 1) else if o (d / 2) = 6 then rwF o f (ntd d) else if o (d / 2) + d % 2 = 8 then lm8 (rwF o f (lfd o d) * rwF o f (rgd d)) else lm8 (rwF o f (lfd o d) + rwF o f (rgd d))
def rwo (o : Nat → Nat) (d : Nat) : Nat := rwF o (d / 2 + 1) d
theorem rwF_eq {o : Nat → Nat} : ∀ (f f' d : Nat), d / 2 < f → d / 2 < f' → rwF o f' d = rwF o f d
  | 0, _, _, h, _ => absurd h (Nat.not_lt_zero _)
  | _ + 1, 0, _, _, h => absurd h (Nat.not_lt_zero _)
  | f + 1, f' + 1, d, h1, h2 => by
    show (if o (d / 2) < 6 ∨ d / 2 = 0 then (if o (d / 2) = 4 + d % 2 then 2 else 1) else if o (d / 2) = 6 then rwF o f' (ntd d) else if o (d / 2) + d % 2 = 8 then lm8 (rwF o f' (lfd o d) * rwF o f' (rgd d)) else lm8 (rwF o f' (lfd o d) + rwF o f' (rgd d))) = (if o (d / 2) < 6 ∨ d / 2 = 0 then (if o (d / 2) = 4 + d % 2 then 2 else 1) else if o (d / 2) = 6 then rwF o f (ntd d) else if o (d / 2) + d % 2 = 8 then lm8 (rwF o f (lfd o d) * rwF o f (rgd d)) else lm8 (rwF o f (lfd o d) + rwF o f (rgd d)))
    by_cases e1 : o (d / 2) < 6 ∨ d / 2 = 0
    · rw [if_pos e1, if_pos e1]
    · have a1 := (rgd_h (d := d)).1
      have a2 := (ntd_h (d := d)).1
      have a3 := (lfd_h (o := o) (d := d)).1
      rw [if_neg e1, if_neg e1, rwF_eq f f' (ntd d) (by omega) (by omega), rwF_eq f f' (lfd o d) (by omega) (by omega), rwF_eq f f' (rgd d) (by omega) (by omega)]
section RWO
variable {o : Nat → Nat} {d : Nat}
theorem rwo_a (h : o (d / 2) < 6 ∨ d / 2 = 0) : rwo o d = if o (d / 2) = 4 + d % 2 then 2 else 1 := if_pos h
theorem rwo_n (h : o (d / 2) = 6) (hk : ¬ d / 2 = 0) : rwo o d = rwo o (ntd d) := by
  have a2 := (ntd_h (d := d)).1
  have e : rwo o d = rwF o (d / 2) (ntd d) := (if_neg (by omega)).trans (if_pos h)
  rw [e, rwF_eq (ntd d / 2 + 1) (d / 2) (ntd d) (by omega) (by omega)]; rfl
theorem rwo_y (h : 7 ≤ o (d / 2)) (hk : ¬ d / 2 = 0) (hb : o (d / 2) + d % 2 = 8) : rwo o d = lm8 (rwo o (lfd o d) * rwo o (rgd d)) := by
  have a1 := (rgd_h (d := d)).1
  have a3 := (lfd_h (o := o) (d := d)).1
  have e : rwo o d = lm8 (rwF o (d / 2) (lfd o d) * rwF o (d / 2) (rgd d)) := (if_neg (by omega)).trans ((if_neg (by omega)).trans (if_pos hb))
  rw [e, rwF_eq (lfd o d / 2 + 1) (d / 2) (lfd o d) (by omega) (by omega), rwF_eq (rgd d / 2 + 1) (d / 2) (rgd d) (by omega) (by omega)]; rfl
theorem rwo_e (h : 7 ≤ o (d / 2)) (hk : ¬ d / 2 = 0) (hb : ¬ o (d / 2) + d % 2 = 8) : rwo o d = lm8 (rwo o (lfd o d) + rwo o (rgd d)) := by
  have a1 := (rgd_h (d := d)).1
  have a3 := (lfd_h (o := o) (d := d)).1
  have e : rwo o d = lm8 (rwF o (d / 2) (lfd o d) + rwF o (d / 2) (rgd d)) := (if_neg (by omega)).trans ((if_neg (by omega)).trans (if_neg hb))
  rw [e, rwF_eq (lfd o d / 2 + 1) (d / 2) (lfd o d) (by omega) (by omega), rwF_eq (rgd d / 2 + 1) (d / 2) (rgd d) (by omega) (by omega)]; rfl
end RWO
theorem rwF_b {o : Nat → Nat} : ∀ (f d : Nat), 1 ≤ rwF o f d ∧ rwF o f d ≤ 5001
  | 0, _ => ⟨Nat.le_refl 1, show 1 ≤ 5001 by decide⟩
  | f + 1, d => by
    show 1 ≤ (if o (d / 2) < 6 ∨ d / 2 = 0 then (if o (d / 2) = 4 + d % 2 then 2 else 1) else if o (d / 2) = 6 then rwF o f (ntd d) else if o (d / 2) + d % 2 = 8 then lm8 (rwF o f (lfd o d) * rwF o f (rgd d)) else lm8 (rwF o f (lfd o d) + rwF o f (rgd d))) ∧ (if o (d / 2) < 6 ∨ d / 2 = 0 then (if o (d / 2) = 4 + d % 2 then 2 else 1) else if o (d / 2) = 6 then rwF o f (ntd d) else if o (d / 2) + d % 2 = 8 then lm8 (rwF o f (lfd o d) * rwF o f (rgd d)) else lm8 (rwF o f (lfd o d) + rwF o f (rgd d))) ≤ 5001
    have b1 := rwF_b (o := o) f (lfd o d)
    have b2 := rwF_b (o := o) f (rgd d)
    by_cases e1 : o (d / 2) < 6 ∨ d / 2 = 0
    · rw [if_pos e1]
      split <;> omega
    · rw [if_neg e1]
      by_cases e2 : o (d / 2) = 6
      · rw [if_pos e2]; exact rwF_b f (ntd d)
      · rw [if_neg e2]
        by_cases e3 : o (d / 2) + d % 2 = 8
        · rw [if_pos e3]
          exact ⟨lm8_pos (Nat.mul_pos b1.1 b2.1), lm8_le _⟩
        · rw [if_neg e3]
          exact ⟨lm8_pos (by omega), lm8_le _⟩
theorem rwo_pos {o : Nat → Nat} {d : Nat} : 1 ≤ rwo o d := (rwF_b _ _).1
theorem rwo_le {o : Nat → Nat} {d : Nat} : rwo o d ≤ 5001 := (rwF_b _ _).2
/-- a comparison that is to be false (t = 0) is another; # is two, by the row -/
def ng8 (c : Nat) : Nat := if c % 2 = 0 then c + 1 else c - 1
def cd8 (c t r : Nat) : Nat := if (if t = 1 then c else ng8 c) = 5 then (if r = 0 then 0 else 3) else if t = 1 then c else ng8 c
/-- a comparison of x and y, m being how much more y's number is than x's -/
def atc9 (c x y : Nat) (m : Int) (v : Nat → Int) : Prop := (c = 0 → v x ≤ v y + (m - 1)) ∧ (c = 2 → v x ≤ v y + m) ∧ (c = 1 → v y ≤ v x + -m) ∧ (c = 3 → v y ≤ v x + (-m - 1)) ∧ (c = 4 → v x ≤ v y + m ∧ v y ≤ v x + -m)
/-- an atom that is to be true (t = 1) or false, row r -/
def atq8 (s : sgT) (t r : Nat) (v : Nat → Int) : Prop := atc9 (cd8 s.1 t r) s.2.1.1 s.2.2.1 (s.2.2.2.toInt - s.2.1.2.toInt) v
/-- row r of a demand is true of the numbers v -/
def rsF (l : List sgT) (v : Nat → Int) : Nat → Nat → Nat → Prop
  | 0, _, _ => True
  | f + 1, d, r => if olf l (d / 2) < 6 ∨ d / 2 = 0 then atq8 (ath l (d / 2)) (d % 2) r v else if olf l (d / 2) = 6 then rsF l v f (ntd d) r else if olf l (d / 2) + d % 2 = 8 then rsF l v f (lfd (olf l) d) (r / rwo (olf l) (rgd d)) ∧ rsF l v f (rgd d) (r % rwo (olf l) (rgd d)) else if r < rwo (olf l) (lfd (olf l) d) then rsF l v f (lfd (olf l) d) r else rsF l v f (rgd d) (r - rwo (olf l) (lfd (olf l) d))
def rso (l : List sgT) (v : Nat → Int) (d r : Nat) : Prop := rsF l v (d / 2 + 1) d r
theorem rsF_eq {l : List sgT} {v : Nat → Int} : ∀ (f f' d r : Nat), d / 2 < f → d / 2 < f' → rsF l v f' d r = rsF l v f d r
  | 0, _, _, _, h, _ => absurd h (Nat.not_lt_zero _)
  | _ + 1, 0, _, _, _, h => absurd h (Nat.not_lt_zero _)
  | f + 1, f' + 1, d, r, h1, h2 => by
    show (if olf l (d / 2) < 6 ∨ d / 2 = 0 then atq8 (ath l (d / 2)) (d % 2) r v else if olf l (d / 2) = 6 then rsF l v f' (ntd d) r else if olf l (d / 2) + d % 2 = 8 then rsF l v f' (lfd (olf l) d) (r / rwo (olf l) (rgd d)) ∧ rsF l v f' (rgd d) (r % rwo (olf l) (rgd d)) else if r < rwo (olf l) (lfd (olf l) d) then rsF l v f' (lfd (olf l) d) r else rsF l v f' (rgd d) (r - rwo (olf l) (lfd (olf l) d))) = (if olf l (d / 2) < 6 ∨ d / 2 = 0 then atq8 (ath l (d / 2)) (d % 2) r v else if olf l (d / 2) = 6 then rsF l v f (ntd d) r else if olf l (d / 2) + d % 2 = 8 then rsF l v f (lfd (olf l) d) (r / rwo (olf l) (rgd d)) ∧ rsF l v f (rgd d) (r % rwo (olf l) (rgd d)) else if r < rwo (olf l) (lfd (olf l) d) then rsF l v f (lfd (olf l) d) r else rsF l v f (rgd d) (r - rwo (olf l) (lfd (olf l) d)))
    by_cases e1 : olf l (d / 2) < 6 ∨ d / 2 = 0
    · rw [if_pos e1, if_pos e1]
    · have a1 := (rgd_h (d := d)).1
      have a2 := (ntd_h (d := d)).1
      have a3 := (lfd_h (o := olf l) (d := d)).1
      rw [if_neg e1, if_neg e1, rsF_eq f f' (ntd d) r (by omega) (by omega), rsF_eq f f' (lfd (olf l) d) (r / rwo (olf l) (rgd d)) (by omega) (by omega), rsF_eq f f' (rgd d) (r % rwo (olf l) (rgd d)) (by omega) (by omega), rsF_eq f f' (lfd (olf l) d) r (by omega) (by omega), rsF_eq f f' (rgd d) (r - rwo (olf l) (lfd (olf l) d)) (by omega) (by omega)]
section RSO
variable {l : List sgT} {v : Nat → Int} {d r : Nat}
theorem rso_a (h : olf l (d / 2) < 6 ∨ d / 2 = 0) : rso l v d r = atq8 (ath l (d / 2)) (d % 2) r v := if_pos h
theorem rso_n (h : olf l (d / 2) = 6) (hk : ¬ d / 2 = 0) : rso l v d r = rso l v (ntd d) r := by
  have a2 := (ntd_h (d := d)).1
  have e : rso l v d r = rsF l v (d / 2) (ntd d) r := (if_neg (by omega)).trans (if_pos h)
  rw [e, rsF_eq (ntd d / 2 + 1) (d / 2) (ntd d) r (by omega) (by omega)]; rfl
theorem rso_y (h : 7 ≤ olf l (d / 2)) (hk : ¬ d / 2 = 0) (hb : olf l (d / 2) + d % 2 = 8) : rso l v d r = (rso l v (lfd (olf l) d) (r / rwo (olf l) (rgd d)) ∧ rso l v (rgd d) (r % rwo (olf l) (rgd d))) := by
  have a1 := (rgd_h (d := d)).1
  have a3 := (lfd_h (o := olf l) (d := d)).1
  have e : rso l v d r = (rsF l v (d / 2) (lfd (olf l) d) (r / rwo (olf l) (rgd d)) ∧ rsF l v (d / 2) (rgd d) (r % rwo (olf l) (rgd d))) := (if_neg (by omega)).trans ((if_neg (by omega)).trans (if_pos hb))
  rw [e, rsF_eq (lfd (olf l) d / 2 + 1) (d / 2) (lfd (olf l) d) _ (by omega) (by omega), rsF_eq (rgd d / 2 + 1) (d / 2) (rgd d) _ (by omega) (by omega)]; rfl
theorem rso_l (h : 7 ≤ olf l (d / 2)) (hk : ¬ d / 2 = 0) (hb : ¬ olf l (d / 2) + d % 2 = 8) (hr : r < rwo (olf l) (lfd (olf l) d)) : rso l v d r = rso l v (lfd (olf l) d) r := by
  have a3 := (lfd_h (o := olf l) (d := d)).1
  have e : rso l v d r = rsF l v (d / 2) (lfd (olf l) d) r := (if_neg (by omega)).trans ((if_neg (by omega)).trans ((if_neg hb).trans (if_pos hr)))
  rw [e, rsF_eq (lfd (olf l) d / 2 + 1) (d / 2) (lfd (olf l) d) _ (by omega) (by omega)]; rfl
theorem rso_r (h : 7 ≤ olf l (d / 2)) (hk : ¬ d / 2 = 0) (hb : ¬ olf l (d / 2) + d % 2 = 8) (hr : ¬ r < rwo (olf l) (lfd (olf l) d)) : rso l v d r = rso l v (rgd d) (r - rwo (olf l) (lfd (olf l) d)) := by
  have a1 := (rgd_h (d := d)).1
  have e : rso l v d r = rsF l v (d / 2) (rgd d) (r - rwo (olf l) (lfd (olf l) d)) := (if_neg (by omega)).trans ((if_neg (by omega)).trans ((if_neg hb).trans (if_neg hr)))
  rw [e, rsF_eq (rgd d / 2 + 1) (d / 2) (rgd d) _ (by omega) (by omega)]; rfl
end RSO
