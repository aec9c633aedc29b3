/-- how many rows demands have together -/
def pd8 (o : Nat → Nat) : List Nat → Nat
  | [] => 1
  | d :: R => rwo o d * pd8 o R
theorem pd8_pos {o : Nat → Nat} : ∀ D, 1 ≤ pd8 o D
  | [] => Nat.le_refl 1
  | d :: R => Nat.mul_pos rwo_pos (pd8_pos R)
/-- what waits is true of the numbers v: x is the row of all demands together, the first one's digit the highest -/
def rst8 (l : List sgT) (v : Nat → Int) : List Nat → Nat → Prop
  | [], _ => True
  | d :: R, x => rso l v d (x / pd8 (olf l) R) ∧ rst8 l v R (x % pd8 (olf l) R)
/-- a step: the first demand is divided, or taken -/
def sp8 (l : List sgT) : List Nat → Nat → List Nat × Nat
  | [], x => ([], x)
  | d :: R, x => if olf l (d / 2) < 6 ∨ d / 2 = 0 then (R, x % pd8 (olf l) R) else if olf l (d / 2) = 6 then (ntd d :: R, x) else if olf l (d / 2) + d % 2 = 8 then (lfd (olf l) d :: rgd d :: R, x) else if x < rwo (olf l) (lfd (olf l) d) * pd8 (olf l) R then (lfd (olf l) d :: R, x) else (rgd d :: R, x - rwo (olf l) (lfd (olf l) d) * pd8 (olf l) R)
/-- what a step takes -/
def tc8 (l : List sgT) (v : Nat → Int) : List Nat → Nat → Prop
  | [], _ => True
  | d :: R, x => if olf l (d / 2) < 6 ∨ d / 2 = 0 then atq8 (ath l (d / 2)) (d % 2) (x / pd8 (olf l) R) v else True
section SP
variable {l : List sgT} {v : Nat → Int} {d x y : Nat} {R : List Nat}
theorem sp8_a (h : olf l (d / 2) < 6 ∨ d / 2 = 0) : sp8 l (d :: R) x = (R, x % pd8 (olf l) R) := if_pos h
theorem sp8_n (h : olf l (d / 2) = 6) (hk : ¬ d / 2 = 0) : sp8 l (d :: R) x = (ntd d :: R, x) := (if_neg (by omega)).trans (if_pos h)
theorem sp8_y (h : 7 ≤ olf l (d / 2)) (hk : ¬ d / 2 = 0) (hb : olf l (d / 2) + d % 2 = 8) : sp8 l (d :: R) x = (lfd (olf l) d :: rgd d :: R, x) := (if_neg (by omega)).trans ((if_neg (by omega)).trans (if_pos hb))
theorem sp8_l (h : 7 ≤ olf l (d / 2)) (hk : ¬ d / 2 = 0) (hb : ¬ olf l (d / 2) + d % 2 = 8) (hx : x < rwo (olf l) (lfd (olf l) d) * pd8 (olf l) R) : sp8 l (d :: R) x = (lfd (olf l) d :: R, x) := (if_neg (by omega)).trans ((if_neg (by omega)).trans ((if_neg hb).trans (if_pos hx)))
theorem sp8_r (h : 7 ≤ olf l (d / 2)) (hk : ¬ d / 2 = 0) (hb : ¬ olf l (d / 2) + d % 2 = 8) (hx : ¬ x < rwo (olf l) (lfd (olf l) d) * pd8 (olf l) R) : sp8 l (d :: R) x = (rgd d :: R, x - rwo (olf l) (lfd (olf l) d) * pd8 (olf l) R) := (if_neg (by omega)).trans ((if_neg (by omega)).trans ((if_neg hb).trans (if_neg hx)))
theorem tc8_a (h : olf l (d / 2) < 6 ∨ d / 2 = 0) : tc8 l v (d :: R) x = atq8 (ath l (d / 2)) (d % 2) (x / pd8 (olf l) R) v := if_pos h
theorem tc8_t (h : ¬ (olf l (d / 2) < 6 ∨ d / 2 = 0)) : tc8 l v (d :: R) x = True := if_neg h
theorem pd8_big (h : pd8 (olf l) (d :: R) ≤ 5000) : rwo (olf l) d ≤ 5000 := by
  have h1 : rwo (olf l) d * 1 ≤ rwo (olf l) d * pd8 (olf l) R := Nat.mul_le_mul_left _ (pd8_pos R)
  have h2 : rwo (olf l) d * pd8 (olf l) R ≤ 5000 := h
  omega
/-- rows that a step does not part stand beside each other -/
theorem sp8_blk : ∀ {D : List Nat}, pd8 (olf l) D ≤ 5000 → x < pd8 (olf l) D → ∃ c, x = c + (sp8 l D x).2 ∧ (sp8 l D x).2 < pd8 (olf l) (sp8 l D x).1 ∧ c + pd8 (olf l) (sp8 l D x).1 ≤ pd8 (olf l) D ∧ ∀ y, y < pd8 (olf l) (sp8 l D x).1 → sp8 l D (c + y) = ((sp8 l D x).1, y) ∧ ∀ v, tc8 l v D (c + y) ↔ tc8 l v D x
  | [], _, hx => ⟨0, (Nat.zero_add x).symm, hx, by rw [Nat.zero_add]; exact Nat.le_refl _, fun y hy => ⟨by rw [Nat.zero_add]; rfl, fun v => Iff.rfl⟩⟩
  | d :: R, hN, hx => by
    have hb := pd8_big hN
    have hn := pd8_pos (o := olf l) R
    have hx2 : x < rwo (olf l) d * pd8 (olf l) R := hx
    by_cases ca : olf l (d / 2) < 6 ∨ d / 2 = 0
    · rw [sp8_a ca]
      have hq : x / pd8 (olf l) R < rwo (olf l) d := (Nat.div_lt_iff_lt_mul hn).mpr hx2
      refine ⟨pd8 (olf l) R * (x / pd8 (olf l) R), (Nat.div_add_mod x _).symm, Nat.mod_lt _ hn, ?_, fun y hy => ⟨?_, fun v => ?_⟩⟩
      · show pd8 (olf l) R * (x / pd8 (olf l) R) + pd8 (olf l) R ≤ rwo (olf l) d * pd8 (olf l) R
        have h1 : pd8 (olf l) R * (x / pd8 (olf l) R + 1) ≤ pd8 (olf l) R * rwo (olf l) d := Nat.mul_le_mul_left _ hq
        rw [Nat.mul_add, Nat.mul_one] at h1
        rw [Nat.mul_comm (rwo (olf l) d)]
        exact h1
      · have hy2 : y < pd8 (olf l) R := hy
        rw [sp8_a ca, Nat.mul_add_mod, Nat.mod_eq_of_lt hy2]
      · have hy2 : y < pd8 (olf l) R := hy
        rw [tc8_a ca, tc8_a ca, Nat.mul_add_div hn, Nat.div_eq_of_lt hy2, Nat.add_zero]
    · by_cases c6 : olf l (d / 2) = 6
      · rw [sp8_n c6 (by omega)]
        have e : pd8 (olf l) (ntd d :: R) = pd8 (olf l) (d :: R) := by
          show rwo (olf l) (ntd d) * _ = rwo (olf l) d * _
          rw [rwo_n c6 (by omega)]
        refine ⟨0, (Nat.zero_add x).symm, (by show x < pd8 (olf l) (ntd d :: R); rw [e]; exact hx), (by show 0 + pd8 (olf l) (ntd d :: R) ≤ pd8 (olf l) (d :: R); rw [e, Nat.zero_add]; exact Nat.le_refl _), fun y hy => ⟨?_, fun v => ?_⟩⟩
        · rw [sp8_n c6 (by omega), Nat.zero_add]
        · rw [tc8_t ca, tc8_t ca]
      · by_cases cb : olf l (d / 2) + d % 2 = 8
        · rw [sp8_y (by omega) (by omega) cb]
          have e : pd8 (olf l) (lfd (olf l) d :: rgd d :: R) = pd8 (olf l) (d :: R) := by
            have e1 := rwo_y (o := olf l) (d := d) (by omega) (by omega) cb
            show rwo (olf l) (lfd (olf l) d) * (rwo (olf l) (rgd d) * pd8 (olf l) R) = rwo (olf l) d * pd8 (olf l) R
            rw [e1, lm8_id (by rw [← e1]; exact hb), Nat.mul_assoc]
          refine ⟨0, (Nat.zero_add x).symm, (by show x < pd8 (olf l) (lfd (olf l) d :: rgd d :: R); rw [e]; exact hx), (by show 0 + pd8 (olf l) (lfd (olf l) d :: rgd d :: R) ≤ pd8 (olf l) (d :: R); rw [e, Nat.zero_add]; exact Nat.le_refl _), fun y hy => ⟨?_, fun v => ?_⟩⟩
          · rw [sp8_y (by omega) (by omega) cb, Nat.zero_add]
          · rw [tc8_t ca, tc8_t ca]
        · have e1 := rwo_e (o := olf l) (d := d) (by omega) (by omega) cb
          have e : rwo (olf l) d * pd8 (olf l) R = rwo (olf l) (lfd (olf l) d) * pd8 (olf l) R + rwo (olf l) (rgd d) * pd8 (olf l) R := by
            rw [e1, lm8_id (by rw [← e1]; exact hb), Nat.add_mul]
          by_cases cx : x < rwo (olf l) (lfd (olf l) d) * pd8 (olf l) R
          · rw [sp8_l (by omega) (by omega) cb cx]
            refine ⟨0, (Nat.zero_add x).symm, cx, ?_, fun y hy => ⟨?_, fun v => ?_⟩⟩
            · show 0 + rwo (olf l) (lfd (olf l) d) * pd8 (olf l) R ≤ rwo (olf l) d * pd8 (olf l) R
              omega
            · have hy2 : y < rwo (olf l) (lfd (olf l) d) * pd8 (olf l) R := hy
              rw [Nat.zero_add, sp8_l (by omega) (by omega) cb hy2]
            · rw [tc8_t ca, tc8_t ca]
          · rw [sp8_r (by omega) (by omega) cb cx]
            refine ⟨rwo (olf l) (lfd (olf l) d) * pd8 (olf l) R, ?_, ?_, ?_, fun y hy => ⟨?_, fun v => ?_⟩⟩
            · show x = rwo (olf l) (lfd (olf l) d) * pd8 (olf l) R + (x - rwo (olf l) (lfd (olf l) d) * pd8 (olf l) R)
              omega
            · show x - rwo (olf l) (lfd (olf l) d) * pd8 (olf l) R < rwo (olf l) (rgd d) * pd8 (olf l) R
              omega
            · show rwo (olf l) (lfd (olf l) d) * pd8 (olf l) R + rwo (olf l) (rgd d) * pd8 (olf l) R ≤ rwo (olf l) d * pd8 (olf l) R
              omega
            · rw [sp8_r (by omega) (by omega) cb (by omega), Nat.add_sub_cancel_left]
            · rw [tc8_t ca, tc8_t ca]
/-- what waits is what a step takes, and what waits behind it -/
theorem sp8_rst : ∀ {D : List Nat}, pd8 (olf l) D ≤ 5000 → (rst8 l v D x ↔ (tc8 l v D x ∧ rst8 l v (sp8 l D x).1 (sp8 l D x).2))
  | [], _ => ⟨fun _ => ⟨trivial, trivial⟩, fun _ => trivial⟩
  | d :: R, hN => by
    have hb := pd8_big hN
    have hn := pd8_pos (o := olf l) R
    by_cases ca : olf l (d / 2) < 6 ∨ d / 2 = 0
    · rw [sp8_a ca, tc8_a ca]
      show (rso l v d (x / pd8 (olf l) R) ∧ rst8 l v R (x % pd8 (olf l) R)) ↔ _
      rw [rso_a ca]
    · rw [tc8_t ca, true_and]
      by_cases c6 : olf l (d / 2) = 6
      · rw [sp8_n c6 (by omega)]
        show (rso l v d (x / pd8 (olf l) R) ∧ rst8 l v R (x % pd8 (olf l) R)) ↔ (rso l v (ntd d) (x / pd8 (olf l) R) ∧ rst8 l v R (x % pd8 (olf l) R))
        rw [rso_n c6 (by omega)]
      · by_cases cb : olf l (d / 2) + d % 2 = 8
        · rw [sp8_y (by omega) (by omega) cb]
          show (rso l v d (x / pd8 (olf l) R) ∧ rst8 l v R (x % pd8 (olf l) R)) ↔ (rso l v (lfd (olf l) d) (x / (rwo (olf l) (rgd d) * pd8 (olf l) R)) ∧ (rso l v (rgd d) (x % (rwo (olf l) (rgd d) * pd8 (olf l) R) / pd8 (olf l) R) ∧ rst8 l v R (x % (rwo (olf l) (rgd d) * pd8 (olf l) R) % pd8 (olf l) R)))
          rw [rso_y (by omega) (by omega) cb, Nat.mod_mul_left_div_self, Nat.mod_mul_left_mod, Nat.div_div_eq_div_mul, Nat.mul_comm (pd8 (olf l) R), and_assoc]
        · by_cases cx : x < rwo (olf l) (lfd (olf l) d) * pd8 (olf l) R
          · rw [sp8_l (by omega) (by omega) cb cx]
            show (rso l v d (x / pd8 (olf l) R) ∧ rst8 l v R (x % pd8 (olf l) R)) ↔ (rso l v (lfd (olf l) d) (x / pd8 (olf l) R) ∧ rst8 l v R (x % pd8 (olf l) R))
            rw [rso_l (by omega) (by omega) cb ((Nat.div_lt_iff_lt_mul hn).mpr cx)]
          · rw [sp8_r (by omega) (by omega) cb cx]
            have e0 : x = pd8 (olf l) R * rwo (olf l) (lfd (olf l) d) + (x - rwo (olf l) (lfd (olf l) d) * pd8 (olf l) R) := by
              rw [Nat.mul_comm (pd8 (olf l) R)]; omega
            have e1 : x / pd8 (olf l) R = rwo (olf l) (lfd (olf l) d) + (x - rwo (olf l) (lfd (olf l) d) * pd8 (olf l) R) / pd8 (olf l) R := (congrArg (· / pd8 (olf l) R) e0).trans (Nat.mul_add_div hn _ _)
            have e2 : x % pd8 (olf l) R = (x - rwo (olf l) (lfd (olf l) d) * pd8 (olf l) R) % pd8 (olf l) R := (congrArg (· % pd8 (olf l) R) e0).trans (Nat.mul_add_mod _ _ _)
            show (rso l v d (x / pd8 (olf l) R) ∧ rst8 l v R (x % pd8 (olf l) R)) ↔ (rso l v (rgd d) ((x - rwo (olf l) (lfd (olf l) d) * pd8 (olf l) R) / pd8 (olf l) R) ∧ rst8 l v R ((x - rwo (olf l) (lfd (olf l) d) * pd8 (olf l) R) % pd8 (olf l) R))
            rw [rso_r (by omega) (by omega) cb (by rw [e1]; exact Nat.not_lt.mpr (Nat.le_add_right _ _)), e2, e1, Nat.add_sub_cancel_left]
end SP
/-- k steps, and what they take -/
def sn8 (l : List sgT) (D : List Nat) (x : Nat) : Nat → List Nat × Nat
  | 0 => (D, x)
  | k + 1 => sp8 l (sn8 l D x k).1 (sn8 l D x k).2
def tk8 (l : List sgT) (D : List Nat) (x : Nat) (v : Nat → Int) : Nat → Prop
  | 0 => True
  | k + 1 => tk8 l D x v k ∧ tc8 l v (sn8 l D x k).1 (sn8 l D x k).2
section SN
variable {l : List sgT} {v : Nat → Int} {D : List Nat} {x r t : Nat}
theorem tk8_dn {j : Nat} : ∀ m, tk8 l D x v (j + m) → tk8 l D x v j
  | 0, h => h
  | m + 1, h => tk8_dn m h.1
theorem sn8_blk (hN : pd8 (olf l) D ≤ 5000) (hx : x < pd8 (olf l) D) : ∀ k, ∃ c, x = c + (sn8 l D x k).2 ∧ (sn8 l D x k).2 < pd8 (olf l) (sn8 l D x k).1 ∧ c + pd8 (olf l) (sn8 l D x k).1 ≤ pd8 (olf l) D ∧ ∀ y, y < pd8 (olf l) (sn8 l D x k).1 → sn8 l D (c + y) k = ((sn8 l D x k).1, y) ∧ ∀ v, tk8 l D (c + y) v k ↔ tk8 l D x v k
  | 0 => ⟨0, (Nat.zero_add x).symm, hx, by rw [Nat.zero_add]; exact Nat.le_refl _, fun y hy => ⟨by rw [Nat.zero_add]; rfl, fun v => Iff.rfl⟩⟩
  | k + 1 => by
    obtain ⟨c1, a1, a2, a3, a4⟩ := sn8_blk hN hx k
    obtain ⟨c2, b1, b2, b3, b4⟩ := sp8_blk (D := (sn8 l D x k).1) (x := (sn8 l D x k).2) (by omega) a2
    refine ⟨c1 + c2, ?_, b2, ?_, fun y hy => ?_⟩
    · show x = c1 + c2 + (sp8 l (sn8 l D x k).1 (sn8 l D x k).2).2
      omega
    · show c1 + c2 + pd8 (olf l) (sp8 l (sn8 l D x k).1 (sn8 l D x k).2).1 ≤ pd8 (olf l) D
      omega
    · have hy2 : y < pd8 (olf l) (sp8 l (sn8 l D x k).1 (sn8 l D x k).2).1 := hy
      obtain ⟨d1, d2⟩ := a4 (c2 + y) (by omega)
      obtain ⟨d3, d4⟩ := b4 y hy2
      rw [← Nat.add_assoc] at d1 d2
      refine ⟨?_, fun v => ?_⟩
      · show sp8 l (sn8 l D (c1 + c2 + y) k).1 (sn8 l D (c1 + c2 + y) k).2 = _
        rw [d1]; exact d3
      · show (tk8 l D (c1 + c2 + y) v k ∧ tc8 l v (sn8 l D (c1 + c2 + y) k).1 (sn8 l D (c1 + c2 + y) k).2) ↔ (tk8 l D x v k ∧ tc8 l v (sn8 l D x k).1 (sn8 l D x k).2)
        rw [d1, d2 v]
        exact and_congr_right (fun _ => d4 v)
/-- later rows lie within -/
theorem sn8_nest (hN : pd8 (olf l) D ≤ 5000) (hx : x < pd8 (olf l) D) {j : Nat} : ∀ m, (sn8 l D x (j + m)).2 ≤ (sn8 l D x j).2 ∧ ((sn8 l D x j).2 - (sn8 l D x (j + m)).2) + pd8 (olf l) (sn8 l D x (j + m)).1 ≤ pd8 (olf l) (sn8 l D x j).1
  | 0 => ⟨Nat.le_refl _, by rw [Nat.add_zero, Nat.sub_self, Nat.zero_add]; exact Nat.le_refl _⟩
  | m + 1 => by
    obtain ⟨i1, i2⟩ := sn8_nest hN hx (j := j) m
    obtain ⟨c1, a1, a2, a3, a4⟩ := sn8_blk hN hx (j + m)
    obtain ⟨c2, b1, b2, b3, b4⟩ := sp8_blk (D := (sn8 l D x (j + m)).1) (x := (sn8 l D x (j + m)).2) (by omega) a2
    show (sp8 l (sn8 l D x (j + m)).1 (sn8 l D x (j + m)).2).2 ≤ (sn8 l D x j).2 ∧ ((sn8 l D x j).2 - (sp8 l (sn8 l D x (j + m)).1 (sn8 l D x (j + m)).2).2) + pd8 (olf l) (sp8 l (sn8 l D x (j + m)).1 (sn8 l D x (j + m)).2).1 ≤ pd8 (olf l) (sn8 l D x j).1
    omega
theorem sn8_rst (hN : pd8 (olf l) D ≤ 5000) (hx : x < pd8 (olf l) D) : ∀ k, rst8 l v D x ↔ (tk8 l D x v k ∧ rst8 l v (sn8 l D x k).1 (sn8 l D x k).2)
  | 0 => ⟨fun h => ⟨trivial, h⟩, fun h => h.2⟩
  | k + 1 => by
    obtain ⟨c1, a1, a2, a3, a4⟩ := sn8_blk hN hx k
    have h1 := sp8_rst (l := l) (v := v) (x := (sn8 l D x k).2) (D := (sn8 l D x k).1) (by omega)
    rw [sn8_rst hN hx k, h1, ← and_assoc]
    exact Iff.rfl
/-- rows that part behind step t + 1 go with r; the next one is the first of its kind, as r was -/
theorem nx8 {n : Nat} (hN : pd8 (olf l) D ≤ 5000) (hr : r < pd8 (olf l) D) (hI : ∀ k, ¬ (sn8 l D r k).2 = 0 → ∃ v, npo8 v ∧ tk8 l D r v k) (hs : ∃ v, npo8 v ∧ tk8 l D r v t) (hu : ¬ ∃ v, npo8 v ∧ tk8 l D r v (t + 1)) (en : pd8 (olf l) (sn8 l D r (t + 1)).1 = n) : (∀ r', r ≤ r' → r' < r + n → ¬ ∃ v, npo8 v ∧ rst8 l v D r') ∧ r + n ≤ pd8 (olf l) D ∧ 1 ≤ n ∧ (r + n < pd8 (olf l) D → ∀ k, ¬ (sn8 l D (r + n) k).2 = 0 → ∃ v, npo8 v ∧ tk8 l D (r + n) v k) := by
  obtain ⟨c, a1, a2, a3, a4⟩ := sn8_blk hN hr (t + 1)
  rw [en] at a2 a3 a4
  have hz : (sn8 l D r (t + 1)).2 = 0 := Classical.byContradiction (fun q => hu (hI (t + 1) q))
  have hc : c = r := by omega
  rw [hc] at a3 a4
  refine ⟨fun r' h1 h2 => ?_, a3, by rw [← en]; exact pd8_pos _, fun h2 j hj => ?_⟩
  · intro hv
    obtain ⟨v, hv1, hv2⟩ := hv
    obtain ⟨_, d⟩ := a4 (r' - r) (by omega)
    rw [show r + (r' - r) = r' by omega] at d
    have hv3 := ((sn8_rst (v := v) hN (x := r') (by omega) (t + 1)).mp hv2).1
    exact hu ⟨v, hv1, (d v).mp hv3⟩
  · have hn1 : 1 ≤ n := by rw [← en]; exact pd8_pos _
    obtain ⟨f1, f2⟩ := a4 (n - 1) (by omega)
    obtain ⟨cj, b1, b2, b3, b4⟩ := sn8_blk hN h2 j
    obtain ⟨g1, g2⟩ := b4 ((sn8 l D (r + n) j).2 - 1) (by omega)
    rw [show cj + ((sn8 l D (r + n) j).2 - 1) = r + (n - 1) by omega] at g1 g2
    rcases Nat.lt_or_ge t j with ht | ht
    · exfalso
      obtain ⟨m, rfl⟩ : ∃ m, j = t + 1 + m := ⟨j - (t + 1), by omega⟩
      obtain ⟨n1, n2⟩ := sn8_nest hN h2 (j := t + 1) m
      obtain ⟨ck, p1, p2, p3, p4⟩ := sn8_blk hN h2 (t + 1)
      obtain ⟨q1, q2⟩ := p4 ((sn8 l D (r + n) (t + 1)).2 - 1) (by omega)
      rw [show ck + ((sn8 l D (r + n) (t + 1)).2 - 1) = r + (n - 1) by omega, f1] at q1
      have w1 : (sn8 l D r (t + 1)).1 = (sn8 l D (r + n) (t + 1)).1 := (Prod.mk.inj q1).1
      have w2 : n - 1 = (sn8 l D (r + n) (t + 1)).2 - 1 := (Prod.mk.inj q1).2
      rw [← w1, en] at p2
      omega
    · obtain ⟨v, hv1, hv2⟩ := hs
      obtain ⟨m, rfl⟩ : ∃ m, t = j + m := ⟨t - j, by omega⟩
      have hv3 := tk8_dn m hv2
      obtain ⟨n1, n2⟩ := sn8_nest hN hr (j := j) (m + 1)
      rw [show j + (m + 1) = j + m + 1 by omega, hz] at n1 n2
      rw [en] at n2
      obtain ⟨ck, p1, p2, p3, p4⟩ := sn8_blk hN hr j
      obtain ⟨q1, q2⟩ := p4 ((sn8 l D r j).2 + (n - 1)) (by omega)
      rw [show ck + ((sn8 l D r j).2 + (n - 1)) = r + (n - 1) by omega] at q1 q2
      exact ⟨v, hv1, (g2 v).mp ((q2 v).mpr hv3)⟩
theorem nx8_0 (hN : pd8 (olf l) D ≤ 5000) : ∀ k, ¬ (sn8 l D 0 k).2 = 0 → ∃ v, npo8 v ∧ tk8 l D 0 v k := fun k q => by
  obtain ⟨c, a1, _⟩ := sn8_blk (x := 0) hN (pd8_pos D) k
  exact absurd a1 (by omega)
end SN
/-- row r of what the formula is not is true of the numbers v; there are such numbers -/
def psv8 (l : List sgT) (r : Nat) (v : Nat → Int) : Prop := npo8 v ∧ rso l v (2 * (l.length - 1)) r
def psb8 (l : List sgT) (r : Nat) : Prop := ∃ v, psv8 l r v
def rwl8 (l : List sgT) : Nat := rwo (olf l) (2 * (l.length - 1))
theorem rst8_1 {l : List sgT} {v : Nat → Int} {d x : Nat} : rst8 l v [d] x ↔ rso l v d x := by
  show (rso l v d (x / 1) ∧ True) ↔ _
  rw [Nat.div_one, and_true]
theorem pd8_1 {o : Nat → Nat} {d : Nat} : pd8 o [d] = rwo o d := Nat.mul_one _
/-- x is the first row for which there are numbers, or -1 -/
def frq8 (l : List sgT) (x : Int32) : Prop := (x = -1 ∧ (rwl8 l = 5001 ∨ ∀ r, r < rwl8 l → ¬ psb8 l r)) ∨ ∃ r, r < rwl8 l ∧ ¬ rwl8 l = 5001 ∧ x = nI r ∧ psb8 l r ∧ ∀ r', r' < r → ¬ psb8 l r'
theorem frq8.eq {l : List sgT} {x y : Int32} (h : frq8 l x) (h' : frq8 l y) : x = y := by
  rcases h with ⟨e, h⟩ | ⟨r, h1, h2, e, h3, h4⟩
  · rcases h' with ⟨e', _⟩ | ⟨r', h1', h2', e', h3', h4'⟩
    · rw [e, e']
    · rcases h with h | h
      · exact absurd h h2'
      · exact absurd h3' (h r' h1')
  · rcases h' with ⟨e', h'⟩ | ⟨r', h1', h2', e', h3', h4'⟩
    · rcases h' with h' | h'
      · exact absurd h' h2
      · exact absurd h3 (h' r h1)
    · rcases Nat.lt_trichotomy r r' with q | q | q
      · exact absurd h3 (h4' r q)
      · rw [e, e', q]
      · exact absurd h3' (h4 r' q)
theorem frq8.rw {l : List sgT} {x : Int32} (h : frq8 l x) (h5 : rwl8 l = 5001) : x = -1 := by
  rcases h with ⟨e, _⟩ | ⟨_, _, q, _⟩
  · exact e
  · exact absurd h5 q
/-- the numbers of the counterexample -/
def lI8 (f : Nat → Int32) : Nat → Int := fun i => (f i).toInt
def ctq8 (l : List sgT) (x : Int32) (f : Nat → Int32) : Prop := ∀ r, x = nI r → r < 5001 → ∃ lv : Nat → Int32, grt8 (psv8 l r) (lI8 lv) ∧ ∀ i, i < 10 → f i = lv i - lv 10
theorem ctq8.eq {l : List sgT} {r : Nat} {f : Nat → Int32} {lv : Nat → Int32} (h : ctq8 l (nI r) f) (hr : r < 5001) (h' : grt8 (psv8 l r) (lI8 lv)) {i : Nat} (hi : i < 10) : f i = lv i - lv 10 := by
  obtain ⟨lw, h1, h2⟩ := h r rfl hr
  have e : ∀ j, j ≤ 10 → lw j = lv j := fun j hj => Int32.toInt_inj.mp (h1.eq h' (fun _ => Iff.rfl) hj)
  rw [h2 i hi, e i (by omega), e 10 (by omega)]
