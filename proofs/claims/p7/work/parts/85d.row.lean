/-- an atom's numbers are small, its comparison is one -/
def atb8 (kp : Nat → Int32) (p1 : Nat) : Prop := cok8 (kp (p1 + 3)) ∧ (-21483 ≤ (kp (p1 + 2)).toInt ∧ (kp (p1 + 2)).toInt ≤ 21483) ∧ -21483 ≤ (kp (p1 + 5)).toInt ∧ (kp (p1 + 5)).toInt ≤ 21483
/-- how much more y's number is -/
theorem atb8.m {kp : Nat → Int32} {p1 : Nat} {z : Int32} (h : atb8 kp p1) (e : z = kp (p1 + 5) - kp (p1 + 2)) : z.toInt = (kp (p1 + 5)).toInt - (kp (p1 + 2)).toInt ∧ -42966 ≤ z.toInt ∧ z.toInt ≤ 42966 := by
  obtain ⟨_, ⟨a, b⟩, c, d⟩ := h
  have q : z.toInt = (kp (p1 + 5)).toInt - (kp (p1 + 2)).toInt := by rw [e, i32_sub (by omega) (by omega) (by omega) (by omega)]
  exact ⟨q, by omega, by omega⟩
theorem i32_1 : (1 : Int32).toInt = 1 := by decide
def adc8 (kp : Nat → Int32) (p1 : Nat) : sgT := (wcd (kp (p1 + 3)), (nmI (kp (p1 + 1)), kp (p1 + 2)), (nmI (kp (p1 + 4)), kp (p1 + 5)))
theorem atb8_of {kp : Nat → Int32} {fr q k : Nat} (hb : nbl 21483 (sgl kp (6 * fr) q)) (hk : k < q) (h0 : kp (6 * fr + 6 * k) = 0) : atb8 kp (6 * fr + 6 * k) ∧ ath (sgl kp (6 * fr) q) k = adc8 kp (6 * fr + 6 * k) := by
  have e := ath_sgl (F := kp) (b := 6 * fr) q k hk
  have hm := hb _ (ath_mem (l := sgl kp (6 * fr) q) (k := k) (by rw [sgl_len]; exact hk))
  rw [e] at hm
  obtain ⟨b1, b2⟩ := hm.2 (dec_c0 h0)
  have ed : dec kp (6 * fr + 6 * k) = (wcd (kp (6 * fr + 6 * k + 3)), (nmI (kp (6 * fr + 6 * k + 1)), kp (6 * fr + 6 * k + 2)), tm48 (kp (6 * fr + 6 * k + 3)) (kp (6 * fr + 6 * k + 4)) (kp (6 * fr + 6 * k + 5))) := if_pos h0
  rw [ed] at b1 b2
  have hc : cok8 (kp (6 * fr + 6 * k + 3)) := Classical.byContradiction (fun hn => by
    have e9 : tm48 (kp (6 * fr + 6 * k + 3)) (kp (6 * fr + 6 * k + 4)) (kp (6 * fr + 6 * k + 5)) = (99, 0) := if_neg hn
    rw [e9] at b2
    have := b2.1
    have h9 : (99 : Nat) ≤ 10 := this
    omega)
  have e8 : tm48 (kp (6 * fr + 6 * k + 3)) (kp (6 * fr + 6 * k + 4)) (kp (6 * fr + 6 * k + 5)) = (nmI (kp (6 * fr + 6 * k + 4)), kp (6 * fr + 6 * k + 5)) := if_pos hc
  rw [e8] at b2 ed
  obtain ⟨_, b3, b4⟩ := b1
  obtain ⟨_, b5, b6⟩ := b2
  exact ⟨⟨hc, ⟨b3, b4⟩, b5, b6⟩, by rw [e, ed]; rfl⟩
/-- bounds taken so far: those that were there, and what an atom's halves ask -/
def tA8 (br : Nat) (bd ib : Nat → Int32) (P : (Nat → Int) → Prop) (b2 : Nat) (bd2 ib2 : Nat → Int32) : Prop := bdW8 bd2 ib2 ∧ ∀ v, bS8 b2 bd2 ib2 v ↔ (bS8 br bd ib v ∧ P v)
section TA
variable {br b2 b3 x y : Nat} {bd ib bd2 ib2 bd3 ib3 : Nat → Int32} {w z z2 : Int32} {P Q : (Nat → Int) → Prop}
theorem tA8_0 (hW : bdW8 bd ib) (h : ∀ v, P v) : tA8 br bd ib P br bd ib := ⟨hW, fun v => ⟨fun q => ⟨q, h v⟩, fun q => q.1⟩⟩
theorem tA8.tr (h : tA8 br bd ib P b2 bd2 ib2) (h2 : tA8 b2 bd2 ib2 Q b3 bd3 ib3) : tA8 br bd ib (fun v => P v ∧ Q v) b3 bd3 ib3 := ⟨h2.1, fun v => by rw [h2.2 v, h.2 v, and_assoc]⟩
theorem tA8.as (h : tA8 br bd ib P b2 bd2 ib2) (e : ∀ v, P v ↔ Q v) : tA8 br bd ib Q b2 bd2 ib2 := ⟨h.1, fun v => by rw [h.2 v, e v]⟩
theorem hA8_n (h0 : ¬ w = 0) (h1 : ¬ w = 1) (h2 : ¬ w = 2) {m : Int} (v : Nat → Int) : hA8 w x y m v := ⟨fun q => absurd q h0, fun q => absurd q h1, fun q => absurd q h2⟩
theorem hB8_n (h0 : ¬ w = 5) (h1 : ¬ w = 4) (h2 : ¬ w = 2) {m : Int} (v : Nat → Int) : hB8 w x y m v := ⟨fun q => absurd q h0, fun q => absurd q h1, fun q => absurd q h2⟩
theorem hA8_l {m : Int} {v : Nat → Int} (h : w = 0) (e : z.toInt = m - 1) : v x ≤ v y + z.toInt ↔ hA8 w x y m v := by
  subst h
  rw [e]
  exact ⟨fun q => ⟨fun _ => q, fun q => absurd q (by decide), fun q => absurd q (by decide)⟩, fun q => q.1 rfl⟩
theorem hA8_m {m : Int} {v : Nat → Int} (h0 : ¬ w = 0) (h : w = 1 ∨ w = 2) (e : z.toInt = m) : v x ≤ v y + z.toInt ↔ hA8 w x y m v := by
  rw [e]
  refine ⟨fun q => ⟨fun q => absurd q h0, fun _ => q, fun _ => q⟩, fun q => ?_⟩
  rcases h with h | h
  · exact q.2.1 h
  · exact q.2.2 h
theorem hB8_l {m : Int} {v : Nat → Int} (h : w = 5) (e : z.toInt = -m - 1) : v y ≤ v x + z.toInt ↔ hB8 w x y m v := by
  subst h
  rw [e]
  exact ⟨fun q => ⟨fun _ => q, fun q => absurd q (by decide), fun q => absurd q (by decide)⟩, fun q => q.1 rfl⟩
theorem hB8_m {m : Int} {v : Nat → Int} (h0 : ¬ w = 5) (h : w = 4 ∨ w = 2) (e : z.toInt = -m) : v y ≤ v x + z.toInt ↔ hB8 w x y m v := by
  rw [e]
  refine ⟨fun q => ⟨fun q => absurd q h0, fun _ => q, fun _ => q⟩, fun q => ?_⟩
  rcases h with h | h
  · exact q.2.1 h
  · exact q.2.2 h
end TA
/-- the atom at p1, as the reference takes it -/
theorem at8_w {kp : Nat → Int32} {p1 t r x y : Nat} {y5 : Int32} {v : Nat → Int} (hc : cok8 y5 ∧ wcd y5 = cd8 (wcd (kp (p1 + 3))) t r) (ex : x = nmI (kp (p1 + 1))) (ey : y = nmI (kp (p1 + 4))) : (hA8 y5 x y ((kp (p1 + 5)).toInt - (kp (p1 + 2)).toInt) v ∧ hB8 y5 x y ((kp (p1 + 5)).toInt - (kp (p1 + 2)).toInt) v) ↔ atq8 (adc8 kp p1) t r v := by
  rw [← at9_w hc.1, hc.2, ex, ey]; exact Iff.rfl
/-- rows that still wait -/
def trQ8 (l : List sgT) (r br : Nat) (bd ib : Nat → Int32) (pa pr ptr : Nat → Nat) (n : Nat) : Prop := bdW8 bd ib ∧ (∀ i, i < n → ptr i ≤ 1 ∧ pr i ≤ 5001) ∧ ∀ v, psv8 l r v ↔ (bS8 br bd ib v ∧ ∀ i, i < n → rso l v (2 * pa i + ptr i) (pr i))
section TRQ
variable {l : List sgT} {r br b2 n k t x x2 a c : Nat} {bd ib bd2 ib2 : Nat → Int32} {pa pr ptr : Nat → Nat}
theorem trQ8_0 (hb0 : br = 0) (hr : r ≤ 5001) (hz : ∀ k, k ≤ 120 → ib k = 0) (hq : c = l.length - 1) : trQ8 l r br bd ib (sup pa 0 c) (sup pr 0 r) (sup ptr 0 0) 1 := by
  refine ⟨fun k hk q => absurd (hz k hk) q, fun i hi => ?_, fun v => ?_⟩
  · have : i = 0 := by omega
    subst this
    rw [sup_eq, sup_eq]; exact ⟨Nat.zero_le _, hr⟩
  · constructor
    · intro ⟨h0, h1⟩
      refine ⟨⟨hb0, h0, fun x y m hm => absurd (hz _ (by have := hm.1; have := hm.2.1; omega)) hm.2.2.1⟩, fun i hi => ?_⟩
      have : i = 0 := by omega
      subst this
      rw [sup_eq, sup_eq, sup_eq, hq]; exact h1
    · intro ⟨h0, h1⟩
      have h2 := h1 0 (by omega)
      rw [sup_eq, sup_eq, sup_eq, hq] at h2
      exact ⟨h0.2.1, h2⟩
/-- the last one is an atom -/
theorem trQ8_a (h : trQ8 l r br bd ib pa pr ptr (n + 1)) (h6 : olf l (pa n) < 6) (ht : tA8 br bd ib (fun v => atq8 (ath l (pa n)) (ptr n) (pr n) v) b2 bd2 ib2) : trQ8 l r b2 bd2 ib2 pa pr ptr n := by
  obtain ⟨_, h1, h2⟩ := h
  obtain ⟨d1, d2⟩ := dm_t (k := pa n) (h1 n (by omega)).1
  refine ⟨ht.1, fun i hi => h1 i (by omega), fun v => ?_⟩
  rw [h2 v, ht.2 v, and_assoc]
  refine and_congr_right (fun _ => ⟨fun q => ⟨?_, fun i hi => q i (by omega)⟩, fun q i hi => ?_⟩)
  · have q2 := q n (by omega)
    rw [rso_a (by rw [d1]; exact Or.inl h6), d1, d2] at q2
    exact q2
  · by_cases e : i = n
    · subst e
      rw [rso_a (by rw [d1]; exact Or.inl h6), d1, d2]
      exact q.1
    · exact q.2 i (by omega)
/-- the last one becomes another -/
theorem trQ8_1 (h : trQ8 l r br bd ib pa pr ptr (n + 1)) (ht : t ≤ 1) (hx : x ≤ 5001) (e : ∀ v, rso l v (2 * pa n + ptr n) (pr n) ↔ rso l v (2 * k + t) x) : trQ8 l r br bd ib (sup pa n k) (sup pr n x) (sup ptr n t) (n + 1) := by
  obtain ⟨h0, h1, h2⟩ := h
  refine ⟨h0, fun i hi => ?_, fun v => ?_⟩
  · by_cases e9 : i = n
    · subst e9; rw [sup_eq, sup_eq]; exact ⟨ht, hx⟩
    · rw [sup_ne e9, sup_ne e9]; exact h1 i hi
  · rw [h2 v]
    refine and_congr_right (fun _ => ⟨fun q i hi => ?_, fun q i hi => ?_⟩)
    · by_cases e9 : i = n
      · subst e9; rw [sup_eq, sup_eq, sup_eq]; exact (e v).mp (q i hi)
      · rw [sup_ne e9, sup_ne e9, sup_ne e9]; exact q i hi
    · have q2 := q i hi
      by_cases e9 : i = n
      · subst e9; rw [sup_eq, sup_eq, sup_eq] at q2; exact (e v).mpr q2
      · rw [sup_ne e9, sup_ne e9, sup_ne e9] at q2; exact q2
theorem sup_id {f : Nat → Nat} {n : Nat} : sup f n (f n) = f := by
  funext i
  by_cases e : i = n
  · subst e; rw [sup_eq]
  · rw [sup_ne e]
theorem trQ8_n (h : trQ8 l r br bd ib pa pr ptr (n + 1)) (h6 : olf l (pa n) = 6) (h1 : 1 ≤ pa n) (ht : t = 1 - ptr n) : trQ8 l r br bd ib (sup pa n (pa n - 1)) pr (sup ptr n t) (n + 1) := by
  obtain ⟨d1, d2⟩ := dm_t (k := pa n) (h.2.1 n (by omega)).1
  have h9 := trQ8_1 (k := pa n - 1) (t := t) (x := pr n) h (by omega) (h.2.1 n (by omega)).2 (fun v => by
    rw [rso_n (by rw [d1]; exact h6) (by rw [d1]; omega), show ntd (2 * pa n + ptr n) = 2 * (pa n - 1) + t by unfold ntd; rw [d1, d2, ht]])
  rw [sup_id] at h9
  exact h9
/-- of two parts one -/
theorem trQ8_l (h : trQ8 l r br bd ib pa pr ptr (n + 1)) (h7 : 7 ≤ olf l (pa n)) (h1 : 1 ≤ pa n) (hb : ¬ olf l (pa n) + ptr n = 8) (ea : a = pa n - 1 - szl l (pa n - 1)) (hr : pr n < rwo (olf l) (2 * a + ptr n)) : trQ8 l r br bd ib (sup pa n a) (sup pr n (pr n)) ptr (n + 1) := by
  obtain ⟨d1, d2⟩ := dm_t (k := pa n) (h.2.1 n (by omega)).1
  have el : lfd (olf l) (2 * pa n + ptr n) = 2 * a + ptr n := by
    unfold lfd
    rw [d1, d2, ea]; rfl
  have h9 := trQ8_1 (k := a) (t := ptr n) (x := pr n) h (h.2.1 n (by omega)).1 (h.2.1 n (by omega)).2 (fun v => by
    rw [rso_l (by rw [d1]; exact h7) (by rw [d1]; omega) (by rw [d1, d2]; exact hb) (by rw [el]; exact hr), el])
  rw [sup_id (f := ptr)] at h9
  exact h9
theorem trQ8_r (h : trQ8 l r br bd ib pa pr ptr (n + 1)) (h7 : 7 ≤ olf l (pa n)) (h1 : 1 ≤ pa n) (hb : ¬ olf l (pa n) + ptr n = 8) (ea : a = pa n - 1 - szl l (pa n - 1)) (hr : ¬ pr n < rwo (olf l) (2 * a + ptr n)) (ex : x = pr n - rwo (olf l) (2 * a + ptr n)) : trQ8 l r br bd ib (sup pa n (pa n - 1)) (sup pr n x) ptr (n + 1) := by
  obtain ⟨d1, d2⟩ := dm_t (k := pa n) (h.2.1 n (by omega)).1
  have el : lfd (olf l) (2 * pa n + ptr n) = 2 * a + ptr n := by
    unfold lfd
    rw [d1, d2, ea]; rfl
  have er : rgd (2 * pa n + ptr n) = 2 * (pa n - 1) + ptr n := by
    unfold rgd
    rw [d1, d2]
  have h9 := trQ8_1 (k := pa n - 1) (t := ptr n) (x := x) h (h.2.1 n (by omega)).1 (by have := (h.2.1 n (by omega)).2; omega) (fun v => by
    rw [rso_r (by rw [d1]; exact h7) (by rw [d1]; omega) (by rw [d1, d2]; exact hb) (by rw [el]; exact hr), el, er, ex])
  rw [sup_id (f := ptr)] at h9
  exact h9
/-- both parts -/
theorem trQ8_y (h : trQ8 l r br bd ib pa pr ptr (n + 1)) (h7 : 7 ≤ olf l (pa n)) (h1 : 1 ≤ pa n) (hb : olf l (pa n) + ptr n = 8) (ea : a = pa n - 1 - szl l (pa n - 1)) (ex : x = pr n / rwo (olf l) (2 * (pa n - 1) + ptr n)) (ex2 : x2 = pr n % rwo (olf l) (2 * (pa n - 1) + ptr n)) : trQ8 l r br bd ib (sup (sup pa n a) (n + 1) (pa n - 1)) (sup (sup pr n x) (n + 1) x2) (sup ptr (n + 1) (ptr n)) (n + 2) := by
  obtain ⟨h0, h3, h2⟩ := h
  obtain ⟨t1, t2⟩ := h3 n (by omega)
  obtain ⟨d1, d2⟩ := dm_t (k := pa n) t1
  have el : lfd (olf l) (2 * pa n + ptr n) = 2 * a + ptr n := by
    unfold lfd
    rw [d1, d2, ea]; rfl
  have er : rgd (2 * pa n + ptr n) = 2 * (pa n - 1) + ptr n := by
    unfold rgd
    rw [d1, d2]
  have hx1 : x ≤ pr n := by rw [ex]; exact Nat.div_le_self _ _
  have hx2 : x2 ≤ pr n := by rw [ex2]; exact Nat.mod_le _ _
  have key : ∀ v, rso l v (2 * pa n + ptr n) (pr n) ↔ (rso l v (2 * a + ptr n) x ∧ rso l v (2 * (pa n - 1) + ptr n) x2) := fun v => by
    rw [rso_y (by rw [d1]; exact h7) (by rw [d1]; omega) (by rw [d1, d2]; exact hb), el, er, ← ex, ← ex2]
  refine ⟨h0, fun i hi => ?_, fun v => ?_⟩
  · by_cases e9 : i = n + 1
    · subst e9; rw [sup_eq, sup_eq]; exact ⟨t1, by omega⟩
    · rw [sup_ne e9, sup_ne e9]
      by_cases e8 : i = n
      · subst e8; rw [sup_eq]; exact ⟨t1, by omega⟩
      · rw [sup_ne e8]; exact h3 i (by omega)
  · rw [h2 v]
    refine and_congr_right (fun _ => ⟨fun q i hi => ?_, fun q i hi => ?_⟩)
    · have q2 := (key v).mp (q n (by omega))
      by_cases e9 : i = n + 1
      · subst e9; rw [sup_eq, sup_eq, sup_eq]; exact q2.2
      · rw [sup_ne e9, sup_ne e9, sup_ne e9]
        by_cases e8 : i = n
        · subst e8; rw [sup_eq, sup_eq]; exact q2.1
        · rw [sup_ne e8, sup_ne e8]; exact q i (by omega)
    · have qa := q n (by omega)
      have qb := q (n + 1) (by omega)
      have s1 : sup (sup pa n a) (n + 1) (pa n - 1) n = a := by rw [sup_ne (by omega), sup_eq]
      have s2 : sup ptr (n + 1) (ptr n) n = ptr n := sup_ne (by omega)
      have s3 : sup (sup pr n x) (n + 1) x2 n = x := by rw [sup_ne (by omega), sup_eq]
      rw [s1, s2, s3] at qa
      rw [sup_eq, sup_eq, sup_eq] at qb
      by_cases e8 : i = n
      · subst e8; exact (key v).mpr ⟨qa, qb⟩
      · have q3 := q i (by omega)
        have s4 : sup (sup pa n a) (n + 1) (pa n - 1) i = pa i := by rw [sup_ne (by omega), sup_ne e8]
        have s5 : sup ptr (n + 1) (ptr n) i = ptr i := sup_ne (by omega)
        have s6 : sup (sup pr n x) (n + 1) x2 i = pr i := by rw [sup_ne (by omega), sup_ne e8]
        rw [s4, s5, s6] at q3
        exact q3
/-- all are taken -/
theorem trQ8.fin (h : trQ8 l r br bd ib pa pr ptr n) (hn : n = 0) : ∀ v, psv8 l r v ↔ bS8 br bd ib v := fun v => by
  rw [h.2.2 v]
  exact ⟨fun q => q.1, fun q => ⟨q, fun i hi => absurd hi (by omega)⟩⟩
end TRQ
/-- what isPossible answers -/
def pqQ8 (l : List sgT) (r : Nat) (av : Nat → Int32) (u : Nat) : Prop := (u = 1 → grt8 (psv8 l r) (lI8 av)) ∧ (u = 0 → ¬ psb8 l r)
section PQ
variable {l : List sgT} {r br u : Nat} {bd ib av : Nat → Int32}
theorem pqQ8_b (h : ∀ v, psv8 l r v ↔ bS8 br bd ib v) (hb : ¬ br = 0) : pqQ8 l r av 0 := ⟨fun q => absurd q (by decide), fun _ ⟨v, hv⟩ => hb ((h v).mp hv).1⟩
theorem slE8 {u2 : Nat} (hs : slQ8 bd ib av u2) (e : u2 = u) : slQ8 bd ib av u := e ▸ hs

theorem pqQ8_s (h : ∀ v, psv8 l r v ↔ bS8 br bd ib v) (hb : br = 0) (hs : slQ8 bd ib av u) : pqQ8 l r av u := by
  have e : ∀ v, sol8 (bL8 bd ib) v ↔ psv8 l r v := fun v => by
    rw [h v]
    exact ⟨fun q => ⟨hb, q⟩, fun q => q.2⟩
  exact ⟨fun q => (hs.1 q).congr e, fun q ⟨v, hv⟩ => hs.2 q ⟨v, (e v).mpr hv⟩⟩
end PQ
/-- rows up to r1 have been looked at; x is the first one that is possible -/
def lkI8 (l : List sgT) (r1 : Nat) (x : Int32) : Prop := (x = -1 ∧ ∀ r, r < r1 → ¬ psb8 l r) ∨ ∃ r, r < r1 ∧ x = nI r ∧ psb8 l r ∧ ∀ r', r' < r → ¬ psb8 l r'
section LK
variable {l : List sgT} {r1 u rw : Nat} {x : Int32} {av : Nat → Int32}
theorem lkI8_0 : lkI8 l 0 (-1) := Or.inl ⟨rfl, fun r h => absurd h (Nat.not_lt_zero _)⟩
theorem lkI8.no (h : lkI8 l r1 x) (hx : x = -1) (hr : r1 ≤ 5001) : ∀ r, r < r1 → ¬ psb8 l r := by
  rcases h with ⟨_, h⟩ | ⟨r, h1, e, _⟩
  · exact h
  · exact absurd (e.symm.trans hx) (nIm1 (by omega))
theorem lkI8_y (h : lkI8 l r1 x) (hx : x = -1) (hr : r1 ≤ 5001) (hq : pqQ8 l r1 av u) (hu : ¬ u = 0) (hu1 : u ≤ 1) : lkI8 l (r1 + 1) (nI r1) := Or.inr ⟨r1, Nat.lt_succ_self _, rfl, ⟨_, (hq.1 (by omega)).1⟩, h.no hx hr⟩
theorem lkI8_n (h : lkI8 l r1 x) (hx : x = -1) (hr : r1 ≤ 5001) (hq : pqQ8 l r1 av u) (hu : u = 0) : lkI8 l (r1 + 1) (-1) := by
  refine Or.inl ⟨rfl, fun r hr2 => ?_⟩
  by_cases e9 : r = r1
  · subst e9; exact hq.2 hu
  · exact h.no hx hr r (by omega)
theorem lkI8.fin (h : lkI8 l r1 x) (e : rw = rwl8 l) (hr : r1 ≤ rw) (h5 : rw ≤ 5001) (h0 : hid (r1 = 0 ∨ rw < 5001)) (hc : ¬ r1 < rw ∨ ¬ rw < 5001 ∨ ¬ x = -1) : frq8 l x := by
  have h0' : r1 = 0 ∨ rw < 5001 := h0
  have h' := h
  rcases h with ⟨ex, h⟩ | ⟨r, h1, ex, h2, h3⟩
  · refine Or.inl ⟨ex, ?_⟩
    rcases hc with hc | hc | hc
    · rw [← e]
      rcases h0' with q | q
      · exact Or.inr (fun r hr2 => absurd hr2 (by omega))
      · exact Or.inr (fun r hr2 => h r (by omega))
    · exact Or.inl (by omega)
    · exact absurd ex hc
  · exact Or.inr ⟨r, by omega, by omega, ex, h2, h3⟩
end LK
/-- what look has found out of the formula l -/
def lkQ8 (l : List sgT) (rw fx : Int32) : Prop := rw = nI (rwl8 l) ∧ frq8 l fx
/-- what is known of the condition looked at last -/
def mlQ8 (lo rw fx : Int32) (cn : Nat) (ca cz : Nat → Nat) (kp : Nat → Int32) (sf wt wf : Nat → Nat) : Prop := ∀ j, j < cn → lo = nI j → lkQ8 (sgl kp (6 * ca j) (cz j)) rw fx ∧ rwQ8 (sgl kp (6 * ca j) (cz j)) (cz j) sf wt wf
/-- all formulas are small -/
def nbA8 (cn : Nat) (ca cz : Nat → Nat) (kp : Nat → Int32) : Prop := ∀ j, j < cn → nbl 21483 (sgl kp (6 * ca j) (cz j))
theorem mlQ8.new {lo rw fx : Int32} {cn : Nat} {ca cz : Nat → Nat} {kp : Nat → Int32} {sf wt wf : Nat → Nat} (h : lo = -1) (hc : cn ≤ 33) : mlQ8 lo rw fx cn ca cz kp sf wt wf := fun j hj e => absurd (e.symm.trans h) (nIm1 (by omega))
theorem mlQ8_of {rw fx : Int32} {j1 cn : Nat} {ca cz : Nat → Nat} {kp : Nat → Int32} {sf wt wf : Nat → Nat} (hj : j1 < cn) (hc : cn ≤ 33) (h1 : lkQ8 (sgl kp (6 * ca j1) (cz j1)) rw fx) (h2 : rwQ8 (sgl kp (6 * ca j1) (cz j1)) (cz j1) sf wt wf) : mlQ8 (nI j1) rw fx cn ca cz kp sf wt wf := fun j hj2 e => by
  have := (nI_eq (a := j1) (b := j) (by omega) (by omega)).mp e
  subst this; exact ⟨h1, h2⟩
/-- whether the formula is valid: 1, 0, or -1 -/
def vdQ8 (l : List sgT) (x : Int32) : Prop := (rwl8 l = 5001 ∧ x = -1) ∨ (¬ rwl8 l = 5001 ∧ frq8 l (-1) ∧ x = 1) ∨ (¬ rwl8 l = 5001 ∧ (∃ y, frq8 l y ∧ ¬ y = -1) ∧ x = 0)
theorem vdQ8.eq {l : List sgT} {x y : Int32} (h : vdQ8 l x) (h' : vdQ8 l y) : x = y := by
  rcases h with ⟨a, e⟩ | ⟨a, b, e⟩ | ⟨a, ⟨z, b, c⟩, e⟩
  · rcases h' with ⟨a', e'⟩ | ⟨a', b', e'⟩ | ⟨a', b', e'⟩
    · rw [e, e']
    · exact absurd a a'
    · exact absurd a a'
  · rcases h' with ⟨a', e'⟩ | ⟨a', b', e'⟩ | ⟨a', ⟨z', b', c'⟩, e'⟩
    · exact absurd a' a
    · rw [e, e']
    · exact absurd (b'.eq b) c'
  · rcases h' with ⟨a', e'⟩ | ⟨a', b', e'⟩ | ⟨a', b', e'⟩
    · exact absurd a' a
    · exact absurd (b.eq b') c
    · rw [e, e']
theorem nI_5001 {n : Nat} (h : n ≤ 5001) : nI n = 5001 ↔ n = 5001 := by
  rw [show (5001 : Int32) = nI 5001 from rfl]
  exact nI_eq (by omega) (by decide)
section VD
variable {l : List sgT} {a b : Int32}
theorem vd8_m (h : lkQ8 l a b) (c : a = 5001) : vdQ8 l (-1) := Or.inl ⟨(nI_5001 rwo_le).mp (h.1.symm.trans c), rfl⟩
theorem vd8_1 (h : lkQ8 l a b) (c : ¬ a = 5001) (d : b = -1) : vdQ8 l 1 := Or.inr (Or.inl ⟨fun q => c (h.1.trans ((nI_5001 rwo_le).mpr q)), by rw [← d]; exact h.2, rfl⟩)
theorem vd8_0 (h : lkQ8 l a b) (c : ¬ a = 5001) (d : ¬ b = -1) : vdQ8 l 0 := Or.inr (Or.inr ⟨fun q => c (h.1.trans ((nI_5001 rwo_le).mpr q)), ⟨b, h.2, d⟩, rfl⟩)
theorem vd8_r (h : lkQ8 l a b) (hv : vdQ8 l 0) : ∃ r, r < 5001 ∧ b = nI r := by
  rcases hv with ⟨_, e⟩ | ⟨_, _, e⟩ | ⟨h5, ⟨y, hy, hn⟩, _⟩
  · exact absurd e (by decide)
  · exact absurd e (by decide)
  · rcases h.2 with ⟨e, _⟩ | ⟨r, h1, _, e, _⟩
    · have h2 := hy.eq h.2
      rw [e] at h2
      exact absurd h2 hn
    · exact ⟨r, by have := rwo_le (o := olf l) (d := 2 * (l.length - 1)); unfold rwl8 at h1; omega, e⟩
end VD
