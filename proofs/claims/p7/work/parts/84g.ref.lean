section WCD
variable {w : Int32}
theorem wcd5_ : wcd w = 5 ↔ w = 3 := by
  unfold wcd
  by_cases c0 : w = 0
  · rw [if_pos c0, c0]; decide
  · rw [if_neg c0]
    by_cases c1 : w = 1
    · rw [if_pos c1, c1]; decide
    · rw [if_neg c1]
      by_cases c2 : w = 2
      · rw [if_pos c2, c2]; decide
      · rw [if_neg c2]
        by_cases c3 : w = 3
        · rw [if_pos c3]; exact ⟨fun _ => c3, fun _ => rfl⟩
        · rw [if_neg c3]
          by_cases c4 : w = 4
          · rw [if_pos c4]; exact ⟨fun q => absurd q (by decide), fun q => absurd q c3⟩
          · rw [if_neg c4]; exact ⟨fun q => absurd q (by decide), fun q => absurd q c3⟩
theorem wcd4_ : wcd w = 4 ↔ w = 2 := by
  unfold wcd
  by_cases c0 : w = 0
  · rw [if_pos c0, c0]; decide
  · rw [if_neg c0]
    by_cases c1 : w = 1
    · rw [if_pos c1, c1]; decide
    · rw [if_neg c1]
      by_cases c2 : w = 2
      · rw [if_pos c2]; exact ⟨fun _ => c2, fun _ => rfl⟩
      · rw [if_neg c2]
        by_cases c3 : w = 3
        · rw [if_pos c3]; exact ⟨fun q => absurd q (by decide), fun q => absurd q c2⟩
        · rw [if_neg c3]
          by_cases c4 : w = 4
          · rw [if_pos c4]; exact ⟨fun q => absurd q (by decide), fun q => absurd q c2⟩
          · rw [if_neg c4]; exact ⟨fun q => absurd q (by decide), fun q => absurd q c2⟩
end WCD
/-- sizes and rows of the first k signs -/
def rwQ8 (l : List sgT) (k : Nat) (sf wt wf : Nat → Nat) : Prop := ∀ j, j < k → sf j = szl l j ∧ wf j = rwo (olf l) (2 * j) ∧ wt j = rwo (olf l) (2 * j + 1)
section RWQ
variable {l : List sgT} {kp : Nat → Int32} {fr q k v x y P : Nat} {sf wt wf : Nat → Nat}
theorem rwQ8_0 : rwQ8 l 0 sf wt wf := fun j hj => absurd hj (Nat.not_lt_zero _)
theorem rwQ8.step (h : rwQ8 l k sf wt wf) (e1 : v = szl l k) (e2 : x = rwo (olf l) (2 * k + 1)) (e3 : y = rwo (olf l) (2 * k)) : rwQ8 l (k + 1) (sup sf k v) (sup wt k x) (sup wf k y) := by
  intro j hj
  by_cases e : j = k
  · subst e
    rw [sup_eq, sup_eq, sup_eq]
    exact ⟨e1, e3, e2⟩
  · rw [sup_ne e, sup_ne e, sup_ne e]
    exact h j (by omega)
theorem dm_0 (k : Nat) : 2 * k / 2 = k ∧ 2 * k % 2 = 0 := by omega
theorem dm_1 (k : Nat) : (2 * k + 1) / 2 = k ∧ (2 * k + 1) % 2 = 1 := by omega
theorem dm_t {k t : Nat} (h : t ≤ 1) : (2 * k + t) / 2 = k ∧ (2 * k + t) % 2 = t := by omega
theorem olf_sgl (hk : k < q) : olf (sgl kp (6 * fr) q) k = (dec kp (6 * fr + 6 * k)).1 := by
  show (ath (sgl kp (6 * fr) q) k).1 = _
  rw [ath_sgl q k hk]
theorem rwQ8_a (h : rwQ8 (sgl kp (6 * fr) q) k sf wt wf) (hk : k < q) (h0 : kp (6 * fr + 6 * k) = 0) (hx : x = if kp (6 * fr + 6 * k + 3) = 3 then 2 else 1) (hy : y = if kp (6 * fr + 6 * k + 3) = 2 then 2 else 1) : rwQ8 (sgl kp (6 * fr) q) (k + 1) (sup sf k 1) (sup wt k x) (sup wf k y) := by
  have eo := olf_sgl (kp := kp) (fr := fr) hk
  have e1 : (dec kp (6 * fr + 6 * k)).1 = wcd (kp (6 * fr + 6 * k + 3)) := congrArg Prod.fst (if_pos h0)
  have h6 : olf (sgl kp (6 * fr) q) k < 6 := by rw [eo]; exact dec_c0 h0
  refine h.step (szo_a h6).symm ?_ ?_
  · rw [rwo_a (by rw [(dm_1 k).1]; exact Or.inl h6), (dm_1 k).1, (dm_1 k).2, eo, e1, hx]
    by_cases c : kp (6 * fr + 6 * k + 3) = 3
    · rw [if_pos c, if_pos (wcd5_.mpr c)]
    · rw [if_neg c, if_neg (fun q => c (wcd5_.mp q))]
  · rw [rwo_a (by rw [(dm_0 k).1]; exact Or.inl h6), (dm_0 k).1, (dm_0 k).2, eo, e1, hy]
    by_cases c : kp (6 * fr + 6 * k + 3) = 2
    · rw [if_pos c, if_pos (wcd4_.mpr c)]
    · rw [if_neg c, if_neg (fun q => c (wcd4_.mp q))]
theorem rwQ8_n (h : rwQ8 (sgl kp (6 * fr) q) k sf wt wf) (hk : k < q) (h1 : kp (6 * fr + 6 * k) = 1) (hp : 1 ≤ k) (ev : v = sf (k - 1) + 1) (ex : x = wf (k - 1)) (ey : y = wt (k - 1)) : rwQ8 (sgl kp (6 * fr) q) (k + 1) (sup sf k v) (sup wt k x) (sup wf k y) := by
  have eo := olf_sgl (kp := kp) (fr := fr) hk
  have h6 : olf (sgl kp (6 * fr) q) k = 6 := by rw [eo]; exact dec_c1 h1
  obtain ⟨a1, a2, a3⟩ := h (k - 1) (by omega)
  refine h.step ?_ ?_ ?_
  · have e : szl (sgl kp (6 * fr) q) k = 1 + szl (sgl kp (6 * fr) q) (k - 1) := szo_n h6 hp
    rw [ev, e, a1]; exact Nat.add_comm _ _
  · rw [rwo_n (by rw [(dm_1 k).1]; exact h6) (by rw [(dm_1 k).1]; omega), ex, a2]
    congr 1
    unfold ntd
    omega
  · rw [rwo_n (by rw [(dm_0 k).1]; exact h6) (by rw [(dm_0 k).1]; omega), ey, a3]
    congr 1
    unfold ntd
    omega
theorem rwQ8_b (h : rwQ8 (sgl kp (6 * fr) q) k sf wt wf) (hk : k < q) (hp : 1 ≤ k) (h7 : 7 ≤ (dec kp (6 * fr + 6 * k)).1) (eP : P = k - 1 - sf (k - 1)) : sf P + sf (k - 1) + 1 = szl (sgl kp (6 * fr) q) k ∧ 7 ≤ olf (sgl kp (6 * fr) q) k ∧ (wf P = rwo (olf (sgl kp (6 * fr) q)) (lfd (olf (sgl kp (6 * fr) q)) (2 * k)) ∧ wt P = rwo (olf (sgl kp (6 * fr) q)) (lfd (olf (sgl kp (6 * fr) q)) (2 * k + 1))) ∧ wf (k - 1) = rwo (olf (sgl kp (6 * fr) q)) (rgd (2 * k)) ∧ wt (k - 1) = rwo (olf (sgl kp (6 * fr) q)) (rgd (2 * k + 1)) := by
  have eo := olf_sgl (kp := kp) (fr := fr) hk
  have h6 : 7 ≤ olf (sgl kp (6 * fr) q) k := by rw [eo]; exact h7
  obtain ⟨a1, a2, a3⟩ := h (k - 1) (by omega)
  obtain ⟨b1, b2, b3⟩ := h P (by omega)
  rw [a1] at eP
  have e : szl (sgl kp (6 * fr) q) k = 1 + szl (sgl kp (6 * fr) q) (k - 1) + szl (sgl kp (6 * fr) q) (k - 1 - szl (sgl kp (6 * fr) q) (k - 1)) := szo_b h6 hp
  refine ⟨?_, h6, ⟨?_, ?_⟩, ?_, ?_⟩
  · rw [e, a1, b1, eP]; omega
  · rw [b2, eP]
    congr 1
    show _ = 2 * (2 * k / 2 - 1 - szl (sgl kp (6 * fr) q) (2 * k / 2 - 1)) + 2 * k % 2
    rw [(dm_0 k).1, (dm_0 k).2]; rfl
  · rw [b3, eP]
    congr 1
    show _ = 2 * ((2 * k + 1) / 2 - 1 - szl (sgl kp (6 * fr) q) ((2 * k + 1) / 2 - 1)) + (2 * k + 1) % 2
    rw [(dm_1 k).1, (dm_1 k).2]
  · rw [a2]
    congr 1
    unfold rgd
    omega
  · rw [a3]
    congr 1
    unfold rgd
    omega
theorem rwQ8_and (h : rwQ8 (sgl kp (6 * fr) q) k sf wt wf) (hk : k < q) (hp : 1 ≤ k) (h2 : kp (6 * fr + 6 * k) = 2) (eP : P = k - 1 - sf (k - 1)) (ev : v = sf P + sf (k - 1) + 1) (ex : x = lm8 (wt P * wt (k - 1))) (ey : y = lm8 (wf P + wf (k - 1))) : rwQ8 (sgl kp (6 * fr) q) (k + 1) (sup sf k v) (sup wt k x) (sup wf k y) := by
  have eo := olf_sgl (kp := kp) (fr := fr) hk
  have e7 : (dec kp (6 * fr + 6 * k)).1 = 7 := dec_c2 h2
  obtain ⟨a1, a2, ⟨a3, a4⟩, a5, a6⟩ := rwQ8_b h hk hp (by omega) eP
  refine h.step (ev.trans a1) ?_ ?_
  · rw [ex, a4, a6]
    exact (rwo_y (d := 2 * k + 1) (by rw [(dm_1 k).1]; exact a2) (by rw [(dm_1 k).1]; omega) (by rw [(dm_1 k).1, (dm_1 k).2, eo, e7])).symm
  · rw [ey, a3, a5]
    exact (rwo_e (d := 2 * k) (by rw [(dm_0 k).1]; exact a2) (by rw [(dm_0 k).1]; omega) (by rw [(dm_0 k).1, (dm_0 k).2, eo, e7]; decide)).symm
theorem rwQ8_or (h : rwQ8 (sgl kp (6 * fr) q) k sf wt wf) (hk : k < q) (hp : 1 ≤ k) (h3 : kp (6 * fr + 6 * k) = 3) (eP : P = k - 1 - sf (k - 1)) (ev : v = sf P + sf (k - 1) + 1) (ex : x = lm8 (wt P + wt (k - 1))) (ey : y = lm8 (wf P * wf (k - 1))) : rwQ8 (sgl kp (6 * fr) q) (k + 1) (sup sf k v) (sup wt k x) (sup wf k y) := by
  have eo := olf_sgl (kp := kp) (fr := fr) hk
  have e7 : (dec kp (6 * fr + 6 * k)).1 = 8 := dec_c3 (by rw [h3]; decide) (by rw [h3]; decide) (by rw [h3]; decide)
  obtain ⟨a1, a2, ⟨a3, a4⟩, a5, a6⟩ := rwQ8_b h hk hp (by omega) eP
  refine h.step (ev.trans a1) ?_ ?_
  · rw [ex, a4, a6]
    exact (rwo_e (d := 2 * k + 1) (by rw [(dm_1 k).1]; exact a2) (by rw [(dm_1 k).1]; omega) (by rw [(dm_1 k).1, (dm_1 k).2, eo, e7]; decide)).symm
  · rw [ey, a3, a5]
    exact (rwo_y (d := 2 * k) (by rw [(dm_0 k).1]; exact a2) (by rw [(dm_0 k).1]; omega) (by rw [(dm_0 k).1, (dm_0 k).2, eo, e7])).symm
end RWQ
/-- how many of the first k signs are atoms -/
def atn8 (o : Nat → Nat) : Nat → Nat
  | 0 => 0
  | k + 1 => atn8 o k + (if o k < 6 then 1 else 0)
theorem atn8_le {o : Nat → Nat} : ∀ k, atn8 o k ≤ k
  | 0 => Nat.le_refl 0
  | k + 1 => by
    have := atn8_le (o := o) k
    show atn8 o k + (if o k < 6 then 1 else 0) ≤ k + 1
    split <;> omega
section ATN
variable {kp : Nat → Int32} {fr q k n : Nat}
theorem atn8_k (h : n = atn8 (olf (sgl kp (6 * fr) q)) k) (hk : k < q) (h0 : kp (6 * fr + 6 * k) = 0) : n + 1 = atn8 (olf (sgl kp (6 * fr) q)) (k + 1) := by
  show n + 1 = atn8 (olf (sgl kp (6 * fr) q)) k + (if olf (sgl kp (6 * fr) q) k < 6 then 1 else 0)
  rw [if_pos (by rw [olf_sgl hk]; exact dec_c0 h0), ← h]
theorem atn8_z (h : n = atn8 (olf (sgl kp (6 * fr) q)) k) (hk : k < q) (h0 : ¬ kp (6 * fr + 6 * k) = 0) : n = atn8 (olf (sgl kp (6 * fr) q)) (k + 1) := by
  show n = atn8 (olf (sgl kp (6 * fr) q)) k + (if olf (sgl kp (6 * fr) q) k < 6 then 1 else 0)
  have h6 : ¬ olf (sgl kp (6 * fr) q) k < 6 := by
    rw [olf_sgl hk]
    by_cases h1 : kp (6 * fr + 6 * k) = 1
    · rw [dec_c1 h1]; decide
    · have := dec_cb h0 h1
      omega
  rw [if_neg h6, ← h]; rfl
end ATN
/-- the reference's bounds: that of x and y stands at 11 * x + y -/
def bL8 (bd ib : Nat → Int32) : Nat → Nat → Int → Prop := fun x y m => x ≤ 10 ∧ y ≤ 10 ∧ ¬ ib (11 * x + y) = 0 ∧ (bd (11 * x + y)).toInt = m
def bdW8 (bd ib : Nat → Int32) : Prop := ∀ k, k ≤ 120 → ¬ ib k = 0 → -50000 ≤ (bd k).toInt ∧ (bd k).toInt ≤ 50000
/-- the numbers v keep all bounds -/
def bS8 (br : Nat) (bd ib : Nat → Int32) (v : Nat → Int) : Prop := br = 0 ∧ sol8 (bL8 bd ib) v
theorem bL8_10 {bd ib : Nat → Int32} : in10 (bL8 bd ib) := fun _ _ _ h => ⟨h.1, h.2.1⟩
section BL
variable {bd ib : Nat → Int32} {x y br b2 : Nat} {c : Int32} {v : Nat → Int}
/-- one bound more, at a point of its own -/
theorem bS8_xx (h1 : br = 0 ∧ ¬ c < 0 → b2 = 0) (h2 : ¬ (br = 0 ∧ ¬ c < 0) → ¬ b2 = 0) : bS8 b2 bd ib v ↔ (bS8 br bd ib v ∧ v x ≤ v x + c.toInt) := by
  have hc : ¬ c < 0 ↔ 0 ≤ c.toInt := by
    rw [Int32.lt_iff_toInt_lt, show (0 : Int32).toInt = 0 by decide]; omega
  unfold bS8
  by_cases q : br = 0 ∧ ¬ c < 0
  · have e := h1 q
    have := hc.mp q.2
    constructor
    · intro h; exact ⟨⟨q.1, h.2⟩, by omega⟩
    · intro h; exact ⟨e, h.1.2⟩
  · have e := h2 q
    constructor
    · intro h; exact absurd h.1 e
    · intro h
      exfalso
      exact q ⟨h.1.1, hc.mpr (by omega)⟩
/-- one bound more, of two points: where there is none, or a weaker one -/
theorem bS8_nw (hx : x ≤ 10) (hy : y ≤ 10) (h : ib (11 * x + y) = 0 ∨ ¬ bd (11 * x + y) < c) : bS8 br (upd bd (11 * x + y) c) (upd ib (11 * x + y) 1) v ↔ (bS8 br bd ib v ∧ v x ≤ v y + c.toInt) := by
  unfold bS8
  constructor
  · intro ⟨e, h0, h1⟩
    have hc : v x ≤ v y + c.toInt := h1 x y _ ⟨hx, hy, by rw [upd_eq]; decide, by rw [upd_eq]⟩
    refine ⟨⟨e, h0, fun x' y' m hm => ?_⟩, hc⟩
    obtain ⟨a1, a2, a3, a4⟩ := hm
    by_cases e9 : 11 * x' + y' = 11 * x + y
    · have ex : x' = x := by omega
      have ey : y' = y := by omega
      subst ex ey
      rcases h with h | h
      · exact absurd h a3
      · rw [Int32.lt_iff_toInt_lt] at h
        omega
    · exact h1 x' y' m ⟨a1, a2, by rw [upd_ne e9]; exact a3, by rw [upd_ne e9]; exact a4⟩
  · intro ⟨⟨e, h0, h1⟩, hc⟩
    refine ⟨e, h0, fun x' y' m hm => ?_⟩
    obtain ⟨a1, a2, a3, a4⟩ := hm
    by_cases e9 : 11 * x' + y' = 11 * x + y
    · have ex : x' = x := by omega
      have ey : y' = y := by omega
      subst ex ey
      rw [upd_eq] at a4
      omega
    · rw [upd_ne e9] at a3 a4
      exact h1 x' y' m ⟨a1, a2, a3, a4⟩
/-- where there is a stronger one -/
theorem bS8_od (hx : x ≤ 10) (hy : y ≤ 10) (h : ¬ ib (11 * x + y) = 0) (h2 : bd (11 * x + y) < c) : bS8 br (upd bd (11 * x + y) (bd (11 * x + y))) (upd ib (11 * x + y) 1) v ↔ (bS8 br bd ib v ∧ v x ≤ v y + c.toInt) := by
  have h3 : bS8 br (upd bd (11 * x + y) (bd (11 * x + y))) (upd ib (11 * x + y) 1) v ↔ (bS8 br bd ib v ∧ v x ≤ v y + (bd (11 * x + y)).toInt) := bS8_nw hx hy (Or.inr (fun q => by rw [Int32.lt_iff_toInt_lt] at q; omega))
  rw [Int32.lt_iff_toInt_lt] at h2
  rw [h3]
  constructor
  · intro ⟨a, b⟩; exact ⟨a, by omega⟩
  · intro ⟨a, b⟩
    exact ⟨a, a.2.2 x y _ ⟨hx, hy, h, rfl⟩⟩
theorem bdW8.up (h : bdW8 bd ib) {k : Nat} {w : Int32} (hc : -50000 ≤ c.toInt ∧ c.toInt ≤ 50000) : bdW8 (upd bd k c) (upd ib k w) := by
  intro j hj hn
  by_cases e : j = k
  · subst e
    rw [upd_eq]; exact hc
  · rw [upd_ne e] at hn ⊢
    exact h j hj hn
end BL
/-- the two halves of an atom's bounds, by the reference's code -/
def hA8 (w : Int32) (x y : Nat) (m : Int) (v : Nat → Int) : Prop := (w = 0 → v x ≤ v y + (m - 1)) ∧ (w = 1 → v x ≤ v y + m) ∧ (w = 2 → v x ≤ v y + m)
def hB8 (w : Int32) (x y : Nat) (m : Int) (v : Nat → Int) : Prop := (w = 5 → v y ≤ v x + (-m - 1)) ∧ (w = 4 → v y ≤ v x + -m) ∧ (w = 2 → v y ≤ v x + -m)
theorem at9_w {w : Int32} {x y : Nat} {m : Int} {v : Nat → Int} (hc : cok8 w) : atc9 (wcd w) x y m v ↔ (hA8 w x y m v ∧ hB8 w x y m v) := by
  unfold atc9 hA8 hB8
  rcases hc with rfl | rfl | rfl | rfl | rfl | rfl
  · rw [show wcd 0 = 0 from rfl]
    exact ⟨fun h => ⟨⟨fun _ => h.1 rfl, fun q => absurd q (by decide), fun q => absurd q (by decide)⟩, fun q => absurd q (by decide), fun q => absurd q (by decide), fun q => absurd q (by decide)⟩, fun h => ⟨fun _ => h.1.1 rfl, fun q => absurd q (by decide), fun q => absurd q (by decide), fun q => absurd q (by decide), fun q => absurd q (by decide)⟩⟩
  · rw [show wcd 1 = 2 from rfl]
    exact ⟨fun h => ⟨⟨fun q => absurd q (by decide), fun _ => h.2.1 rfl, fun q => absurd q (by decide)⟩, fun q => absurd q (by decide), fun q => absurd q (by decide), fun q => absurd q (by decide)⟩, fun h => ⟨fun q => absurd q (by decide), fun _ => h.1.2.1 rfl, fun q => absurd q (by decide), fun q => absurd q (by decide), fun q => absurd q (by decide)⟩⟩
  · rw [show wcd 2 = 4 from rfl]
    exact ⟨fun h => ⟨⟨fun q => absurd q (by decide), fun q => absurd q (by decide), fun _ => (h.2.2.2.2 rfl).1⟩, fun q => absurd q (by decide), fun q => absurd q (by decide), fun _ => (h.2.2.2.2 rfl).2⟩, fun h => ⟨fun q => absurd q (by decide), fun q => absurd q (by decide), fun q => absurd q (by decide), fun q => absurd q (by decide), fun _ => ⟨h.1.2.2 rfl, h.2.2.2 rfl⟩⟩⟩
  · rw [show wcd 3 = 5 from rfl]
    exact ⟨fun h => ⟨⟨fun q => absurd q (by decide), fun q => absurd q (by decide), fun q => absurd q (by decide)⟩, fun q => absurd q (by decide), fun q => absurd q (by decide), fun q => absurd q (by decide)⟩, fun h => ⟨fun q => absurd q (by decide), fun q => absurd q (by decide), fun q => absurd q (by decide), fun q => absurd q (by decide), fun q => absurd q (by decide)⟩⟩
  · rw [show wcd 4 = 1 from rfl]
    exact ⟨fun h => ⟨⟨fun q => absurd q (by decide), fun q => absurd q (by decide), fun q => absurd q (by decide)⟩, fun q => absurd q (by decide), fun _ => h.2.2.1 rfl, fun q => absurd q (by decide)⟩, fun h => ⟨fun q => absurd q (by decide), fun q => absurd q (by decide), fun _ => h.2.2.1 rfl, fun q => absurd q (by decide), fun q => absurd q (by decide)⟩⟩
  · rw [show wcd 5 = 3 from rfl]
    exact ⟨fun h => ⟨⟨fun q => absurd q (by decide), fun q => absurd q (by decide), fun q => absurd q (by decide)⟩, fun _ => h.2.2.2.1 rfl, fun q => absurd q (by decide), fun q => absurd q (by decide)⟩, fun h => ⟨fun q => absurd q (by decide), fun q => absurd q (by decide), fun q => absurd q (by decide), fun _ => h.2.1 rfl, fun q => absurd q (by decide)⟩⟩
/-- the comparison turned, then chosen by the row -/
theorem ng_w {w y : Int32} (hc : cok8 w) (h : y = if w = 0 then 4 else if w = 4 then 0 else if w = 1 then 5 else if w = 5 then 1 else if w = 2 then 3 else 2) : cok8 y ∧ wcd y = ng8 (wcd w) := by
  unfold cok8
  rcases hc with rfl | rfl | rfl | rfl | rfl | rfl <;> subst h <;> decide
def cw8 (w : Int32) (t : Nat) (y : Int32) : Prop := cok8 y ∧ wcd y = if t = 1 then wcd w else ng8 (wcd w)
theorem cw8_cd {w y y5 : Int32} {t r : Nat} (h : cw8 w t y) (h5 : (y = 3 ∧ r = 0 ∧ y5 = 0) ∨ (y = 3 ∧ ¬ r = 0 ∧ y5 = 5) ∨ (¬ y = 3 ∧ y5 = y)) : cok8 y5 ∧ wcd y5 = cd8 (wcd w) t r := by
  obtain ⟨h1, h2⟩ := h
  unfold cd8
  rw [← h2]
  rcases h5 with ⟨a, b, rfl⟩ | ⟨a, b, rfl⟩ | ⟨a, rfl⟩
  · rw [if_pos (wcd5_.mpr a), if_pos b]
    exact ⟨Or.inl rfl, rfl⟩
  · rw [if_pos (wcd5_.mpr a), if_neg b]
    exact ⟨Or.inr (Or.inr (Or.inr (Or.inr (Or.inr rfl)))), rfl⟩
  · rw [if_neg (fun q => a (wcd5_.mp q))]
    exact ⟨h1, rfl⟩
