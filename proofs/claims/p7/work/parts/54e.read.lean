def kvo (k v : Nat) : Nat := if k = 260 then 0 else if k = 762 then 1 else if k = 760 then 2 else if k = 262 then 3 else if k = 261 then 4 else if k = 235 then 5 else v
/-- what a token stands for: a name, a number, a comparison -/
def kv (g : Nat → Nat) (n B : Nat) : Nat := kvo (tkK g n B) (tkV g n B 0)
/-- a term's name and number; an atom's sign -/
def trmV (K nx V : Nat → Nat) (gh b : Nat) : Nat × Int32 := if K b = 2 ∨ (gh = 1 ∧ K b = 3) then (if K (nx b) = 43 then (V b, nI (V (nx (nx b)))) else if K (nx b) = 45 then (V b, -nI (V (nx (nx b)))) else (V b, 0)) else if K b = 45 then (10, -nI (V (nx b))) else (10, nI (V b))
def atmV (K nx V : Nat → Nat) (gh b : Nat) : sgT := (V (trmG K nx gh b).2, trmV K nx V gh b, trmV K nx V gh (nx (trmG K nx gh b).2))
/-- what the stack gives out: its nots; all above a parenthesis; its ands (and ors) -/
def nts : List Nat → List sgT
  | [] => []
  | x :: l => if x = 1 then opS 1 :: nts l else []
def dpw : List Nat → Nat
  | [] => 0
  | x :: l => dpw l + (if x = 1 ∨ x = 9 then 1 else 0)
def up9 : List Nat → List sgT
  | [] => []
  | x :: l => if x = 9 then [] else opS x :: up9 l
def af9 : List Nat → List Nat
  | [] => []
  | x :: l => if x = 9 then l else af9 l
def tkO (p : Nat) : List Nat → List sgT
  | [] => []
  | x :: l => if x = 2 ∨ x = p then opS x :: tkO p l else []
def drO (p : Nat) : List Nat → List Nat
  | [] => []
  | x :: l => if x = 2 ∨ x = p then drO p l else x :: l
theorem nts_1 {l : List Nat} : nts (1 :: l) = opS 1 :: nts l := if_pos rfl
theorem nts_9 {l : List Nat} : nts (9 :: l) = [] := if_neg (by decide)
theorem nts_n {x : Nat} {l : List Nat} (h : ¬ x = 1) : nts (x :: l) = [] := if_neg h
theorem up9_o {x : Nat} {l : List Nat} (h : ¬ x = 9) : up9 (x :: l) = opS x :: up9 l := if_neg h
theorem up9_9 {l : List Nat} : up9 (9 :: l) = [] := if_pos rfl
theorem af9_o {x : Nat} {l : List Nat} (h : ¬ x = 9) : af9 (x :: l) = af9 l := if_neg h
theorem af9_9 {l : List Nat} : af9 (9 :: l) = l := if_pos rfl
theorem tkO_y {p x : Nat} {l : List Nat} (h : x = 2 ∨ x = p) : tkO p (x :: l) = opS x :: tkO p l := if_pos h
theorem tkO_n {p x : Nat} {l : List Nat} (h : ¬ (x = 2 ∨ x = p)) : tkO p (x :: l) = [] := if_neg h
theorem drO_y {p x : Nat} {l : List Nat} (h : x = 2 ∨ x = p) : drO p (x :: l) = drO p l := if_pos h
theorem drO_n {p x : Nat} {l : List Nat} (h : ¬ (x = 2 ∨ x = p)) : drO p (x :: l) = x :: l := if_neg h
theorem dpw_1 {l : List Nat} : dpw (1 :: l) = dpw l + 1 := rfl
theorem dpw_9 {l : List Nat} : dpw (9 :: l) = dpw l + 1 := rfl
theorem dpw_2 {l : List Nat} : dpw (2 :: l) = dpw l := rfl
theorem dpw_3 {l : List Nat} : dpw (3 :: l) = dpw l := rfl
theorem mem9_o {x : Nat} {l : List Nat} (h : ¬ x = 9) : 9 ∈ x :: l ↔ 9 ∈ l := ⟨fun q => (List.mem_cons.mp q).resolve_left (fun e => h e.symm), fun q => List.mem_cons_of_mem _ q⟩
/-- a condition, token by token: whether a part is wanted, where, what stands on the stack, what is given out, how many atoms there were -/
def rgF (K nx V : Nat → Nat) (gh : Nat) : Nat → Bool → Nat → List Nat → List sgT → Nat → Option (Nat × Nat × List sgT)
  | 0, _, _, _, _, _ => none
  | k + 1, true, b, st, ou, a => if K b = 33 ∨ K b = 40 then (if dpw st = 10 then some (1, b, []) else rgF K nx V gh k true (nx b) ((if K b = 33 then 1 else 9) :: st) ou a) else if a = 8 then some (1, b, []) else if (atmG K nx gh b).1 = 1 then some (1, (atmG K nx gh b).2, []) else rgF K nx V gh k false (atmG K nx gh b).2 (pnt st) (ou ++ [atmV K nx V gh b] ++ nts st) (a + 1)
  | k + 1, false, b, st, ou, a => if K b = 41 ∧ 9 ∈ st then rgF K nx V gh k false (nx b) (pnt (af9 st)) (ou ++ up9 st ++ nts (af9 st)) a else if K b = 38 then rgF K nx V gh k true (nx b) (2 :: drO 2 st) (ou ++ tkO 2 st) a else if K b = 124 then rgF K nx V gh k true (nx b) (3 :: drO 3 st) (ou ++ tkO 3 st) a else if 9 ∈ st then some (1, b, []) else some (0, b, ou ++ up9 st)
section RGF
variable {K nx V : Nat → Nat} {gh : Nat}
theorem rgF_t (k b : Nat) (st : List Nat) (ou : List sgT) (a : Nat) : rgF K nx V gh (k + 1) true b st ou a = (if K b = 33 ∨ K b = 40 then (if dpw st = 10 then some (1, b, []) else rgF K nx V gh k true (nx b) ((if K b = 33 then 1 else 9) :: st) ou a) else if a = 8 then some (1, b, []) else if (atmG K nx gh b).1 = 1 then some (1, (atmG K nx gh b).2, []) else rgF K nx V gh k false (atmG K nx gh b).2 (pnt st) (ou ++ [atmV K nx V gh b] ++ nts st) (a + 1)) := rfl
theorem rgF_f (k b : Nat) (st : List Nat) (ou : List sgT) (a : Nat) : rgF K nx V gh (k + 1) false b st ou a = (if K b = 41 ∧ 9 ∈ st then rgF K nx V gh k false (nx b) (pnt (af9 st)) (ou ++ up9 st ++ nts (af9 st)) a else if K b = 38 then rgF K nx V gh k true (nx b) (2 :: drO 2 st) (ou ++ tkO 2 st) a else if K b = 124 then rgF K nx V gh k true (nx b) (3 :: drO 3 st) (ou ++ tkO 3 st) a else if 9 ∈ st then some (1, b, []) else some (0, b, ou ++ up9 st)) := rfl
theorem rgF_up : ∀ (k : Nat) (w : Bool) (b : Nat) (st : List Nat) (ou : List sgT) (a : Nat) (r : Nat × Nat × List sgT), rgF K nx V gh k w b st ou a = some r → rgF K nx V gh (k + 1) w b st ou a = some r := by
  intro k
  induction k with
  | zero => intro w b st ou a r h; exact absurd (show (none : Option (Nat × Nat × List sgT)) = some r from h) (by simp)
  | succ k ih =>
    intro w b st ou a r h
    cases w with
    | true =>
      rw [rgF_t] at h ⊢
      by_cases c1 : K b = 33 ∨ K b = 40
      · rw [if_pos c1] at h ⊢
        by_cases c2 : dpw st = 10
        · rw [if_pos c2] at h ⊢; exact h
        · rw [if_neg c2] at h ⊢; exact ih _ _ _ _ _ _ h
      · rw [if_neg c1] at h ⊢
        by_cases c2 : a = 8
        · rw [if_pos c2] at h ⊢; exact h
        · rw [if_neg c2] at h ⊢
          by_cases c3 : (atmG K nx gh b).1 = 1
          · rw [if_pos c3] at h ⊢; exact h
          · rw [if_neg c3] at h ⊢; exact ih _ _ _ _ _ _ h
    | false =>
      rw [rgF_f] at h ⊢
      by_cases c1 : K b = 41 ∧ 9 ∈ st
      · rw [if_pos c1] at h ⊢; exact ih _ _ _ _ _ _ h
      · rw [if_neg c1] at h ⊢
        by_cases c2 : K b = 38
        · rw [if_pos c2] at h ⊢; exact ih _ _ _ _ _ _ h
        · rw [if_neg c2] at h ⊢
          by_cases c3 : K b = 124
          · rw [if_pos c3] at h ⊢; exact ih _ _ _ _ _ _ h
          · rw [if_neg c3] at h ⊢; exact h
theorem rgF_le {k j : Nat} {w : Bool} {b : Nat} {st : List Nat} {ou : List sgT} {a : Nat} {r : Nat × Nat × List sgT} (h : rgF K nx V gh k w b st ou a = some r) (hj : k ≤ j) : rgF K nx V gh j w b st ou a = some r := by
  obtain ⟨d, rfl⟩ : ∃ d, j = k + d := ⟨j - k, by omega⟩
  clear hj
  induction d with
  | zero => exact h
  | succ d ih => exact rgF_up _ _ _ _ _ _ _ ih
end RGF
/-- the condition is read so: 1 and the token that can't be there, or 0, the token behind it, and its signs -/
def rgR (K nx V : Nat → Nat) (gh : Nat) (w : Bool) (b : Nat) (st : List Nat) (ou : List sgT) (a : Nat) (r : Nat × Nat × List sgT) : Prop := ∃ k, rgF K nx V gh k w b st ou a = some r
section RGR
variable {K nx V : Nat → Nat} {gh b b1 a : Nat} {st : List Nat} {ou : List sgT} {w : Bool} {r r2 : Nat × Nat × List sgT}
theorem rgR.det (h : rgR K nx V gh w b st ou a r) (h2 : rgR K nx V gh w b st ou a r2) : r = r2 := by
  obtain ⟨k, h⟩ := h
  obtain ⟨j, h2⟩ := h2
  have e := (rgF_le h (Nat.le_max_left k j)).symm.trans (rgF_le h2 (Nat.le_max_right k j))
  exact Option.some.inj e
theorem rgR.nt (hk : K b = 33) (hl : dpw st ≠ 10) (h : rgR K nx V gh true (nx b) (1 :: st) ou a r) : rgR K nx V gh true b st ou a r := by
  obtain ⟨k, h⟩ := h
  exact ⟨k + 1, by rw [rgF_t, if_pos (Or.inl hk), if_neg hl, if_pos hk]; exact h⟩
theorem rgR.pa (hk : K b = 40) (hl : dpw st ≠ 10) (h : rgR K nx V gh true (nx b) (9 :: st) ou a r) : rgR K nx V gh true b st ou a r := by
  obtain ⟨k, h⟩ := h
  exact ⟨k + 1, by rw [rgF_t, if_pos (Or.inr hk), if_neg hl, if_neg (show ¬ K b = 33 by omega)]; exact h⟩
theorem rgR.dp (hk : K b = 33 ∨ K b = 40) (hl : dpw st = 10) : rgR K nx V gh true b st ou a (1, b, []) := ⟨1, by rw [rgF_t, if_pos hk, if_pos hl]⟩
theorem rgR.fl (hk : ¬ (K b = 33 ∨ K b = 40)) (ha : a = 8) : rgR K nx V gh true b st ou a (1, b, []) := ⟨1, by rw [rgF_t, if_neg hk, if_pos ha]⟩
theorem rgR.ab (hk : ¬ (K b = 33 ∨ K b = 40)) (ha : a ≠ 8) (h : atmG K nx gh b = (1, b1)) : rgR K nx V gh true b st ou a (1, b1, []) := ⟨1, by rw [rgF_t, if_neg hk, if_neg ha, h, if_pos rfl]⟩
theorem rgR.atm (hk : ¬ (K b = 33 ∨ K b = 40)) (ha : a ≠ 8) (h : atmG K nx gh b = (0, b1)) (hr : rgR K nx V gh false b1 (pnt st) (ou ++ [atmV K nx V gh b] ++ nts st) (a + 1) r) : rgR K nx V gh true b st ou a r := by
  obtain ⟨k, hr⟩ := hr
  exact ⟨k + 1, by rw [rgF_t, if_neg hk, if_neg ha, h, if_neg (show ¬ (0 : Nat) = 1 by decide)]; exact hr⟩
theorem rgR.cl (hk : K b = 41) (hm : 9 ∈ st) (h : rgR K nx V gh false (nx b) (pnt (af9 st)) (ou ++ up9 st ++ nts (af9 st)) a r) : rgR K nx V gh false b st ou a r := by
  obtain ⟨k, h⟩ := h
  exact ⟨k + 1, by rw [rgF_f, if_pos ⟨hk, hm⟩]; exact h⟩
theorem rgR.an (hk : K b = 38) (h : rgR K nx V gh true (nx b) (2 :: drO 2 st) (ou ++ tkO 2 st) a r) : rgR K nx V gh false b st ou a r := by
  obtain ⟨k, h⟩ := h
  exact ⟨k + 1, by rw [rgF_f, if_neg (fun q => by have := q.1; omega), if_pos hk]; exact h⟩
theorem rgR.or (hk : K b = 124) (h : rgR K nx V gh true (nx b) (3 :: drO 3 st) (ou ++ tkO 3 st) a r) : rgR K nx V gh false b st ou a r := by
  obtain ⟨k, h⟩ := h
  exact ⟨k + 1, by rw [rgF_f, if_neg (fun q => by have := q.1; omega), if_neg (by omega), if_pos hk]; exact h⟩
theorem rgR.ub (hk : ¬ (K b = 38 ∨ K b = 124)) (h1 : K b ≠ 41) (hm : 9 ∈ st) : rgR K nx V gh false b st ou a (1, b, []) := ⟨1, by rw [rgF_f, if_neg (fun q => h1 q.1), if_neg (by omega), if_neg (by omega), if_pos hm]⟩
theorem rgR.fin (hk : ¬ (K b = 38 ∨ K b = 124)) (hm : ¬ 9 ∈ st) : rgR K nx V gh false b st ou a (0, b, ou ++ up9 st) := ⟨1, by rw [rgF_f, if_neg (fun q => hm q.2), if_neg (by omega), if_neg (by omega), if_neg hm]⟩
/-- an operator on the stack that would be given out next, given out at once -/
theorem rgR.red {x : Nat} (hx : x = 2 ∨ (x = 3 ∧ K b ≠ 38)) (h : rgR K nx V gh false b st (ou ++ [opS x]) a r) : rgR K nx V gh false b (x :: st) ou a r := by
  obtain ⟨k, h⟩ := h
  have h9 : ¬ x = 9 := by omega
  cases k with
  | zero => exact absurd (show (none : Option (Nat × Nat × List sgT)) = some r from h) (by simp)
  | succ k =>
    refine ⟨k + 1, ?_⟩
    rw [rgF_f] at h ⊢
    have e : ∀ y : List sgT, ou ++ (opS x :: y) = ou ++ [opS x] ++ y := fun y => by rw [List.append_assoc]; rfl
    by_cases c1 : K b = 38
    · have h2 : x = 2 := by omega
      rw [if_neg (fun q => by have := q.1; omega), if_pos c1] at h ⊢
      rw [tkO_y (p := 2) (Or.inl h2), drO_y (p := 2) (Or.inl h2), e]
      exact h
    · by_cases c3 : K b = 41 ∧ 9 ∈ st
      · rw [if_pos c3] at h
        rw [if_pos ⟨c3.1, (mem9_o h9).mpr c3.2⟩, up9_o h9, af9_o h9, e]
        exact h
      · rw [if_neg c3, if_neg c1] at h
        rw [if_neg (fun q => c3 ⟨q.1, (mem9_o h9).mp q.2⟩), if_neg c1]
        by_cases c4 : K b = 124
        · rw [if_pos c4] at h ⊢
          rw [tkO_y (p := 3) (by omega), drO_y (p := 3) (by omega), e]
          exact h
        · rw [if_neg c4] at h ⊢
          by_cases c5 : 9 ∈ st
          · rw [if_pos c5] at h
            rw [if_pos ((mem9_o h9).mpr c5)]
            exact h
          · rw [if_neg c5] at h
            rw [if_neg (fun q => c5 ((mem9_o h9).mp q)), up9_o h9, e]
            exact h
end RGR
section SIMV
variable {K1 n1 V1 K2 n2 V2 ph : Nat → Nat} {gh cn : Nat}
def simV (K1 n1 V1 K2 n2 V2 ph : Nat → Nat) (cn : Nat) : Prop := (∀ i, i ≤ cn → K2 (ph i) = K1 i) ∧ (∀ i, i < cn → n2 (ph i) = ph (n1 i)) ∧ (∀ i, i < cn → n1 i ≤ cn) ∧ (∀ i, i ≤ cn → K1 i ≠ 0 → i < cn) ∧ (∀ i, i ≤ cn → (K1 i = 2 ∨ K1 i = 3 ∨ K1 i = 4 ∨ K1 i = 5) → V2 (ph i) = V1 i)
theorem trmV_sim (h : simV K1 n1 V1 K2 n2 V2 ph cn) {i : Nat} (hi : i ≤ cn) (hf : (trmG K1 n1 gh i).1 ≠ 1) : trmV K2 n2 V2 gh (ph i) = trmV K1 n1 V1 gh i := by
  obtain ⟨hK, hN, h1, h0, hV⟩ := h
  unfold trmG at hf
  unfold trmV
  rw [hK i hi]
  by_cases c1 : K1 i = 2 ∨ (gh = 1 ∧ K1 i = 3)
  · have l1 : i < cn := h0 i hi (by omega)
    have m1 := h1 i l1
    rw [if_pos c1] at hf
    rw [if_pos c1, if_pos c1, hN i l1, hK _ m1, hV i hi (by omega)]
    by_cases c2 : K1 (n1 i) = 43 ∨ K1 (n1 i) = 45
    · have l2 := h0 _ m1 (by omega)
      have m2 := h1 _ l2
      rw [if_pos c2] at hf
      by_cases c3 : K1 (n1 (n1 i)) = 4
      · rw [hN _ l2, hV _ m2 (by omega)]
      · rw [if_neg c3] at hf; exact absurd rfl hf
    · rw [if_neg (show ¬ K1 (n1 i) = 43 by omega), if_neg (show ¬ K1 (n1 i) = 43 by omega), if_neg (show ¬ K1 (n1 i) = 45 by omega), if_neg (show ¬ K1 (n1 i) = 45 by omega)]
  · rw [if_neg c1] at hf
    rw [if_neg c1, if_neg c1]
    by_cases c2 : K1 i = 45
    · have l1 : i < cn := h0 i hi (by omega)
      have m1 := h1 i l1
      rw [if_pos c2] at hf
      rw [if_pos c2, if_pos c2, hN i l1]
      by_cases c3 : K1 (n1 i) = 4
      · rw [hV _ m1 (by omega)]
      · rw [if_neg c3] at hf; exact absurd rfl hf
    · rw [if_neg c2] at hf
      rw [if_neg c2, if_neg c2]
      by_cases c3 : K1 i = 4
      · rw [hV i hi (by omega)]
      · rw [if_neg c3] at hf; exact absurd rfl hf
theorem atmV_sim (h : simV K1 n1 V1 K2 n2 V2 ph cn) {i : Nat} (hi : i ≤ cn) (hf : (atmG K1 n1 gh i).1 ≠ 1) : atmV K2 n2 V2 gh (ph i) = atmV K1 n1 V1 gh i := by
  have hh := h
  obtain ⟨hK, hN, h1, h0, hV⟩ := hh
  obtain ⟨t1, t2⟩ := trmG_sim (gh := gh) hK hN h1 h0 hi
  unfold atmG at hf
  unfold atmV
  rw [t2]
  by_cases c1 : (trmG K1 n1 gh i).1 = 1
  · rw [if_pos c1] at hf; exact absurd c1 hf
  · rw [if_neg c1] at hf
    by_cases c2 : K1 (trmG K1 n1 gh i).2 = 5
    · rw [if_pos c2] at hf
      have l1 := h0 _ t1 (by omega)
      rw [trmV_sim h hi c1]
      show (V2 (ph (trmG K1 n1 gh i).2), _, trmV K2 n2 V2 gh (n2 (ph (trmG K1 n1 gh i).2))) = _
      rw [hN _ l1, trmV_sim h (h1 _ l1) hf, hV _ t1 (by omega)]
    · rw [if_neg c2] at hf; exact absurd rfl hf
theorem rgF_sim (h : simV K1 n1 V1 K2 n2 V2 ph cn) : ∀ (k : Nat) (w : Bool) (i : Nat) (st : List Nat) (ou : List sgT) (a f j : Nat) (m : List sgT), i ≤ cn → rgF K1 n1 V1 gh k w i st ou a = some (f, j, m) → j ≤ cn ∧ rgF K2 n2 V2 gh k w (ph i) st ou a = some (f, ph j, m) := by
  have hh := h
  obtain ⟨hK, hN, h1, h0, hV⟩ := hh
  intro k
  induction k with
  | zero => intro w i st ou a f j m _ h; exact absurd (show (none : Option (Nat × Nat × List sgT)) = some (f, j, m) from h) (by simp)
  | succ k ih =>
    intro w i st ou a f j m hi hq
    cases w with
    | true =>
      rw [rgF_t] at hq ⊢
      rw [hK i hi]
      by_cases c1 : K1 i = 33 ∨ K1 i = 40
      · rw [if_pos c1] at hq ⊢
        by_cases c2 : dpw st = 10
        · rw [if_pos c2] at hq ⊢
          cases hq; exact ⟨hi, rfl⟩
        · rw [if_neg c2] at hq ⊢
          have l1 : i < cn := h0 i hi (by omega)
          rw [hN i l1]
          exact ih _ _ _ _ _ _ _ _ (h1 i l1) hq
      · rw [if_neg c1] at hq ⊢
        by_cases c2 : a = 8
        · rw [if_pos c2] at hq ⊢
          cases hq; exact ⟨hi, rfl⟩
        · rw [if_neg c2] at hq ⊢
          obtain ⟨t1, t2⟩ := atmG_sim (gh := gh) hK hN h1 h0 hi
          rw [t2]
          by_cases c3 : (atmG K1 n1 gh i).1 = 1
          · rw [if_pos c3] at hq ⊢
            cases hq; exact ⟨t1, rfl⟩
          · rw [atmV_sim h hi c3]
            rw [if_neg c3] at hq ⊢
            exact ih _ _ _ _ _ _ _ _ t1 hq
    | false =>
      rw [rgF_f] at hq ⊢
      rw [hK i hi]
      by_cases c1 : K1 i = 41 ∧ 9 ∈ st
      · rw [if_pos c1] at hq ⊢
        have l1 : i < cn := h0 i hi (by have := c1.1; omega)
        rw [hN i l1]
        exact ih _ _ _ _ _ _ _ _ (h1 i l1) hq
      · rw [if_neg c1] at hq ⊢
        by_cases c2 : K1 i = 38
        · rw [if_pos c2] at hq ⊢
          have l1 : i < cn := h0 i hi (by omega)
          rw [hN i l1]
          exact ih _ _ _ _ _ _ _ _ (h1 i l1) hq
        · rw [if_neg c2] at hq ⊢
          by_cases c4 : K1 i = 124
          · rw [if_pos c4] at hq ⊢
            have l1 : i < cn := h0 i hi (by omega)
            rw [hN i l1]
            exact ih _ _ _ _ _ _ _ _ (h1 i l1) hq
          · rw [if_neg c4] at hq ⊢
            by_cases c3 : 9 ∈ st
            · rw [if_pos c3] at hq ⊢
              cases hq; exact ⟨hi, rfl⟩
            · rw [if_neg c3] at hq ⊢
              cases hq; exact ⟨hi, rfl⟩
theorem rgR_sim (h : simV K1 n1 V1 K2 n2 V2 ph cn) {w : Bool} {i : Nat} {st : List Nat} {ou : List sgT} {a f j : Nat} {m : List sgT} (hi : i ≤ cn) (hq : rgR K1 n1 V1 gh w i st ou a (f, j, m)) : j ≤ cn ∧ rgR K2 n2 V2 gh w (ph i) st ou a (f, ph j, m) := by
  obtain ⟨k, hq⟩ := hq
  obtain ⟨q1, q2⟩ := rgF_sim h k w i st ou a f j m hi hq
  exact ⟨q1, k, q2⟩
end SIMV
