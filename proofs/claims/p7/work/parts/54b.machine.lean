/-- a token's sort, by its kind and its value -/
def cso (k v : Nat) : Nat := if k = 2 then (if v < 6 then 2 else 3) else if k = 3 then 4 else if k = 260 ∨ k = 760 ∨ k = 261 ∨ k = 235 ∨ k = 762 ∨ k = 262 then 5 else if k = 758 then 6 else if 10 ≤ k ∧ k ≤ 20 then k - 3 else if 232 ≤ k ∧ k < 328 then k - 200 else if k ≤ 1 then k else 1000 + k
theorem cso_v {k v w : Nat} (h : k ≠ 2) : cso k v = cso k w := by
  unfold cso
  rw [if_neg h, if_neg h]
theorem cso_nm {k v gh : Nat} : (cso k v = 2 ∨ (gh = 1 ∧ cso k v = 3)) ↔ (k = 2 ∧ (v < 6 ∨ gh = 1)) := by
  unfold cso
  (repeat' split) <;> omega
theorem cso_num {k v : Nat} : cso k v = 4 ↔ k = 3 := by
  unfold cso
  (repeat' split) <;> omega
theorem cso_cmp {k v : Nat} : cso k v = 5 ↔ (k = 260 ∨ k = 760 ∨ k = 261 ∨ k = 235 ∨ k = 762 ∨ k = 262) := by
  unfold cso
  (repeat' split) <;> omega
theorem cso_end {k v : Nat} : cso k v = 0 ↔ k = 0 := by
  unfold cso
  (repeat' split) <;> omega
/-- the signs that are no comparisons -/
theorem cso_sg {k v s : Nat} (h1 : 36 ≤ s ∨ s = 33) (h2 : s < 60 ∨ 62 < s) (h3 : s < 128) : cso k v = s ↔ k = 200 + s := by
  unfold cso
  (repeat' split) <;> omega
/-- words: skip is 7, and so on -/
theorem cso_wd {k v s : Nat} (h1 : 7 ≤ s) (h2 : s ≤ 17) : cso k v = s ↔ k = s + 3 := by
  unfold cso
  (repeat' split) <;> omega
theorem cso_bec {k v : Nat} : cso k v = 6 ↔ k = 758 := by
  unfold cso
  (repeat' split) <;> omega
def kd (g : Nat → Nat) (n B : Nat) : Nat := cso (tkK g n B) (tkV g n B 0)
def nxt (g : Nat → Nat) (n B : Nat) : Nat := nxB g n (tkE g n B)
theorem tkq.sort {g : Nat → Nat} {n b en k v : Nat} (h : tkq g n b en k v) : kd g n b = cso k v := by
  obtain ⟨_, h2, _, h4⟩ := h
  unfold kd
  rw [← h2]
  by_cases e : k = 2
  · rw [h4.resolve_left (fun q => q (Or.inl e))]
  · exact cso_v e
theorem tkq.nx {g : Nat → Nat} {n b en k v b1 : Nat} (h : tkq g n b en k v) (hb : b1 = nxB g n en) : nxt g n b = b1 := by
  unfold nxt
  rw [← h.1, hb]
/-- a term: whether it fails, and where it ends or fails -/
def trmG (K nx : Nat → Nat) (gh b : Nat) : Nat × Nat := if K b = 2 ∨ (gh = 1 ∧ K b = 3) then (if K (nx b) = 43 ∨ K (nx b) = 45 then (if K (nx (nx b)) = 4 then (0, nx (nx (nx b))) else (1, nx (nx b))) else (0, nx b)) else if K b = 45 then (if K (nx b) = 4 then (0, nx (nx b)) else (1, nx b)) else if K b = 4 then (0, nx b) else (1, b)
def atmG (K nx : Nat → Nat) (gh b : Nat) : Nat × Nat := if (trmG K nx gh b).1 = 1 then trmG K nx gh b else if K (trmG K nx gh b).2 = 5 then trmG K nx gh (nx (trmG K nx gh b).2) else (1, (trmG K nx gh b).2)
def pnt : List Nat → List Nat
  | [] => []
  | x :: l => if x = 1 then pnt l else x :: l
theorem pnt_1 {l : List Nat} : pnt (1 :: l) = pnt l := if_pos rfl
theorem pnt_9 {l : List Nat} : pnt (9 :: l) = 9 :: l := if_neg (by decide)
theorem pnt_id {l : List Nat} (h : l.head? ≠ some 1) : pnt l = l := by
  cases l with
  | nil => rfl
  | cons x l => exact if_neg (fun e => h (by rw [e]; rfl))
/-- a condition, token by token: whether a part is wanted, where, what is open, how many atoms there were -/
def rdF (K nx : Nat → Nat) (gh : Nat) : Nat → Bool → Nat → List Nat → Nat → Option (Nat × Nat)
  | 0, _, _, _, _ => none
  | k + 1, true, b, sg, a => if K b = 33 ∨ K b = 40 then (if sg.length = 10 then some (1, b) else rdF K nx gh k true (nx b) ((if K b = 33 then 1 else 9) :: sg) a) else if a = 8 then some (1, b) else if (atmG K nx gh b).1 = 1 then some (1, (atmG K nx gh b).2) else rdF K nx gh k false (atmG K nx gh b).2 (pnt sg) (a + 1)
  | k + 1, false, b, sg, a => if K b = 41 ∧ 9 ∈ sg then rdF K nx gh k false (nx b) (pnt sg.tail) a else if K b = 38 ∨ K b = 124 then rdF K nx gh k true (nx b) sg a else if 9 ∈ sg then some (1, b) else some (0, b)
section RDF
variable {K nx : Nat → Nat} {gh : Nat}
theorem rdF_t (k b : Nat) (sg : List Nat) (a : Nat) : rdF K nx gh (k + 1) true b sg a = (if K b = 33 ∨ K b = 40 then (if sg.length = 10 then some (1, b) else rdF K nx gh k true (nx b) ((if K b = 33 then 1 else 9) :: sg) a) else if a = 8 then some (1, b) else if (atmG K nx gh b).1 = 1 then some (1, (atmG K nx gh b).2) else rdF K nx gh k false (atmG K nx gh b).2 (pnt sg) (a + 1)) := rfl
theorem rdF_f (k b : Nat) (sg : List Nat) (a : Nat) : rdF K nx gh (k + 1) false b sg a = (if K b = 41 ∧ 9 ∈ sg then rdF K nx gh k false (nx b) (pnt sg.tail) a else if K b = 38 ∨ K b = 124 then rdF K nx gh k true (nx b) sg a else if 9 ∈ sg then some (1, b) else some (0, b)) := rfl
theorem rdF_up : ∀ (k : Nat) (w : Bool) (b : Nat) (sg : List Nat) (a : Nat) (r : Nat × Nat), rdF K nx gh k w b sg a = some r → rdF K nx gh (k + 1) w b sg a = some r := by
  intro k
  induction k with
  | zero => intro w b sg a r h; exact absurd (show (none : Option (Nat × Nat)) = some r from h) (by simp)
  | succ k ih =>
    intro w b sg a r h
    cases w with
    | true =>
      rw [rdF_t] at h ⊢
      by_cases c1 : K b = 33 ∨ K b = 40
      · rw [if_pos c1] at h ⊢
        by_cases c2 : sg.length = 10
        · rw [if_pos c2] at h ⊢; exact h
        · rw [if_neg c2] at h ⊢; exact ih _ _ _ _ _ h
      · rw [if_neg c1] at h ⊢
        by_cases c2 : a = 8
        · rw [if_pos c2] at h ⊢; exact h
        · rw [if_neg c2] at h ⊢
          by_cases c3 : (atmG K nx gh b).1 = 1
          · rw [if_pos c3] at h ⊢; exact h
          · rw [if_neg c3] at h ⊢; exact ih _ _ _ _ _ h
    | false =>
      rw [rdF_f] at h ⊢
      by_cases c1 : K b = 41 ∧ 9 ∈ sg
      · rw [if_pos c1] at h ⊢; exact ih _ _ _ _ _ h
      · rw [if_neg c1] at h ⊢
        by_cases c2 : K b = 38 ∨ K b = 124
        · rw [if_pos c2] at h ⊢; exact ih _ _ _ _ _ h
        · rw [if_neg c2] at h ⊢; exact h
theorem rdF_le {k j : Nat} {w : Bool} {b : Nat} {sg : List Nat} {a : Nat} {r : Nat × Nat} (h : rdF K nx gh k w b sg a = some r) (hj : k ≤ j) : rdF K nx gh j w b sg a = some r := by
  obtain ⟨d, rfl⟩ : ∃ d, j = k + d := ⟨j - k, by omega⟩
  clear hj
  induction d with
  | zero => exact h
  | succ d ih => exact rdF_up _ _ _ _ _ _ ih
end RDF
/-- the condition is read so: 1 and the token that can't be there, or 0 and the token behind it -/
def rdR (K nx : Nat → Nat) (gh : Nat) (w : Bool) (b : Nat) (sg : List Nat) (a : Nat) (r : Nat × Nat) : Prop := ∃ k, rdF K nx gh k w b sg a = some r
section RDR
variable {K nx : Nat → Nat} {gh b b1 a : Nat} {sg : List Nat} {w : Bool} {r r2 : Nat × Nat}
theorem rdR.det (h : rdR K nx gh w b sg a r) (h2 : rdR K nx gh w b sg a r2) : r = r2 := by
  obtain ⟨k, h⟩ := h
  obtain ⟨j, h2⟩ := h2
  have e := (rdF_le h (Nat.le_max_left k j)).symm.trans (rdF_le h2 (Nat.le_max_right k j))
  exact Option.some.inj e
theorem rdR.nt (hk : K b = 33) (hl : sg.length ≠ 10) (h : rdR K nx gh true (nx b) (1 :: sg) a r) : rdR K nx gh true b sg a r := by
  obtain ⟨k, h⟩ := h
  exact ⟨k + 1, by rw [rdF_t, if_pos (Or.inl hk), if_neg hl, if_pos hk]; exact h⟩
theorem rdR.pa (hk : K b = 40) (hl : sg.length ≠ 10) (h : rdR K nx gh true (nx b) (9 :: sg) a r) : rdR K nx gh true b sg a r := by
  obtain ⟨k, h⟩ := h
  exact ⟨k + 1, by rw [rdF_t, if_pos (Or.inr hk), if_neg hl, if_neg (show ¬ K b = 33 by omega)]; exact h⟩
theorem rdR.dp (hk : K b = 33 ∨ K b = 40) (hl : sg.length = 10) : rdR K nx gh true b sg a (1, b) := ⟨1, by rw [rdF_t, if_pos hk, if_pos hl]⟩
theorem rdR.fl (hk : ¬ (K b = 33 ∨ K b = 40)) (ha : a = 8) : rdR K nx gh true b sg a (1, b) := ⟨1, by rw [rdF_t, if_neg hk, if_pos ha]⟩
theorem rdR.ab (hk : ¬ (K b = 33 ∨ K b = 40)) (ha : a ≠ 8) (h : atmG K nx gh b = (1, b1)) : rdR K nx gh true b sg a (1, b1) := ⟨1, by rw [rdF_t, if_neg hk, if_neg ha, h, if_pos rfl]⟩
theorem rdR.atm (hk : ¬ (K b = 33 ∨ K b = 40)) (ha : a ≠ 8) (h : atmG K nx gh b = (0, b1)) (hr : rdR K nx gh false b1 (pnt sg) (a + 1) r) : rdR K nx gh true b sg a r := by
  obtain ⟨k, hr⟩ := hr
  exact ⟨k + 1, by rw [rdF_t, if_neg hk, if_neg ha, h, if_neg (show ¬ (0 : Nat) = 1 by decide)]; exact hr⟩
theorem rdR.cl (hk : K b = 41) (hm : 9 ∈ sg) (h : rdR K nx gh false (nx b) (pnt sg.tail) a r) : rdR K nx gh false b sg a r := by
  obtain ⟨k, h⟩ := h
  exact ⟨k + 1, by rw [rdF_f, if_pos ⟨hk, hm⟩]; exact h⟩
theorem rdR.op (hk : K b = 38 ∨ K b = 124) (h : rdR K nx gh true (nx b) sg a r) : rdR K nx gh false b sg a r := by
  obtain ⟨k, h⟩ := h
  exact ⟨k + 1, by rw [rdF_f, if_neg (fun q => by have := q.1; omega), if_pos hk]; exact h⟩
theorem rdR.ub (hk : ¬ (K b = 38 ∨ K b = 124)) (h1 : K b ≠ 41) (hm : 9 ∈ sg) : rdR K nx gh false b sg a (1, b) := ⟨1, by rw [rdF_f, if_neg (fun q => h1 q.1), if_neg hk, if_pos hm]⟩
theorem rdR.fin (hk : ¬ (K b = 38 ∨ K b = 124)) (hm : ¬ 9 ∈ sg) : rdR K nx gh false b sg a (0, b) := ⟨1, by rw [rdF_f, if_neg (fun q => hm q.2), if_neg hk, if_neg hm]⟩
theorem atm_a {f : Nat} (h : trmG K nx gh b = (f, b1)) (hf : f = 1) : atmG K nx gh b = (1, b1) := by
  subst hf
  unfold atmG
  rw [h, if_pos rfl]
theorem atm_b {f : Nat} (h : trmG K nx gh b = (f, b1)) (hf : f = 0) (hk : K b1 ≠ 5) : atmG K nx gh b = (1, b1) := by
  subst hf
  unfold atmG
  rw [h, if_neg (show ¬ (0 : Nat) = 1 by decide), if_neg hk]
theorem atm_c {f f2 f3 b3 : Nat} (h : trmG K nx gh b = (f, b1)) (hf : f = 0) (hk : K b1 = 5) (h2 : trmG K nx gh (nx b1) = (f2, b3)) (hf2 : f2 = f3) : atmG K nx gh b = (f3, b3) := by
  subst hf
  unfold atmG
  rw [h, if_neg (show ¬ (0 : Nat) = 1 by decide), if_pos hk, h2, hf2]
end RDR
section SIM
variable {K1 n1 K2 n2 ph : Nat → Nat} {gh cn : Nat}
theorem trmG_sim (hK : ∀ i, i ≤ cn → K2 (ph i) = K1 i) (hN : ∀ i, i < cn → n2 (ph i) = ph (n1 i)) (h1 : ∀ i, i < cn → n1 i ≤ cn) (h0 : ∀ i, i ≤ cn → K1 i ≠ 0 → i < cn) {i : Nat} (hi : i ≤ cn) :
    (trmG K1 n1 gh i).2 ≤ cn ∧ trmG K2 n2 gh (ph i) = ((trmG K1 n1 gh i).1, ph (trmG K1 n1 gh i).2) := by
  unfold trmG
  rw [hK i hi]
  by_cases c1 : K1 i = 2 ∨ (gh = 1 ∧ K1 i = 3)
  · have l1 : i < cn := h0 i hi (by omega)
    have m1 := h1 i l1
    rw [if_pos c1, if_pos c1, hN i l1, hK _ m1]
    by_cases c2 : K1 (n1 i) = 43 ∨ K1 (n1 i) = 45
    · have l2 := h0 _ m1 (by omega)
      have m2 := h1 _ l2
      rw [if_pos c2, if_pos c2, hN _ l2, hK _ m2]
      by_cases c3 : K1 (n1 (n1 i)) = 4
      · have l3 := h0 _ m2 (by omega)
        rw [if_pos c3, if_pos c3, hN _ l3]; exact ⟨h1 _ l3, rfl⟩
      · rw [if_neg c3, if_neg c3]; exact ⟨m2, rfl⟩
    · rw [if_neg c2, if_neg c2]; exact ⟨m1, rfl⟩
  · rw [if_neg c1, if_neg c1]
    by_cases c2 : K1 i = 45
    · have l1 : i < cn := h0 i hi (by omega)
      have m1 := h1 i l1
      rw [if_pos c2, if_pos c2, hN i l1, hK _ m1]
      by_cases c3 : K1 (n1 i) = 4
      · have l2 := h0 _ m1 (by omega)
        rw [if_pos c3, if_pos c3, hN _ l2]; exact ⟨h1 _ l2, rfl⟩
      · rw [if_neg c3, if_neg c3]; exact ⟨m1, rfl⟩
    · rw [if_neg c2, if_neg c2]
      by_cases c3 : K1 i = 4
      · have l1 : i < cn := h0 i hi (by omega)
        rw [if_pos c3, if_pos c3, hN i l1]; exact ⟨h1 i l1, rfl⟩
      · rw [if_neg c3, if_neg c3]; exact ⟨hi, rfl⟩
theorem atmG_sim (hK : ∀ i, i ≤ cn → K2 (ph i) = K1 i) (hN : ∀ i, i < cn → n2 (ph i) = ph (n1 i)) (h1 : ∀ i, i < cn → n1 i ≤ cn) (h0 : ∀ i, i ≤ cn → K1 i ≠ 0 → i < cn) {i : Nat} (hi : i ≤ cn) :
    (atmG K1 n1 gh i).2 ≤ cn ∧ atmG K2 n2 gh (ph i) = ((atmG K1 n1 gh i).1, ph (atmG K1 n1 gh i).2) := by
  obtain ⟨t1, t2⟩ := trmG_sim (gh := gh) hK hN h1 h0 hi
  unfold atmG
  rw [t2]
  generalize trmG K1 n1 gh i = q at *
  obtain ⟨f, j⟩ := q
  by_cases c1 : f = 1
  · subst c1
    rw [if_pos rfl, if_pos rfl]; exact ⟨t1, rfl⟩
  · rw [if_neg c1, if_neg c1]
    show _ ∧ (if K2 (ph j) = 5 then _ else _) = _
    rw [hK j t1]
    by_cases c2 : K1 j = 5
    · have l1 : j < cn := h0 j t1 (by omega)
      rw [if_pos c2, if_pos c2]
      show _ ∧ trmG K2 n2 gh (n2 (ph j)) = _
      rw [hN j l1]
      exact trmG_sim hK hN h1 h0 (h1 j l1)
    · rw [if_neg c2, if_neg c2]; exact ⟨t1, rfl⟩
theorem rdF_sim (hK : ∀ i, i ≤ cn → K2 (ph i) = K1 i) (hN : ∀ i, i < cn → n2 (ph i) = ph (n1 i)) (h1 : ∀ i, i < cn → n1 i ≤ cn) (h0 : ∀ i, i ≤ cn → K1 i ≠ 0 → i < cn) : ∀ (k : Nat) (w : Bool) (i : Nat) (sg : List Nat) (a f j : Nat), i ≤ cn → rdF K1 n1 gh k w i sg a = some (f, j) → j ≤ cn ∧ rdF K2 n2 gh k w (ph i) sg a = some (f, ph j) := by
  intro k
  induction k with
  | zero => intro w i sg a f j _ h; exact absurd (show (none : Option (Nat × Nat)) = some (f, j) from h) (by simp)
  | succ k ih =>
    intro w i sg a f j hi h
    cases w with
    | true =>
      rw [rdF_t] at h ⊢
      rw [hK i hi]
      by_cases c1 : K1 i = 33 ∨ K1 i = 40
      · rw [if_pos c1] at h ⊢
        by_cases c2 : sg.length = 10
        · rw [if_pos c2] at h ⊢
          cases h; exact ⟨hi, rfl⟩
        · rw [if_neg c2] at h ⊢
          have l1 : i < cn := h0 i hi (by omega)
          rw [hN i l1]
          exact ih _ _ _ _ _ _ (h1 i l1) h
      · rw [if_neg c1] at h ⊢
        by_cases c2 : a = 8
        · rw [if_pos c2] at h ⊢
          cases h; exact ⟨hi, rfl⟩
        · rw [if_neg c2] at h ⊢
          obtain ⟨t1, t2⟩ := atmG_sim (gh := gh) hK hN h1 h0 hi
          rw [t2]
          by_cases c3 : (atmG K1 n1 gh i).1 = 1
          · rw [if_pos c3] at h ⊢
            cases h; exact ⟨t1, rfl⟩
          · rw [if_neg c3] at h ⊢
            exact ih _ _ _ _ _ _ t1 h
    | false =>
      rw [rdF_f] at h ⊢
      rw [hK i hi]
      by_cases c1 : K1 i = 41 ∧ 9 ∈ sg
      · rw [if_pos c1] at h ⊢
        have l1 : i < cn := h0 i hi (by have := c1.1; omega)
        rw [hN i l1]
        exact ih _ _ _ _ _ _ (h1 i l1) h
      · rw [if_neg c1] at h ⊢
        by_cases c2 : K1 i = 38 ∨ K1 i = 124
        · rw [if_pos c2] at h ⊢
          have l1 : i < cn := h0 i hi (by omega)
          rw [hN i l1]
          exact ih _ _ _ _ _ _ (h1 i l1) h
        · rw [if_neg c2] at h ⊢
          by_cases c3 : 9 ∈ sg
          · rw [if_pos c3] at h ⊢
            cases h; exact ⟨hi, rfl⟩
          · rw [if_neg c3] at h ⊢
            cases h; exact ⟨hi, rfl⟩
theorem rdR_sim (hK : ∀ i, i ≤ cn → K2 (ph i) = K1 i) (hN : ∀ i, i < cn → n2 (ph i) = ph (n1 i)) (h1 : ∀ i, i < cn → n1 i ≤ cn) (h0 : ∀ i, i ≤ cn → K1 i ≠ 0 → i < cn) {w : Bool} {i : Nat} {sg : List Nat} {a f j : Nat} (hi : i ≤ cn) (h : rdR K1 n1 gh w i sg a (f, j)) : j ≤ cn ∧ rdR K2 n2 gh w (ph i) sg a (f, ph j) := by
  obtain ⟨k, h⟩ := h
  obtain ⟨q1, q2⟩ := rdF_sim hK hN h1 h0 k w i sg a f j hi h
  exact ⟨q1, k, q2⟩
end SIM
section TRM
variable {g : Nat → Nat} {n gh b en k v b1 e1 k1 v1 b2 e2 k2 v2 b3 : Nat}
theorem trm_a (h : tkq g n b en k v) (hk : k = 2 ∧ (v < 6 ∨ gh = 1)) (h1 : tkq g n b1 e1 k1 v1) (hb : b1 = nxB g n en) (hn : ¬ (k1 = 243 ∨ k1 = 245)) : trmG (kd g n) (nxt g n) gh b = (0, b1) := by
  unfold trmG
  rw [h.sort, if_pos (cso_nm.mpr hk), h.nx hb, h1.sort, if_neg (fun q => hn (q.imp (cso_sg (by decide) (by decide) (by decide)).mp (cso_sg (by decide) (by decide) (by decide)).mp))]
theorem trm_b (h : tkq g n b en k v) (hk : k = 2 ∧ (v < 6 ∨ gh = 1)) (h1 : tkq g n b1 e1 k1 v1) (hb : b1 = nxB g n en) (hn : k1 = 243 ∨ k1 = 245) (h2 : tkq g n b2 e2 k2 v2) (hb2 : b2 = nxB g n e1) (h3 : k2 = 3) (hb3 : b3 = nxB g n e2) : trmG (kd g n) (nxt g n) gh b = (0, b3) := by
  unfold trmG
  rw [h.sort, if_pos (cso_nm.mpr hk), h.nx hb, h1.sort, if_pos (hn.imp (cso_sg (by decide) (by decide) (by decide)).mpr (cso_sg (by decide) (by decide) (by decide)).mpr), h1.nx hb2, h2.sort, if_pos (cso_num.mpr h3), h2.nx hb3]
theorem trm_c (h : tkq g n b en k v) (hk : k = 2 ∧ (v < 6 ∨ gh = 1)) (h1 : tkq g n b1 e1 k1 v1) (hb : b1 = nxB g n en) (hn : k1 = 243 ∨ k1 = 245) (h2 : tkq g n b2 e2 k2 v2) (hb2 : b2 = nxB g n e1) (h3 : ¬ k2 = 3) : trmG (kd g n) (nxt g n) gh b = (1, b2) := by
  unfold trmG
  rw [h.sort, if_pos (cso_nm.mpr hk), h.nx hb, h1.sort, if_pos (hn.imp (cso_sg (by decide) (by decide) (by decide)).mpr (cso_sg (by decide) (by decide) (by decide)).mpr), h1.nx hb2, h2.sort, if_neg (fun q => h3 (cso_num.mp q))]
theorem trm_d (h : tkq g n b en k v) (hk : ¬ (k = 2 ∧ (v < 6 ∨ gh = 1))) (hm : k = 245) (h1 : tkq g n b1 e1 k1 v1) (hb : b1 = nxB g n en) (h3 : k1 = 3) (hb2 : b2 = nxB g n e1) : trmG (kd g n) (nxt g n) gh b = (0, b2) := by
  unfold trmG
  rw [h.sort, if_neg (fun q => hk (cso_nm.mp q)), if_pos ((cso_sg (by decide) (by decide) (by decide)).mpr hm), h.nx hb, h1.sort, if_pos (cso_num.mpr h3), h1.nx hb2]
theorem trm_e (h : tkq g n b en k v) (hk : ¬ (k = 2 ∧ (v < 6 ∨ gh = 1))) (hm : k = 245) (h1 : tkq g n b1 e1 k1 v1) (hb : b1 = nxB g n en) (h3 : ¬ k1 = 3) : trmG (kd g n) (nxt g n) gh b = (1, b1) := by
  unfold trmG
  rw [h.sort, if_neg (fun q => hk (cso_nm.mp q)), if_pos ((cso_sg (by decide) (by decide) (by decide)).mpr hm), h.nx hb, h1.sort, if_neg (fun q => h3 (cso_num.mp q))]
theorem trm_f (h : tkq g n b en k v) (hk : ¬ (k = 2 ∧ (v < 6 ∨ gh = 1))) (hm : ¬ k = 245) (h3 : k = 3) (hb : b1 = nxB g n en) : trmG (kd g n) (nxt g n) gh b = (0, b1) := by
  unfold trmG
  rw [h.sort, if_neg (fun q => hk (cso_nm.mp q)), if_neg (fun q => hm ((cso_sg (by decide) (by decide) (by decide)).mp q)), if_pos (cso_num.mpr h3), h.nx hb]
theorem trm_g (h : tkq g n b en k v) (hk : ¬ (k = 2 ∧ (v < 6 ∨ gh = 1))) (hm : ¬ k = 245) (h3 : ¬ k = 3) : trmG (kd g n) (nxt g n) gh b = (1, b) := by
  unfold trmG
  rw [h.sort, if_neg (fun q => hk (cso_nm.mp q)), if_neg (fun q => hm ((cso_sg (by decide) (by decide) (by decide)).mp q)), if_neg (fun q => h3 (cso_num.mp q))]
end TRM
