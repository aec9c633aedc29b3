def nmo (g : Nat) (x : Int32) : Prop := x = -1 ∨ ∃ v, v < g ∧ x = nI v
def hgt (f : Nat → Int32) (b : Nat) : Nat → Nat
  | 0 => 0
  | k + 1 => if f (b + 6 * k) = 0 then hgt f b k + 1 else if f (b + 6 * k) = 1 then hgt f b k else hgt f b k - 1
def wfs (g : Nat) (f : Nat → Int32) (b q : Nat) : Prop := ∀ k, k < q → (f (b + 6 * k) = 0 ∧ nmo g (f (b + 6 * k + 1)) ∧ nmo g (f (b + 6 * k + 4))) ∨ (f (b + 6 * k) = 1 ∧ 1 ≤ hgt f b k) ∨ ((f (b + 6 * k) = 2 ∨ f (b + 6 * k) = 3) ∧ 2 ≤ hgt f b k)
theorem hgt_congr {f f' : Nat → Int32} {b b' : Nat} : ∀ {q : Nat}, (∀ k, k < q → f (b + 6 * k) = f' (b' + 6 * k)) → hgt f b q = hgt f' b' q := by
  intro q
  induction q with
  | zero => intro _; rfl
  | succ q ih =>
    intro h
    have h1 := ih (fun k hk => h k (by omega))
    have h2 := h q (by omega)
    show (if f (b + 6 * q) = 0 then _ else _) = (if f' (b' + 6 * q) = 0 then _ else _)
    rw [h1, h2]
theorem wfs_congr {g : Nat} {f f' : Nat → Int32} {b b' q : Nat} (h : ∀ j, j < 6 * q → f (b + j) = f' (b' + j)) (hw : wfs g f b q) : wfs g f' b' q := by
  intro k hk
  have h0 := h (6 * k) (by omega)
  have h1 := h (6 * k + 1) (by omega)
  have h4 := h (6 * k + 4) (by omega)
  have hh := hgt_congr (q := k) (f := f) (f' := f') (b := b) (b' := b') (fun j hj => h (6 * j) (by omega))
  have := hw k hk
  rw [hh, h0] at this
  rw [show b' + 6 * k + 1 = b' + (6 * k + 1) by omega, show b' + 6 * k + 4 = b' + (6 * k + 4) by omega, ← h1, ← h4]
  exact this
theorem wfs_mono {g g' : Nat} {f : Nat → Int32} {b q : Nat} (hg : g ≤ g') (hw : wfs g f b q) : wfs g' f b q := by
  have hn : ∀ x, nmo g x → nmo g' x := fun x hx => hx.imp id (fun ⟨v, h, e⟩ => ⟨v, by omega, e⟩)
  intro k hk
  rcases hw k hk with ⟨a, c, d⟩ | h | h
  · exact Or.inl ⟨a, hn _ c, hn _ d⟩
  · exact Or.inr (Or.inl h)
  · exact Or.inr (Or.inr h)
theorem wfs_snoc {g : Nat} {f : Nat → Int32} {b q : Nat} (hw : wfs g f b q) (h : (f (b + 6 * q) = 0 ∧ nmo g (f (b + 6 * q + 1)) ∧ nmo g (f (b + 6 * q + 4))) ∨ (f (b + 6 * q) = 1 ∧ 1 ≤ hgt f b q) ∨ ((f (b + 6 * q) = 2 ∨ f (b + 6 * q) = 3) ∧ 2 ≤ hgt f b q)) : wfs g f b (q + 1) := by
  intro k hk
  rcases Nat.lt_or_ge k q with h1 | h1
  · exact hw k h1
  · have : k = q := by omega
    subst this; exact h
theorem hgt_0 {f : Nat → Int32} {b q : Nat} (h : f (b + 6 * q) = 0) : hgt f b (q + 1) = hgt f b q + 1 := if_pos h
theorem hgt_1 {f : Nat → Int32} {b q : Nat} (h : f (b + 6 * q) = 1) : hgt f b (q + 1) = hgt f b q := by
  show (if f (b + 6 * q) = 0 then _ else _) = _
  rw [h]; rfl
theorem hgt_2 {f : Nat → Int32} {b q : Nat} (h : f (b + 6 * q) = 2 ∨ f (b + 6 * q) = 3) : hgt f b (q + 1) = hgt f b q - 1 := by
  show (if f (b + 6 * q) = 0 then _ else _) = _
  rcases h with h | h <;> rw [h] <;> rfl
theorem nI1 : nI 1 = 1 := rfl
theorem nI2 : nI 2 = 2 := rfl
theorem nI3 : nI 3 = 3 := rfl
/-- the stack's entries; the heights: in the middle (1 too many), and ahead of a part -/
def sto (st : Nat → Nat) (sd : Nat) : Prop := (∀ j, st j < 100) ∧ ∀ j, j < sd → st j = 1 ∨ st j = 2 ∨ st j = 3 ∨ st j = 9
def cim (g : Nat) (f : Nat → Int32) (q : Nat) (st : Nat → Nat) (sd : Nat) : Prop := wfs g f 0 q ∧ hgt f 0 q + dpt st sd = sd + 1
def cib (g : Nat) (f : Nat → Int32) (q : Nat) (st : Nat → Nat) (sd : Nat) : Prop := wfs g f 0 q ∧ hgt f 0 q + dpt st sd = sd
theorem dpt_le {st : Nat → Nat} : ∀ k, dpt st k ≤ k
  | 0 => Nat.le_refl _
  | k + 1 => by
    have h := dpt_le (st := st) k
    show dpt st k + (if st k = 1 ∨ st k = 9 then 1 else 0) ≤ k + 1
    split <;> omega
theorem dpt_congr {st st' : Nat → Nat} : ∀ k, (∀ j, j < k → st j = st' j) → dpt st k = dpt st' k
  | 0, _ => rfl
  | k + 1, h => by
    have h1 := dpt_congr (st := st) (st' := st') k (fun j hj => h j (by omega))
    show dpt st k + (if st k = 1 ∨ st k = 9 then 1 else 0) = dpt st' k + (if st' k = 1 ∨ st' k = 9 then 1 else 0)
    rw [h1, h k (by omega)]
theorem upd_ne {f : Nat → Int32} {i j : Nat} {v : Int32} (h : j ≠ i) : upd f i v j = f j := by simp [upd, h]
theorem upd_eq {f : Nat → Int32} {i : Nat} {v : Int32} : upd f i v i = v := by simp [upd]
theorem emit_f {f : Nat → Int32} {q : Nat} {v : Int32} : ∀ j, j < 6 * q → upd f (6 * q) v j = f j := fun j hj => upd_ne (by omega)
theorem emit_ok {g : Nat} {f : Nat → Int32} {q sd : Nat} {st : Nat → Nat} (h : cim g f q st sd) (h0 : 0 < sd) (hs : st (sd - 1) = 1 ∨ st (sd - 1) = 2 ∨ st (sd - 1) = 3) : cim g (upd f (6 * q) (nI (st (sd - 1)))) (q + 1) st (sd - 1) := by
  obtain ⟨hw, hh⟩ := h
  have hf := emit_f (f := f) (q := q) (v := nI (st (sd - 1)))
  have hw1 : wfs g (upd f (6 * q) (nI (st (sd - 1)))) 0 q := wfs_congr (fun j hj => by simp only [Nat.zero_add]; exact (hf j hj).symm) hw
  have hh1 : hgt (upd f (6 * q) (nI (st (sd - 1)))) 0 q = hgt f 0 q := hgt_congr (fun k hk => by simp only [Nat.zero_add]; exact hf _ (by omega))
  obtain ⟨m, rfl⟩ : ∃ m, sd = m + 1 := ⟨sd - 1, by omega⟩
  rw [Nat.add_sub_cancel] at *
  have hx : upd f (6 * q) (nI (st m)) (0 + 6 * q) = nI (st m) := by rw [Nat.zero_add]; exact upd_eq
  have hdl := dpt_le (st := st) m
  rcases hs with e | e | e
  · have hd := dpt_y (st := st) (k := m) (Or.inl e)
    have hy : nI (st m) = 1 := by rw [e]; rfl
    rw [hy] at hx hw1 hh1 ⊢
    exact ⟨wfs_snoc hw1 (Or.inr (Or.inl ⟨hx, by omega⟩)), by rw [hgt_1 hx]; omega⟩
  · have hd := dpt_n (st := st) (k := m) (by omega)
    have hy : nI (st m) = 2 := by rw [e]; rfl
    rw [hy] at hx hw1 hh1 ⊢
    exact ⟨wfs_snoc hw1 (Or.inr (Or.inr ⟨Or.inl hx, by omega⟩)), by rw [hgt_2 (Or.inl hx)]; omega⟩
  · have hd := dpt_n (st := st) (k := m) (by omega)
    have hy : nI (st m) = 3 := by rw [e]; rfl
    rw [hy] at hx hw1 hh1 ⊢
    exact ⟨wfs_snoc hw1 (Or.inr (Or.inr ⟨Or.inr hx, by omega⟩)), by rw [hgt_2 (Or.inr hx)]; omega⟩
theorem nots_ok {g : Nat} {st : Nat → Nat} : ∀ (k : Nat) {f : Nat → Int32} {q sd : Nat}, cim g f q st sd → k ≤ ntop st sd → cim g (enF f q k) (q + k) st (sd - k) ∧ dpt st (sd - k) + k = dpt st sd := by
  intro k
  induction k with
  | zero => intro f q sd h _; exact ⟨h, rfl⟩
  | succ k ih =>
    intro f q sd h hk
    obtain ⟨h1, h2⟩ := ih h (by omega)
    have hle := ntop_le (st := st) sd
    have hn : ∀ (k sd : Nat), k < ntop st sd → st (sd - k - 1) = 1 := by
      intro k
      induction k with
      | zero =>
        intro sd h
        cases sd with
        | zero => exact absurd h (Nat.lt_irrefl _)
        | succ m =>
          rw [Nat.sub_zero, Nat.add_sub_cancel]
          by_cases e : st m = 1
          · exact e
          · rw [show ntop st (m + 1) = 0 from if_neg e] at h; omega
      | succ k ih =>
        intro sd h
        cases sd with
        | zero => exact absurd h (by show ¬ k + 1 < 0; omega)
        | succ m =>
          by_cases e : st m = 1
          · have : ntop st (m + 1) = ntop st m + 1 := if_pos e
            have := ih m (by omega)
            rw [show m + 1 - (k + 1) - 1 = m - k - 1 by omega]; exact this
          · rw [show ntop st (m + 1) = 0 from if_neg e] at h; omega
    have e1 := hn k sd (by omega)
    have h3 := emit_ok h1 (by omega) (Or.inl e1)
    rw [e1] at h3
    have hd := dpt_y (st := st) (k := sd - k - 1) (Or.inl e1)
    rw [show sd - k - 1 + 1 = sd - k by omega] at hd
    exact ⟨h3, by rw [show sd - (k + 1) = sd - k - 1 by omega]; omega⟩
def sup (st : Nat → Nat) (i v : Nat) : Nat → Nat := fun j => if j = i then v else st j
theorem xf_sup (st : Nat → Nat) (i v : Nat) : upd (fun j => nI (st j)) i (nI v) = (fun j => nI (sup st i v j)) := by
  funext j
  simp only [upd, sup]
  by_cases h : j = i <;> simp [h]
theorem sup_eq {st : Nat → Nat} {i v : Nat} : sup st i v i = v := if_pos rfl
theorem sup_ne {st : Nat → Nat} {i j v : Nat} (h : j ≠ i) : sup st i v j = st j := if_neg h
theorem sto_push {st : Nat → Nat} {sd v : Nat} (h : sto st sd) (hv : v = 1 ∨ v = 2 ∨ v = 3 ∨ v = 9) : sto (sup st sd v) (sd + 1) := by
  refine ⟨fun j => ?_, fun j hj => ?_⟩
  · have := h.1 j; unfold sup; split <;> omega
  · by_cases e : j = sd
    · subst e; rw [sup_eq]; exact hv
    · rw [sup_ne e]; exact h.2 j (by omega)
theorem sto_pop {st : Nat → Nat} {sd sd' : Nat} (h : sto st sd) (hs : sd' ≤ sd) : sto st sd' := ⟨h.1, fun j hj => h.2 j (by omega)⟩
theorem dpt_push {st : Nat → Nat} {sd v : Nat} : dpt (sup st sd v) (sd + 1) = dpt st sd + (if v = 1 ∨ v = 9 then 1 else 0) := by
  show dpt (sup st sd v) sd + _ = _
  rw [dpt_congr (st := sup st sd v) (st' := st) sd (fun j hj => sup_ne (by omega)), sup_eq]
theorem hpn_no {st : Nat → Nat} : ∀ k, ¬ hpn st k = 1 → ∀ j, j < k → ¬ st j = 9
  | 0, _, _, hj => absurd hj (Nat.not_lt_zero _)
  | k + 1, h, j, hj => by
    by_cases e : st k = 9
    · exact absurd (show hpn st (k + 1) = 1 from if_pos e) h
    · rcases Nat.lt_or_ge j k with h1 | h1
      · exact hpn_no k (fun h2 => h ((if_neg e).trans h2)) j h1
      · rw [show j = k by omega]; exact e
theorem hpn_pop {st : Nat → Nat} {k : Nat} (h : hpn st k = 1) (h9 : ¬ (0 < k ∧ st (k - 1) = 9)) : 0 < k ∧ hpn st (k - 1) = 1 := by
  cases k with
  | zero => exact absurd (show (0 : Nat) = 1 from h) (by decide)
  | succ k =>
    rw [Nat.add_sub_cancel] at *
    have e : ¬ st k = 9 := fun e => h9 ⟨by omega, e⟩
    exact ⟨by omega, (if_neg e).symm.trans h⟩
theorem atom_ok {g : Nat} {f f' : Nat → Int32} {q : Nat} {st : Nat → Nat} {sd : Nat} (h : cib g f q st sd) (h1 : ∀ j, j < 6 * q → f' j = f j) (h2 : f' (6 * q) = 0 ∧ nmo g (f' (6 * q + 1)) ∧ nmo g (f' (6 * q + 4))) : cim g f' (q + 1) st sd := by
  obtain ⟨hw, hh⟩ := h
  have hw1 : wfs g f' 0 q := wfs_congr (fun j hj => by simp only [Nat.zero_add]; exact (h1 j hj).symm) hw
  have hh1 : hgt f' 0 q = hgt f 0 q := hgt_congr (fun k hk => by simp only [Nat.zero_add]; exact h1 _ (by omega))
  have h0 : f' (0 + 6 * q) = 0 := by rw [Nat.zero_add]; exact h2.1
  exact ⟨wfs_snoc hw1 (Or.inl ⟨h0, by rw [Nat.zero_add]; exact h2.2.1, by rw [Nat.zero_add]; exact h2.2.2⟩), by rw [hgt_0 h0]; omega⟩
theorem sto_lt {st : Nat → Nat} {sd : Nat} (h : sto st sd) : ∀ j, st j < 100 := h.1
theorem cib_push {g : Nat} {f : Nat → Int32} {q : Nat} {st : Nat → Nat} {sd v : Nat} (h : cib g f q st sd) (hv : v = 1 ∨ v = 9) : cib g f q (sup st sd v) (sd + 1) := ⟨h.1, by rw [dpt_push, if_pos hv]; have := h.2; omega⟩
theorem cim_op {g : Nat} {f : Nat → Int32} {q : Nat} {st : Nat → Nat} {sd v : Nat} (h : cim g f q st sd) (hv : v = 2 ∨ v = 3) : cib g f q (sup st sd v) (sd + 1) := ⟨h.1, by rw [dpt_push, if_neg (by omega)]; have := h.2; omega⟩
theorem cim_paren {g : Nat} {f : Nat → Int32} {q : Nat} {st : Nat → Nat} {sd : Nat} (h : cim g f q st sd) (h0 : 0 < sd) (h9 : st (sd - 1) = 9) : cim g f q st (sd - 1) := by
  have := h.2
  have hd := dpt_y (st := st) (k := sd - 1) (Or.inr h9)
  rw [show sd - 1 + 1 = sd by omega] at hd
  exact ⟨h.1, by omega⟩
