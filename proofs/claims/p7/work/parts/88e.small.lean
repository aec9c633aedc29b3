/-- all conditions' formulas are small -/
def nbL8 (L : List cdT) : Prop := ∀ c, c < L.length → nbl 21483 (cth L c).2.2
theorem nbA8_of {ck cm ca cz : Nat → Nat} {kp : Nat → Int32} {L : List cdT} {n : Nat} (h : cdl ck cm ca cz kp n = L) (hb : nbL8 L) : nbA8 n ca cz kp := fun j hj => by
  rw [cdl_f h hj]
  exact hb j (by rw [← cdl_n h]; exact hj)
/-- the first i conditions are valid; or one is not -/
def pvI8 (L : List cdT) (i al : Nat) : Prop := (al = 1 → ∀ c, c < i → vdQ8 (cth L c).2.2 1) ∧ (al = 0 → ∃ c, c < L.length ∧ ¬ vdQ8 (cth L c).2.2 1)
def prQ8 (L : List cdT) (u : Nat) : Prop := (u = 1 → ∀ c, c < L.length → vdQ8 (cth L c).2.2 1) ∧ (u = 0 → ∃ c, c < L.length ∧ ¬ vdQ8 (cth L c).2.2 1)
section PV
variable {L : List cdT} {i al u u' : Nat} {x : Int32}
theorem pvI8_0 : pvI8 L 0 1 := ⟨fun _ c h => absurd h (Nat.not_lt_zero _), fun q => absurd q (by decide)⟩
theorem pvI8_y (h : pvI8 L i al) (ha : ¬ al = 0) (ha1 : al ≤ 1) (hv : vdQ8 (cth L i).2.2 x) (hx : x = 1) : pvI8 L (i + 1) 1 := ⟨fun _ c hc => by
  by_cases e : c = i
  · subst e; rw [← hx]; exact hv
  · exact h.1 (by omega) c (by omega), fun q => absurd q (by decide)⟩
theorem pvI8_n (hv : vdQ8 (cth L i).2.2 x) (hx : ¬ x = 1) (hi : i < L.length) : pvI8 L (i + 1) 0 := ⟨fun q => absurd q (by decide), fun _ => ⟨i, hi, fun q => hx (hv.eq q)⟩⟩
theorem prQ8_of (h : pvI8 L i al) (hc : al = 0 ∨ i = L.length) : prQ8 L al := ⟨fun q c hc2 => h.1 q c (by omega), h.2⟩
theorem prQ8.eq (h : prQ8 L u) (h' : prQ8 L u') (hu : u ≤ 1) (hu' : u' ≤ 1) : u = u' := by
  rcases (show u = 0 ∨ u = 1 by omega) with e | e <;> rcases (show u' = 0 ∨ u' = 1 by omega) with e' | e'
  · omega
  · obtain ⟨c, h1, h2⟩ := h.2 e
    exact absurd (h'.1 e' c h1) h2
  · obtain ⟨c, h1, h2⟩ := h'.2 e'
    exact absurd (h.1 e c h1) h2
  · omega
end PV
/-- the number of v in the counterexample -/
def ctr8 (l : List sgT) (v : Nat) (x : Int32) : Prop := ∃ (r : Nat) (lv : Nat → Int32), (r < 5001 ∧ frq8 l (nI r)) ∧ grt8 (psv8 l r) (lI8 lv) ∧ x = lv v - lv 10
theorem ctr8.eq {l : List sgT} {v : Nat} {x y : Int32} (h : ctr8 l v x) (h' : ctr8 l v y) (hv : v ≤ 10) : x = y := by
  obtain ⟨r, lv, ⟨hr, h1⟩, h2, e⟩ := h
  obtain ⟨r', lw, ⟨hr', h1'⟩, h2', e'⟩ := h'
  have er := (nI_eq (a := r) (b := r') (by omega) (by omega)).mp (h1.eq h1')
  subst er
  have q : ∀ j, j ≤ 10 → lv j = lw j := fun j hj => Int32.toInt_inj.mp (h2.eq h2' (fun _ => Iff.rfl) hj)
  rw [e, e', q v hv, q 10 (by omega)]
theorem ctr8_m {l : List sgT} {r v u : Nat} {a b x : Int32} {av : Nat → Int32} (h : lkQ8 l a b) (hr : r < 5001) (er : b = nI r) (hp : pqQ8 l r av u) (hu : u ≤ 1) (e : x = av v - av 10) : ctr8 l v x := by
  have hf : frq8 l (nI r) := by rw [← er]; exact h.2
  have hps : psb8 l r := by
    rcases hf with ⟨q, _⟩ | ⟨r', _, _, q, h3, _⟩
    · exact absurd q (nIm1 (by omega))
    · have hl : rwl8 l ≤ 5001 := rwo_le
      have := (nI_eq (a := r) (b := r') (by omega) (by omega)).mp q
      subst this; exact h3
  have h1 : u = 1 := by
    rcases (show u = 0 ∨ u = 1 by omega) with q | q
    · exact absurd hps (hp.2 q)
    · exact q
  exact ⟨r, av, ⟨hr, hf⟩, hp.1 h1, e⟩
/-- what about answers of condition k: its kind, its number, rows, atoms, the first row -/
def abQ8 (L : List cdT) (k w : Nat) (x : Int32) : Prop := (w = 0 → x = nI (cth L k).1) ∧ (w = 1 → x = nI (cth L k).2.1) ∧ (w = 2 → x = nI (rwl8 (cth L k).2.2)) ∧ (w = 3 → x = nI (atn8 (olf (cth L k).2.2) (cth L k).2.2.length)) ∧ (w = 4 → frq8 (cth L k).2.2 x)
section AB
variable {L : List cdT} {k w : Nat} {x y : Int32}
theorem abQ8.eq (h : abQ8 L k w x) (h' : abQ8 L k w y) (hw : w ≤ 4) : x = y := by
  rcases (show w = 0 ∨ w = 1 ∨ w = 2 ∨ w = 3 ∨ w = 4 by omega) with e | e | e | e | e
  · rw [h.1 e, h'.1 e]
  · rw [h.2.1 e, h'.2.1 e]
  · rw [h.2.2.1 e, h'.2.2.1 e]
  · rw [h.2.2.2.1 e, h'.2.2.2.1 e]
  · exact (h.2.2.2.2 e).eq (h'.2.2.2.2 e)
theorem abQ8_0 (e : w = 0) (h : x = nI (cth L k).1) : abQ8 L k w x := ⟨fun _ => h, fun q => absurd q (by omega), fun q => absurd q (by omega), fun q => absurd q (by omega), fun q => absurd q (by omega)⟩
theorem abQ8_1 (e : w = 1) (h : x = nI (cth L k).2.1) : abQ8 L k w x := ⟨fun q => absurd q (by omega), fun _ => h, fun q => absurd q (by omega), fun q => absurd q (by omega), fun q => absurd q (by omega)⟩
theorem abQ8_2 (e : w = 2) (h : x = nI (rwl8 (cth L k).2.2)) : abQ8 L k w x := ⟨fun q => absurd q (by omega), fun q => absurd q (by omega), fun _ => h, fun q => absurd q (by omega), fun q => absurd q (by omega)⟩
theorem abQ8_3 (e : w = 3) (h : x = nI (atn8 (olf (cth L k).2.2) (cth L k).2.2.length)) : abQ8 L k w x := ⟨fun q => absurd q (by omega), fun q => absurd q (by omega), fun q => absurd q (by omega), fun _ => h, fun q => absurd q (by omega)⟩
theorem abQ8_4 (e : w = 4) (h : frq8 (cth L k).2.2 x) : abQ8 L k w x := ⟨fun q => absurd q (by omega), fun q => absurd q (by omega), fun q => absurd q (by omega), fun q => absurd q (by omega), fun _ => h⟩
end AB
theorem cdl_k {ck cm ca cz : Nat → Nat} {kp : Nat → Int32} {L : List cdT} {n j : Nat} (h : cdl ck cm ca cz kp n = L) (hj : j < n) : ck j = (cth L j).1 ∧ cm j = (cth L j).2.1 := by
  rw [← h, cdl_at n j hj]; exact ⟨rfl, rfl⟩
