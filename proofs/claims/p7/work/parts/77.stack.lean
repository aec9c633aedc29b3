theorem hgt_app {g : Nat} {wk : Nat → Int32} {b n : Nat} : ∀ k, wfs g wk (b + 6 * n) k → hgt wk b (n + k) = hgt wk b n + hgt wk (b + 6 * n) k := by
  intro k
  induction k with
  | zero => intro _; rfl
  | succ k ih =>
    intro h
    have h1 := ih (fun j hj => h j (by omega))
    have e : b + 6 * (n + k) = b + 6 * n + 6 * k := by omega
    rw [show n + (k + 1) = n + k + 1 by omega]
    rcases h k (by omega) with ⟨a, _⟩ | ⟨a, c⟩ | ⟨a, c⟩
    · rw [hgt_0 (by rw [e]; exact a), hgt_0 a, h1]; omega
    · rw [hgt_1 (by rw [e]; exact a), hgt_1 a, h1]
    · rw [hgt_2 (by rw [e]; exact a), hgt_2 a, h1]; omega
theorem wfs_app {g : Nat} {wk : Nat → Int32} {b n k : Nat} (h1 : wfs g wk b n) (h2 : wfs g wk (b + 6 * n) k) : wfs g wk b (n + k) := by
  intro i hi
  rcases Nat.lt_or_ge i n with h | h
  · exact h1 i h
  · obtain ⟨j, rfl⟩ : ∃ j, i = n + j := ⟨i - n, by omega⟩
    have h3 := h2 j (by omega)
    have h4 := hgt_app (b := b) (n := n) j (fun x hx => h2 x (by omega))
    rw [show b + 6 * (n + j) = b + 6 * n + 6 * j by omega]
    rcases h3 with a | ⟨a, c⟩ | ⟨a, c⟩
    · exact Or.inl a
    · exact Or.inr (Or.inl ⟨a, by omega⟩)
    · exact Or.inr (Or.inr ⟨a, by omega⟩)
/-- a formula of n signs, from sign a on -/
def fml (wk : Nat → Int32) (a n : Nat) : Prop := wfs 10 wk (6 * a) n ∧ hgt wk (6 * a) n = 1
theorem fml.congr {wk wk' : Nat → Int32} {a a' n : Nat} (h : fml wk a n) (hk : ∀ j, j < 6 * n → wk (6 * a + j) = wk' (6 * a' + j)) : fml wk' a' n :=
  ⟨wfs_congr hk h.1, by rw [← h.2]; exact (hgt_congr (fun k hk2 => hk (6 * k) (by omega))).symm⟩
theorem fml.not {wk : Nat → Int32} {a n : Nat} (h : fml wk a n) (e : wk (6 * (a + n)) = 1) : fml wk a (n + 1) := by
  have e2 : wk (6 * a + 6 * n) = 1 := by rw [← e]; congr 1; omega
  exact ⟨wfs_snoc h.1 (Or.inr (Or.inl ⟨e2, by rw [h.2]; exact Nat.le_refl _⟩)), by rw [hgt_1 e2, h.2]⟩
theorem fml.bin {wk : Nat → Int32} {a n m : Nat} (h : fml wk a n) (h2 : fml wk (a + n) m) (e : wk (6 * (a + n + m)) = 2 ∨ wk (6 * (a + n + m)) = 3) : fml wk a (n + m + 1) := by
  have e0 : 6 * (a + n) = 6 * a + 6 * n := by omega
  have w2 : wfs 10 wk (6 * a + 6 * n) m := by rw [← e0]; exact h2.1
  have hh : hgt wk (6 * a) (n + m) = 2 := by
    rw [hgt_app m w2, h.2, ← e0, h2.2]
  have e2 : wk (6 * a + 6 * (n + m)) = 2 ∨ wk (6 * a + 6 * (n + m)) = 3 := by rw [show 6 * a + 6 * (n + m) = 6 * (a + n + m) by omega]; exact e
  exact ⟨wfs_snoc (wfs_app h.1 w2) (Or.inr (Or.inr ⟨e2, by rw [hh]; exact Nat.le_refl _⟩)), by rw [hgt_2 e2, hh]⟩
theorem fml.atom {wk : Nat → Int32} {a : Nat} (h0 : wk (6 * a) = 0) (h1 : nmo 10 (wk (6 * a + 1))) (h4 : nmo 10 (wk (6 * a + 4))) : fml wk a 1 := by
  have e : wk (6 * a + 6 * 0) = 0 := h0
  exact ⟨fun k hk => by rw [show k = 0 by omega]; exact Or.inl ⟨h0, h1, h4⟩, by rw [hgt_0 e]; rfl⟩
theorem fml.of {g : Nat} {pl wk : Nat → Int32} {x a n : Nat} (hg : g ≤ 10) (hw : wfs g pl x n) (hh : hgt pl x n = 1) (hk : ∀ j, j < 6 * n → pl (x + j) = wk (6 * a + j)) : fml wk a n :=
  ⟨wfs_congr hk (wfs_mono hg hw), by rw [← hh]; exact (hgt_congr (fun k hk2 => hk (6 * k) (by omega))).symm⟩
theorem fml.pos {wk : Nat → Int32} {a n : Nat} (h : fml wk a n) : 1 ≤ n := by
  have := hgt_le (f := wk) (b := 6 * a) n
  rw [h.2] at this; exact this
/-- t formulas, one behind the other: the last begins at tp (t - 1) and ends at u -/
def stk (wk : Nat → Int32) (tp : Nat → Nat) : Nat → Nat → Prop
  | 0, _ => True
  | t + 1, u => tp t ≤ u ∧ fml wk (tp t) (u - tp t) ∧ stk wk tp t (tp t)
theorem stk.congr {wk wk' : Nat → Int32} {tp tp' : Nat → Nat} : ∀ {t u : Nat}, stk wk tp t u → (∀ j, j < 6 * u → wk j = wk' j) → (∀ i, i < t → tp' i = tp i) → stk wk' tp' t u
  | 0, _, _, _, _ => trivial
  | t + 1, u, ⟨h1, h2, h3⟩, hw, ht => by
    have e := ht t (by omega)
    refine ⟨by omega, ?_, ?_⟩
    · rw [e]; exact h2.congr (fun j hj => hw _ (by omega))
    · rw [e]; exact stk.congr h3 (fun j hj => hw j (by omega)) (fun i hi => ht i (by omega))
theorem stk.push {wk wk' : Nat → Int32} {tp tp' : Nat → Nat} {t u n : Nat} (h : stk wk tp t u) (hw : ∀ j, j < 6 * u → wk j = wk' j) (ht : ∀ i, i < t → tp' i = tp i) (e : tp' t = u) (hf : fml wk' u n) : stk wk' tp' (t + 1) (u + n) := by
  refine ⟨by omega, ?_, ?_⟩
  · rw [e, Nat.add_sub_cancel_left]; exact hf
  · rw [e]; exact h.congr hw ht
theorem stk.not {wk wk' : Nat → Int32} {tp : Nat → Nat} {t u : Nat} (h : stk wk tp (t + 1) u) (hw : ∀ j, j < 6 * u → wk j = wk' j) (e : wk' (6 * u) = 1) : stk wk' tp (t + 1) (u + 1) := by
  obtain ⟨h1, h2, h3⟩ := h
  have h4 : fml wk' (tp t) (u - tp t) := h2.congr (fun j hj => hw _ (by omega))
  refine ⟨by omega, ?_, h3.congr (fun j hj => hw j (by omega)) (fun _ _ => rfl)⟩
  rw [show u + 1 - tp t = u - tp t + 1 by omega]
  exact h4.not (by rw [show tp t + (u - tp t) = u by omega]; exact e)
theorem stk.unite {wk wk' : Nat → Int32} {tp : Nat → Nat} {t u : Nat} (h : stk wk tp (t + 2) u) (hw : ∀ j, j < 6 * u → wk j = wk' j) (e : wk' (6 * u) = 2 ∨ wk' (6 * u) = 3) : stk wk' tp (t + 1) (u + 1) := by
  obtain ⟨h1, h2, h3, h4, h5⟩ := h
  have k2 : fml wk' (tp (t + 1)) (u - tp (t + 1)) := h2.congr (fun j hj => hw _ (by omega))
  have k4 : fml wk' (tp t) (tp (t + 1) - tp t) := h4.congr (fun j hj => hw _ (by omega))
  refine ⟨by omega, ?_, h5.congr (fun j hj => hw j (by omega)) (fun _ _ => rfl)⟩
  have e1 : tp t + (tp (t + 1) - tp t) = tp (t + 1) := by omega
  have e2 : tp (t + 1) + (u - tp (t + 1)) = u := by omega
  have := k4.bin (m := u - tp (t + 1)) (by rw [e1]; exact k2) (by rw [e1, e2]; exact e)
  rw [show u + 1 - tp t = tp (t + 1) - tp t + (u - tp (t + 1)) + 1 by omega]; exact this
theorem stk.swap {wk wk' : Nat → Int32} {tp tp' : Nat → Nat} {t u : Nat} (h : stk wk tp (t + 2) u) (hw : ∀ j, j < 6 * tp t → wk j = wk' j) (hB : ∀ j, j < 6 * (u - tp (t + 1)) → wk' (6 * tp t + j) = wk (6 * tp (t + 1) + j)) (hA : ∀ j, j < 6 * (tp (t + 1) - tp t) → wk' (6 * (tp t + (u - tp (t + 1))) + j) = wk (6 * tp t + j))
    (ht : ∀ i, i < t + 1 → tp' i = tp i) (e : tp' (t + 1) = tp t + (u - tp (t + 1))) : stk wk' tp' (t + 2) u := by
  obtain ⟨h1, h2, h3, h4, h5⟩ := h
  have et := ht t (by omega)
  refine ⟨by omega, ?_, by omega, ?_, ?_⟩
  · rw [e, show u - (tp t + (u - tp (t + 1))) = tp (t + 1) - tp t by omega]
    exact h4.congr (fun j hj => (hA j hj).symm)
  · rw [e, et, show tp t + (u - tp (t + 1)) - tp t = u - tp (t + 1) by omega]
    exact h2.congr (fun j hj => (hB j hj).symm)
  · rw [et]; exact h5.congr hw (fun i hi => ht i (by omega))
theorem stk.pop {wk : Nat → Int32} {tp : Nat → Nat} {t u : Nat} (h : stk wk tp (t + 1) u) : stk wk tp t (tp t) := h.2.2
theorem stk.top {wk : Nat → Int32} {tp : Nat → Nat} {t u : Nat} (h : stk wk tp (t + 1) u) : tp t ≤ u ∧ fml wk (tp t) (u - tp t) := ⟨h.1, h.2.1⟩
/-- the names of atoms may change -/
theorem fml.sub {wk wk' : Nat → Int32} {a n : Nat} (h : fml wk a n) (e0 : ∀ k, k < n → wk' (6 * (a + k)) = wk (6 * (a + k))) (e1 : ∀ k, k < n → wk (6 * (a + k)) = 0 → nmo 10 (wk (6 * (a + k) + 1)) → nmo 10 (wk' (6 * (a + k) + 1))) (e4 : ∀ k, k < n → wk (6 * (a + k)) = 0 → nmo 10 (wk (6 * (a + k) + 4)) → nmo 10 (wk' (6 * (a + k) + 4))) : fml wk' a n := by
  have r : ∀ k, 6 * a + 6 * k = 6 * (a + k) := fun k => by omega
  have hc : ∀ q, q ≤ n → hgt wk (6 * a) q = hgt wk' (6 * a) q := fun q hq => hgt_congr (fun k hk => by rw [r]; exact (e0 k (by omega)).symm)
  refine ⟨fun k hk => ?_, by rw [← hc n (Nat.le_refl _)]; exact h.2⟩
  have := h.1 k hk
  rw [r] at *
  rw [← hc k (by omega), e0 k hk]
  rcases this with ⟨x, y, z⟩ | x | x
  · exact Or.inl ⟨x, e1 k hk x y, e4 k hk x z⟩
  · exact Or.inr (Or.inl x)
  · exact Or.inr (Or.inr x)
