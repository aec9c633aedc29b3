def dl : List (List Nat) := [[16, 9, 11, 19], [6, 9], [14, 5, 8, 20], [5, 19, 12, 5], [9, 6], [5, 12, 9, 8, 23], [22, 14, 9], [18, 1, 22], [15, 4], [4, 15], [20, 18, 5, 19, 19, 1]]
/-- from p to th there is word i -/
def wmt (g : Nat → Nat) (p th i : Nat) : Prop := th = p + xsl.getD i 0 ∧ ∀ j, j < xsl.getD i 0 → g (p + j) = i2n ((xsb.getD i []).getD j 0)
theorem kw_tab : ∀ i, i < 11 → (dl.getD i []).length = xsl.getD i 0 ∧ vl (dl.getD i []) = nl.getD i 0 ∧ (∀ d ∈ dl.getD i [], 1 ≤ d ∧ d ≤ 26) ∧ (∀ j, j < xsl.getD i 0 → 96 + (dl.getD i []).getD (xsl.getD i 0 - 1 - j) 0 = i2n ((xsb.getD i []).getD j 0)) ∧ cso (wo (nl.getD i 0)) 0 = i + 7 ∧ 1 ≤ xsl.getD i 0 ∧ xsl.getD i 0 ≤ 6 := by decide +kernel
theorem xsb_lt : ∀ i, i < 11 → ∀ j, j < xsl.getD i 0 → i2n ((xsb.getD i []).getD j 0) < 128 := by decide +kernel
theorem wo_1 {q : Nat} (h : ∀ i, i < 11 → q ≠ nl.getD i 0) : wo q = 1 := by
  unfold wo
  rw [if_neg (show ¬ q = 382255 from h 0 (by decide)), if_neg (show ¬ q = 249 from h 1 (by decide)), if_neg (show ¬ q = 399641 from h 2 (by decide)), if_neg (show ¬ q = 171 from h 4 (by decide)), if_neg (show ¬ q = 107681 from h 3 (by decide)), if_neg (show ¬ q = 6961 from h 6 (by decide)), if_neg (show ¬ q = 12387497 from h 5 (by decide)), if_neg (show ¬ q = 123 from h 8 (by decide)), if_neg (show ¬ q = 16083 from h 7 (by decide)), if_neg (show ¬ q = 409 from h 9 (by decide)), if_neg (show ¬ q = 24824414 from h 10 (by decide))]
theorem kw_y {g : Nat → Nat} {p th i : Nat} (hi : i < 11) (h : wmt g p th i) : kwS g p th = i + 7 := by
  obtain ⟨t1, t2, t3, t4, t5, t6, t7⟩ := kw_tab i hi
  obtain ⟨e, hb⟩ := h
  have h1 := wv_eq (g := g) (p := p) (dl.getD i []) (xsl.getD i 0) t1.symm (fun j hj => by rw [hb j hj, t4 j hj])
  unfold kwS
  rw [if_neg (by omega), show th - p = xsl.getD i 0 by omega, h1, t2, t5]
theorem kw_n {g : Nat → Nat} {p th : Nat} (hp : p < th) (hl : ∀ j, p ≤ j → j < th → 97 ≤ g j ∧ g j ≤ 122) (h : ∀ i, i < 11 → ¬ wmt g p th i) : kwS g p th = 1 := by
  unfold kwS
  by_cases c : p + 6 < th
  · rw [if_pos c]; rfl
  · rw [if_neg c]
    have hw : ∀ i, i < 11 → wv g p (th - p) ≠ nl.getD i 0 := fun i hi q => by
      obtain ⟨t1, t2, t3, t4, t5, t6, t7⟩ := kw_tab i hi
      obtain ⟨q1, q2⟩ := wv_un (dl.getD i []) (th - p) t3 (fun j a b => hl j a (by omega)) (q.trans t2.symm)
      refine h i hi ⟨by omega, fun j hj => ?_⟩
      rw [q2 j (by omega), ← t4 j hj, q1, t1]
    rw [wo_1 hw]; rfl
/-- i1 letters of the word are looked at: they are the same, or it is not that word -/
def rdv (g : Nat → Nat) (p th i i1 sm : Nat) : Prop := (sm = 1 ∧ th = p + xsl.getD i 0 ∧ ∀ j, j < i1 → j < xsl.getD i 0 → g (p + j) = i2n ((xsb.getD i []).getD j 0)) ∨ (sm = 0 ∧ ¬ wmt g p th i)
theorem rdv_i {g : Nat → Nat} {p th i : Nat} (h : th = p + xsl.getD i 0) : rdv g p th i 0 1 := Or.inl ⟨rfl, h, fun j hj => absurd hj (Nat.not_lt_zero _)⟩
theorem rdv_j {g : Nat → Nat} {p th i k : Nat} (h : ¬ th = p + xsl.getD i 0) : rdv g p th i k 0 := Or.inr ⟨rfl, fun q => h q.1⟩
theorem rdv_y {tb : Nat → Int32} {p th i i1 sm u : Nat} (hi : i < 11) (h : rdv (gtb tb) p th i i1 sm) (hs : ¬ sm = 0) (hj : i1 < xsl.getD i 0) (hu : u = i2n ((xsb.getD i []).getD i1 0) % 256) (he : tb (p + i1) = nI u) : rdv (gtb tb) p th i (i1 + 1) 1 := by
  rcases h with ⟨_, h2, h3⟩ | ⟨h1, _⟩
  · refine Or.inl ⟨rfl, h2, fun j a b => ?_⟩
    by_cases e : j = i1
    · subst e
      have hlt := xsb_lt i hi j hj
      rw [gb_nI (q := u) he (by omega)]; omega
    · exact h3 j (by omega) b
  · exact absurd h1 hs
theorem rdv_n {tb : Nat → Int32} {p th i i1 u : Nat} (hi : i < 11) (hj : i1 < xsl.getD i 0) (hb : bts tb 400) (hl : p + i1 < 400) (hu : u = i2n ((xsb.getD i []).getD i1 0) % 256) (he : ¬ tb (p + i1) = nI u) : rdv (gtb tb) p th i (i1 + 1) 0 :=
  Or.inr ⟨rfl, fun q => he (by
    have h1 := q.2 i1 hj
    have hlt := xsb_lt i hi i1 hj
    exact (gb_iff hb hl (by omega)).mp (h1.trans (by omega)))⟩
theorem rdv_e {g : Nat → Nat} {p th i i1 sm : Nat} (h : rdv g p th i i1 sm) (he : sm = 0 ∨ xsl.getD i 0 ≤ i1) : rdq sm (wmt g p th i) := by
  rcases h with ⟨h1, h2, h3⟩ | ⟨h1, h2⟩
  · exact Or.inl ⟨h1, h2, fun j hj => h3 j (by omega) hj⟩
  · exact Or.inr ⟨h1, h2⟩
/-- a word of several letters, and of one -/
theorem wor_m {g : Nat → Nat} {n B th s : Nat} (hE : th = ltE g n (n - B) B) (h1 : ¬ th = B + 1) (hs : s = kwS g B th) : s = cso (rwK g n B) (rwV g n B 0) := by
  have e : rwK g n B = if B + 6 < th then 1 else wo (wv g B (th - B)) := by
    unfold rwK
    rw [← hE, if_neg (fun q => h1 q.1)]
  have h2 : rwK g n B ≠ 2 := by
    rw [e]
    have := wo_le (wv g B (th - B))
    split <;> omega
  rw [hs, cso_v (w := 0) h2, e]; rfl
theorem wor_1 {g : Nat → Nat} {n B th s q : Nat} (hE : th = ltE g n (n - B) B) (h1 : th = B + 1) (hg : g B = q) (ha : 97 ≤ q) (hb : q ≤ 122) (hs : s = if q ≤ 102 then 2 else if 119 ≤ q then 3 else 1) : s = cso (rwK g n B) (rwV g n B 0) := by
  unfold rwK rwV
  rw [← hE, hg, hs]
  by_cases c1 : q ≤ 102
  · rw [if_pos c1, if_pos ⟨h1, Or.inl c1⟩, if_pos ⟨h1, Or.inl c1⟩, if_pos c1]
    unfold cso
    rw [if_pos rfl, if_pos (by omega)]
  · by_cases c2 : 119 ≤ q
    · rw [if_neg c1, if_pos c2, if_pos ⟨h1, Or.inr c2⟩, if_pos ⟨h1, Or.inr c2⟩, if_neg c1]
      unfold cso
      rw [if_pos rfl, if_neg (by omega)]
    · have hn : ¬ (th = B + 1 ∧ (q ≤ 102 ∨ 119 ≤ q)) := by omega
      have e : wv g B (th - B) = q - 96 := by
        rw [h1, show B + 1 - B = 1 by omega]
        show 27 * 0 + g (B + 0) - 96 = q - 96
        rw [Nat.add_zero, hg]; omega
      have hw : wo (q - 96) = 1 := wo_1 (fun i hi => by
        have : ∀ i, i < 11 → 123 ≤ nl.getD i 0 := by decide
        have := this i hi
        omega)
      rw [if_neg c1, if_neg c2, if_neg hn, if_neg hn, if_neg (by omega), e, hw]; rfl
