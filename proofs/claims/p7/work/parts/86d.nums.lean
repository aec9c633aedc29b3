/-- numbered one after the other, from n to e -/
def nmz (n : Nat) : List itT → Nat → Prop
  | [], e => n = e
  | it :: l, e => ((it.1 = 3 ∨ it.1 = 4 ∨ it.1 = 6) ∧ nmz n l e) ∨ (it.2.1 = n + 1 ∧ nmz (n + 1) l e)
theorem nmz.nmb : ∀ {l : List itT} {n e : Nat}, nmz n l e → nmb n l
  | [], _, _, _ => trivial
  | _ :: l, _, _, h => by
    rcases h with ⟨a, b⟩ | ⟨a, b⟩
    · exact Or.inl ⟨a, nmz.nmb (l := l) b⟩
    · exact Or.inr ⟨a, nmz.nmb (l := l) b⟩
theorem nmz_m {x : itT} (hx : x.1 = 3 ∨ x.1 = 4 ∨ x.1 = 6) : ∀ {l : List itT} {n e : Nat}, nmz n l e → nmz n (l ++ [x]) e
  | [], _, _, h => Or.inl ⟨hx, h⟩
  | _ :: l, _, _, h => by
    rcases h with ⟨a, b⟩ | ⟨a, b⟩
    · exact Or.inl ⟨a, nmz_m hx (l := l) b⟩
    · exact Or.inr ⟨a, nmz_m hx (l := l) b⟩
theorem nmz_s {x : itT} : ∀ {l : List itT} {n e : Nat}, x.2.1 = e + 1 → nmz n l e → nmz n (l ++ [x]) (e + 1)
  | [], n, e, hx, h => by
    have h' : n = e := h
    subst h'
    exact Or.inr ⟨hx, rfl⟩
  | _ :: l, _, _, hx, h => by
    rcases h with ⟨a, b⟩ | ⟨a, b⟩
    · exact Or.inl ⟨a, nmz_s (l := l) hx b⟩
    · exact Or.inr ⟨a, nmz_s (l := l) hx b⟩
theorem pgP_num {K nx V : Nat → Nat} : ∀ (k : Nat) (w : Bool) (b : Nat) (sg : List itT) (sn fn wn : Nat) (pl : List itT) (r : Nat × Nat × List itT), pgP K nx V k w b sg sn fn wn pl r → nmz 0 pl sn → r.1 = 2 → nmb 0 r.2.2 := by
  intro k
  induction k with
  | zero => intro w b sg sn fn wn pl r h; exact h.elim
  | succ k ih =>
    intro w b sg sn fn wn pl r h hn h2
    cases w with
    | true =>
      rcases h with ⟨a, h⟩ | ⟨a, q, hq, h⟩
      · rw [h] at h2; exact absurd (show (1 : Nat) = 2 from h2) (by decide)
      · rcases h with ⟨x1, x2⟩ | ⟨x1, it, xi, x2⟩
        · rw [x2] at h2; exact absurd (show (1 : Nat) = 2 from h2) (by decide)
        · have hs : nmz 0 (pl ++ [gI sn pl it]) (sn + 1) := nmz_s rfl hn
          rcases x2 with ⟨_, u⟩ | ⟨_, u⟩ | ⟨_, u⟩
          · exact ih _ _ _ _ _ _ _ _ u hs h2
          · exact ih _ _ _ _ _ _ _ _ u hs h2
          · exact ih _ _ _ _ _ _ _ _ u hs h2
    | false =>
      rcases h with ⟨a, h⟩ | ⟨a, h⟩
      · exact ih _ _ _ _ _ _ _ _ h hn h2
      · rcases h with ⟨_, x2⟩ | ⟨x, l, _, x2⟩
        · by_cases c : K b = 0
          · rw [if_pos c] at x2
            rw [x2]
            exact hn.nmb
          · rw [if_neg c] at x2
            rw [x2] at h2; exact absurd (show (1 : Nat) = 2 from h2) (by decide)
        · rcases x2 with ⟨_, _, u⟩ | ⟨_, u⟩ | ⟨_, u⟩
          · exact ih _ _ _ _ _ _ _ _ u (nmz_m (Or.inl rfl) hn) h2
          · refine ih _ _ _ _ _ _ _ _ u (nmz_m ?_ hn) h2
            by_cases c : x.1 = 3
            · rw [if_pos c]; exact Or.inr (Or.inl rfl)
            · rw [if_neg c]; exact Or.inr (Or.inr rfl)
          · rw [u] at h2; exact absurd (show (1 : Nat) = 2 from h2) (by decide)
theorem ansP.nmb {g : Nat → Nat} {n : Nat} {c : List itT} (h : ansP g n 0 c) : nmb 0 c := by
  obtain ⟨r, ⟨k, h⟩, e, h3⟩ := h
  rcases h3 with h3 | ⟨h3, h4⟩
  · rw [if_pos h3] at e
    omega
  · rw [← h4]
    exact pgP_num k _ _ _ _ _ _ _ r h rfl h3
