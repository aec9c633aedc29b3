/-- marks have no conditions -/
theorem gCd_mrk {po : List sgT} : ∀ (m l : List itT), mrk m → gCd po (m ++ l) = gCd po l
  | [], _, _ => rfl
  | x :: m, l, h => by
    have hx := h x List.mem_cons_self
    show wkC x (fSt po (m ++ l)) ++ gCd po (m ++ l) = gCd po l
    rw [gCd_mrk m l (fun y hy => h y (List.mem_cons_of_mem _ hy))]
    have e : wkC x (fSt po (m ++ l)) = [] := by
      unfold wkC
      rw [if_neg (by omega), if_neg (by omega)]
    rw [e]; rfl
section GAL
variable {kd f1 f2 : Nat → Nat} {IT : Nat → itT} {X Y : Nat → List itT} {n s : Nat} {pr po : List sgT}
/-- the conditions of one statement are claims' formulas -/
theorem wkC_mk (h : fst9 kd f1 f2 IT X Y s) (hk : knI (kd s) = (IT s).1) (hkd : kd s = 2 ∨ kd s = 7 ∨ kd s = 8 ∨ kd s = 12 ∨ kd s = 17 ∨ kd s = 123) (hs : s < 20) (hg : kd s = 12 → (IT s).2.2.1 = 0 ∨ 6 ≤ (IT s).2.2.1) {t : List itT} (ht : X s = IT s :: t) : ∀ x, x ∈ wkC (IT s) (fSt po t) → x.2.1 = (IT s).2.1 ∧ x.2.2 = mkF pr po X Y f1 IT x.1 s := by
  intro x hx
  have hn : ¬ s = 4294967295 := by omega
  have mk : ∀ k, mkF pr po X Y f1 IT k s = imp9 (prF (IT s) k) (coF po X Y f1 (IT s) k s) := fun k => by
    unfold mkF
    rw [if_neg hn]
  by_cases c8 : kd s = 123
  · obtain ⟨t2, e1, e2⟩ := cl_cut (po := po) h c8
    have et : t2 = t := by
      rw [ht] at e1
      injection e1 with _ e1
      exact e1.symm
    subst et
    rw [e2] at hx
    rw [List.mem_singleton.mp hx]
    refine ⟨rfl, ?_⟩
    rw [mk]
    rfl
  · by_cases c5 : kd s = 12
    · obtain ⟨t2, e1, e2⟩ := cl_wh (po := po) h c5
      have et : t2 = t := by
        rw [ht] at e1
        injection e1 with _ e1
        exact e1.symm
      subst et
      rw [e2] at hx
      rcases List.mem_append.mp hx with hx | hx
      · rcases List.mem_cons.mp hx with hx | hx
        · rw [hx]
          refine ⟨rfl, ?_⟩
          rw [mk]; rfl
        · rw [List.mem_singleton.mp hx]
          refine ⟨rfl, ?_⟩
          rw [mk]; rfl
      · by_cases c6 : (IT s).2.2.1 < 6
        · rw [if_pos c6] at hx; exact absurd hx List.not_mem_nil
        · rw [if_neg c6] at hx
          rw [List.mem_singleton.mp hx]
          refine ⟨rfl, ?_⟩
          rw [mk]; rfl
    · rw [cl_no h (by omega)] at hx
      exact absurd hx List.not_mem_nil
/-- so are those of the whole program -/
theorem gCd_mk (hf : ∀ i, i < n → fst9 kd f1 f2 IT X Y i) (hk : ∀ i, i < n → kd i = 2 ∨ kd i = 7 ∨ kd i = 8 ∨ kd i = 12 ∨ kd i = 17 ∨ kd i = 123) (hn : n ≤ 20) (hg : ∀ i, i < n → kd i = 12 → (IT i).2.2.1 = 0 ∨ 6 ≤ (IT i).2.2.1) (hx : nxf IT X n) (hu : ∀ i, i < n → (IT i).2.1 = i + 1) : ∀ (d s : Nat), s + d + 1 = n → ∀ x, x ∈ gCd po (X s) → ∃ i, i < n ∧ x.2.1 = i + 1 ∧ x.2.2 = mkF pr po X Y f1 IT x.1 i
  | 0, s, hd, x, h => by
    obtain ⟨m, m1, m2⟩ := hx.2 (by omega)
    rw [show n - 1 = s by omega] at m2
    rw [m2] at h
    rcases List.mem_append.mp (show x ∈ wkC (IT s) (fSt po m) ++ gCd po m from h) with h | h
    · obtain ⟨a, b⟩ := wkC_mk (pr := pr) (hf s (by omega)) (hf s (by omega)).1.symm (hk s (by omega)) (by omega) (hg s (by omega)) m2 x h
      exact ⟨s, by omega, a.trans (hu s (by omega)), b⟩
    · have e := gCd_mrk (po := po) m [] m1
      rw [List.append_nil] at e
      rw [e] at h
      exact absurd h List.not_mem_nil
  | d + 1, s, hd, x, h => by
    obtain ⟨m, m1, m2⟩ := hx.1 s (by omega)
    have h' := h
    rw [m2] at h'
    rcases List.mem_append.mp (show x ∈ wkC (IT s) (fSt po (m ++ X (s + 1))) ++ gCd po (m ++ X (s + 1)) from h') with h | h
    · obtain ⟨a, b⟩ := wkC_mk (pr := pr) (hf s (by omega)) (hf s (by omega)).1.symm (hk s (by omega)) (by omega) (hg s (by omega)) m2 x h
      exact ⟨s, by omega, a.trans (hu s (by omega)), b⟩
    · rw [gCd_mrk m _ m1] at h
      exact gCd_mk hf hk hn hg hx hu d (s + 1) (by omega) x h
end GAL
/-- claim c of the class, condition c of the reference -/
theorem cll_at {k o : Nat → Nat} : ∀ (n c : Nat), c < n → ∀ (L : List cdT), cll k o n = L.map (fun x => (x.1, x.2.1)) → (cth L c).1 = k c ∧ (cth L c).2.1 = (o c + 1) % 4294967296
  | 0, _, h, _, _ => absurd h (Nat.not_lt_zero _)
  | n + 1, c, h, L, e => by
    have hl : L.length = n + 1 := by
      have := congrArg List.length e
      rw [List.length_map] at this
      rw [← this]
      clear this e h
      induction n with
      | zero => rfl
      | succ n ih =>
        show (cll k o (n + 1) ++ [_]).length = n + 1 + 1
        rw [List.length_append, ih]; rfl
    obtain ⟨M, x, rfl⟩ : ∃ M x, L = M ++ [x] := by
      cases hq : L.reverse with
      | nil =>
        have := congrArg List.length hq
        rw [List.length_reverse, hl] at this
        exact absurd this (by simp)
      | cons x M => exact ⟨M.reverse, x, by rw [← List.reverse_reverse L, hq, List.reverse_cons]⟩
    rw [List.length_append] at hl
    have hM : M.length = n := by
      have : M.length + 1 = n + 1 := hl
      omega
    rw [List.map_append] at e
    obtain ⟨e1, e2⟩ := List.append_inj' (show cll k o n ++ [(k n, (o n + 1) % 4294967296)] = M.map (fun x => (x.1, x.2.1)) ++ [(x.1, x.2.1)] from e) rfl
    by_cases ec : c = n
    · subst ec
      have e3 := cth_e (l := M) (c := x)
      rw [hM] at e3
      rw [e3]
      injection e2 with e2 _
      injection e2 with e4 e5
      exact ⟨e4.symm, e5.symm⟩
    · rw [cth_l (by omega)]
      exact cll_at n c (by omega) M e1
