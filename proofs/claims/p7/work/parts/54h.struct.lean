/-- the sort of an item, by its statement's -/
def knI (q : Nat) : Nat := if q = 2 then 0 else if q = 7 then 1 else if q = 8 then 2 else if q = 12 then 5 else if q = 17 then 7 else 8
/-- a statement that is read: all from it on (X), all behind it (Y) -/
def fst9 (kd f1 f2 : Nat → Nat) (IT : Nat → itT) (X Y : Nat → List itT) (s : Nat) : Prop :=
  (IT s).1 = knI (kd s) ∧ ((kd s = 2 ∨ kd s = 7 ∨ kd s = 17 ∨ kd s = 123) → X s = IT s :: Y s) ∧ (kd s = 8 → ∃ S U : List itT, bal S ∧ bal U ∧ X s = IT s :: X (f1 s) ∧ X (f1 s) = S ++ it3 :: X (f2 s) ∧ X (f2 s) = U ++ it4 :: Y s) ∧ (kd s = 12 → ∃ S : List itT, bal S ∧ X s = IT s :: X (f1 s) ∧ X (f1 s) = S ++ odI (IT s) :: Y s)
/-- what follows it: another; the end of what is around it, o; or it is still awaited (w) -/
def snd9 (kd ow sb : Nat → Nat) (IT : Nat → itT) (X Y : Nat → List itT) (w : Nat) (s : Nat) : Prop :=
  (¬ sb s = 4294967295 → X (sb s) = Y s) ∧ (sb s = 4294967295 → (ow s = w ∧ Y s = []) ∨ (kd (ow s) = 12 ∧ Y s = odI (IT (ow s)) :: Y (ow s)) ∨ (kd (ow s) = 8 ∧ (Y s = it4 :: Y (ow s) ∨ ∃ U : List itT, bal U ∧ Y s = it3 :: (U ++ it4 :: Y (ow s)))))
/-- the items in their order -/
def mrk (m : List itT) : Prop := ∀ x, x ∈ m → x.1 = 3 ∨ x.1 = 4 ∨ x.1 = 6
def nxf (IT : Nat → itT) (X : Nat → List itT) (n : Nat) : Prop := (∀ s, s + 1 < n → ∃ m, mrk m ∧ X s = IT s :: (m ++ X (s + 1))) ∧ (1 ≤ n → ∃ m, mrk m ∧ X (n - 1) = IT (n - 1) :: m)
section ST9
variable {kd ow sb f1 f2 kd' ow' sb' f1' f2' : Nat → Nat} {IT IT' : Nat → itT} {X Y X' Y' : Nat → List itT} {s w n : Nat} {Z : List itT} {po : List sgT}
theorem mrk_0 : mrk [] := fun x h => absurd h List.not_mem_nil
theorem mrk.app {m m2 : List itT} (h : mrk m) (h2 : mrk m2) : mrk (m ++ m2) := fun x hx => (List.mem_append.mp hx).elim (h x) (h2 x)
theorem mrk_1 {x : itT} (h : x.1 = 3 ∨ x.1 = 4 ∨ x.1 = 6) : mrk [x] := fun y hy => by rw [List.mem_singleton.mp hy]; exact h
/-- more is read: everything grows at its end -/
theorem fst9.grow (h : fst9 kd f1 f2 IT X Y s) (e1 : kd' s = kd s) (e2 : f1' s = f1 s) (e3 : f2' s = f2 s) (e4 : IT' s = IT s) (e5 : X' s = X s ++ Z) (e6 : Y' s = Y s ++ Z) (e7 : kd s = 8 ∨ kd s = 12 → X' (f1 s) = X (f1 s) ++ Z) (e8 : kd s = 8 → X' (f2 s) = X (f2 s) ++ Z) : fst9 kd' f1' f2' IT' X' Y' s := by
  obtain ⟨a0, a1, a2, a3⟩ := h
  unfold fst9
  rw [e1, e2, e3, e4, e5, e6]
  refine ⟨a0, fun q => ?_, fun q => ?_, fun q => ?_⟩
  · rw [a1 q]; rfl
  · obtain ⟨S, U, b1, b2, b3, b4, b5⟩ := a2 q
    refine ⟨S, U, b1, b2, ?_, ?_, ?_⟩
    · rw [e7 (Or.inl q), b3]; rfl
    · rw [e7 (Or.inl q), e8 q, b4, List.append_assoc]; rfl
    · rw [e8 q, b5, List.append_assoc]; rfl
  · obtain ⟨S, b1, b3, b4⟩ := a3 q
    refine ⟨S, b1, ?_, ?_⟩
    · rw [e7 (Or.inr q), b3]; rfl
    · rw [e7 (Or.inr q), b4, List.append_assoc]; rfl
theorem snd9.grow (h : snd9 kd ow sb IT X Y w s) (hw : ¬ (sb s = 4294967295 ∧ ow s = w)) (e1 : ow' s = ow s) (e2 : sb' s = sb s) (e6 : Y' s = Y s ++ Z) (e7 : ¬ sb s = 4294967295 → X' (sb s) = X (sb s) ++ Z) (e8 : sb s = 4294967295 → kd' (ow s) = kd (ow s) ∧ IT' (ow s) = IT (ow s) ∧ Y' (ow s) = Y (ow s) ++ Z) {w' : Nat} : snd9 kd' ow' sb' IT' X' Y' w' s := by
  obtain ⟨a1, a2⟩ := h
  unfold snd9
  rw [e1, e2, e6]
  refine ⟨fun q => ?_, fun q => ?_⟩
  · rw [e7 q, a1 q]
  · obtain ⟨c1, c2, c3⟩ := e8 q
    rw [c1, c2, c3]
    rcases a2 q with ⟨d1, d2⟩ | ⟨d1, d2⟩ | ⟨d1, d2⟩
    · exact absurd ⟨q, d1⟩ hw
    · exact Or.inr (Or.inl ⟨d1, by rw [d2]; rfl⟩)
    · refine Or.inr (Or.inr ⟨d1, ?_⟩)
      rcases d2 with d2 | ⟨U, d3, d4⟩
      · exact Or.inl (by rw [d2]; rfl)
      · exact Or.inr ⟨U, d3, by rw [d4]; show it3 :: (U ++ it4 :: Y (ow s) ++ Z) = _; rw [List.append_assoc]; rfl⟩
theorem nxf.mark {z : itT} (h : nxf IT X n) (hz : z.1 = 3 ∨ z.1 = 4 ∨ z.1 = 6) : nxf IT (fun s => X s ++ [z]) n := by
  refine ⟨fun s hs => ?_, fun hn => ?_⟩
  · obtain ⟨m, a, b⟩ := h.1 s hs
    refine ⟨m, a, ?_⟩
    show X s ++ [z] = _
    rw [b]
    show IT s :: (m ++ X (s + 1) ++ [z]) = _
    rw [List.append_assoc]
  · obtain ⟨m, a, b⟩ := h.2 hn
    refine ⟨m ++ [z], a.app (mrk_1 hz), ?_⟩
    show X (n - 1) ++ [z] = _
    rw [b]; rfl
/-- the formulas -/
theorem eq_set (h : fst9 kd f1 f2 IT X Y s) (hk : kd s = 2) : fFm po (X s) = sbL (IT s).2.2.1 (IT s).2.2.2.1 (fFm po (Y s)) := by
  rw [h.2.1 (Or.inl hk)]
  exact fm_0 (by rw [h.1, hk]; rfl)
theorem eq_skp (h : fst9 kd f1 f2 IT X Y s) (hk : kd s = 7) : fFm po (X s) = fFm po (Y s) := by
  rw [h.2.1 (Or.inr (Or.inl hk))]
  exact fm_1 (by rw [h.1, hk]; rfl)
theorem eq_asr (h : fst9 kd f1 f2 IT X Y s) (hk : kd s = 17) : fFm po (X s) = (IT s).2.2.2.2.1 ++ fFm po (Y s) ++ [opS 2] := by
  rw [h.2.1 (Or.inr (Or.inr (Or.inl hk)))]
  exact fm_7 (by rw [h.1, hk]; rfl)
theorem eq_cut (h : fst9 kd f1 f2 IT X Y s) (hk : kd s = 123) : fFm po (X s) = (IT s).2.2.2.2.1 := by
  rw [h.2.1 (Or.inr (Or.inr (Or.inr hk)))]
  exact fm_8 (by rw [h.1, hk]; rfl)
theorem eq_if (h : fst9 kd f1 f2 IT X Y s) (hk : kd s = 8) : fFm po (X s) = ifF (IT s).2.2.2.2.1 (fFm po (X (f1 s))) (fFm po (X (f2 s))) := by
  obtain ⟨S, U, b1, b2, b3, b4, b5⟩ := h.2.2.1 hk
  rw [b3, b4, b5]
  exact fm_if (by rw [h.1, hk]; rfl) b1 b2
theorem eq_wh (h : fst9 kd f1 f2 IT X Y s) (hk : kd s = 12) : fFm po (X s) = (IT s).2.2.2.2.2 := by
  obtain ⟨S, b1, b3, b4⟩ := h.2.2.2 hk
  rw [b3]
  exact fm_wl (by rw [h.1, hk]; rfl)
theorem eq_sib (h : snd9 kd ow sb IT X Y w s) (hs : ¬ sb s = 4294967295) : fFm po (Y s) = fFm po (X (sb s)) := by
  rw [h.1 hs]
theorem eq_own (h : snd9 kd ow sb IT X Y w s) (hs : sb s = 4294967295) (hw : ¬ ow s = w) (hk : ¬ kd (ow s) = 12) : fFm po (Y s) = fFm po (Y (ow s)) := by
  rcases h.2 hs with ⟨d1, _⟩ | ⟨d1, _⟩ | ⟨_, d2⟩
  · exact absurd d1 hw
  · exact absurd d1 hk
  · rcases d2 with d2 | ⟨U, d3, d4⟩
    · rw [d2, fm_fi]
    · rw [d4, fm_el d3]
theorem eq_bod (h : snd9 kd ow sb IT X Y w s) (hs : sb s = 4294967295) (hw : ¬ ow s = w) (hk : kd (ow s) = 12) : fFm po (Y s) = odF (IT (ow s)) := by
  rcases h.2 hs with ⟨d1, _⟩ | ⟨_, d2⟩ | ⟨d1, _⟩
  · exact absurd d1 hw
  · rw [d2]; exact fm_od rfl
  · omega
theorem eq_end (h : snd9 kd ow sb IT X Y w s) (hs : sb s = 4294967295) (hw : ow s = w) (hn : ¬ kd w = 12 ∧ ¬ kd w = 8) : fFm po (Y s) = po := by
  rcases h.2 hs with ⟨_, d2⟩ | ⟨d1, _⟩ | ⟨d1, _⟩
  · rw [d2]; rfl
  · rw [hw] at d1; exact absurd d1 hn.1
  · rw [hw] at d1; exact absurd d1 hn.2
/-- the conditions of one statement -/
theorem cl_cut (h : fst9 kd f1 f2 IT X Y s) (hk : kd s = 123) : ∃ t, X s = IT s :: t ∧ wkC (IT s) (fSt po t) = [(4, (IT s).2.1, imp9 (IT s).2.2.2.2.1 (fFm po (Y s)))] := by
  refine ⟨Y s, h.2.1 (Or.inr (Or.inr (Or.inr hk))), ?_⟩
  unfold wkC
  rw [if_pos (by rw [h.1, hk]; rfl)]; rfl
theorem cl_wh (h : fst9 kd f1 f2 IT X Y s) (hk : kd s = 12) : ∃ t, X s = IT s :: t ∧ wkC (IT s) (fSt po t) = [(1, (IT s).2.1, imp9 (whF (IT s)) (fFm po (X (f1 s)))), (2, (IT s).2.1, imp9 ((IT s).2.2.2.2.2 ++ ((IT s).2.2.2.2.1 ++ [opS 1]) ++ [opS 2]) (fFm po (Y s)))] ++ (if (IT s).2.2.1 < 6 then [] else [(3, (IT s).2.1, imp9 ((IT s).2.2.2.2.2 ++ (IT s).2.2.2.2.1 ++ [opS 2]) [(1, (IT s).2.2.2.1, (10, 0))])]) := by
  obtain ⟨S, b1, b3, b4⟩ := h.2.2.2 hk
  refine ⟨X (f1 s), b3, ?_⟩
  have h5 : (IT s).1 = 5 := by rw [h.1, hk]; rfl
  unfold wkC
  rw [if_neg (by omega), if_pos h5]
  have e : hd9 (tl9 (fSt po (X (f1 s)))) = fFm po (Y s) := by
    rw [b4, tl_wl rfl b1]; rfl
  rw [e]; rfl
theorem cl_no (h : fst9 kd f1 f2 IT X Y s) (hk : kd s = 2 ∨ kd s = 7 ∨ kd s = 8 ∨ kd s = 17) {S : List (List sgT)} : wkC (IT s) S = [] := by
  unfold wkC
  have h1 := h.1
  rw [if_neg (by rcases hk with k | k | k | k <;> rw [h1, k] <;> decide), if_neg (by rcases hk with k | k | k | k <;> rw [h1, k] <;> decide)]
end ST9
