/-- the formulas on the stack, from its top -/
def stS (wk : Nat → Int32) (tp : Nat → Nat) : Nat → Nat → List (List sgT)
  | 0, _ => []
  | t + 1, u => sgl wk (6 * tp t) (u - tp t) :: stS wk tp t (tp t)
section STS
variable {wk wk' f : Nat → Int32} {tp tp' : Nat → Nat} {t u n b : Nat} {s : sgT}
theorem stS_congr {wk wk' : Nat → Int32} {tp tp' : Nat → Nat} : ∀ {t u : Nat}, stk wk tp t u → (∀ j, j < 6 * u → wk' j = wk j) → (∀ i, i < t → tp' i = tp i) → stS wk' tp' t u = stS wk tp t u
  | 0, _, _, _, _ => rfl
  | t + 1, u, ⟨h1, h2, h3⟩, hw, ht => by
    show sgl wk' (6 * tp' t) (u - tp' t) :: stS wk' tp' t (tp' t) = sgl wk (6 * tp t) (u - tp t) :: stS wk tp t (tp t)
    rw [ht t (by omega), stS_congr h3 (fun j hj => hw j (by omega)) (fun i hi => ht i (by omega)), sgl_congr (F := wk) (b := 6 * tp t) (fun j hj => hw _ (by omega))]
theorem stS_psh (h : stk wk tp t u) (hw : ∀ j, j < 6 * u → wk' j = wk j) (ht : ∀ i, i < t → tp' i = tp i) (e : tp' t = u) (hc : ∀ j, j < 6 * n → wk' (6 * u + j) = f (b + j)) : stS wk' tp' (t + 1) (u + n) = sgl f b n :: stS wk tp t u := by
  show sgl wk' (6 * tp' t) (u + n - tp' t) :: stS wk' tp' t (tp' t) = _
  rw [e, Nat.add_sub_cancel_left, stS_congr h hw ht, sgl_congr (F := f) (b := b) hc]
theorem stS_ps1 (h : stk wk tp t u) (hw : ∀ j, j < 6 * u → wk' j = wk j) (ht : ∀ i, i < t → tp' i = tp i) (e : tp' t = u) (hc : dec wk' (6 * u) = s) : stS wk' tp' (t + 1) (u + 1) = [s] :: stS wk tp t u := by
  show sgl wk' (6 * tp' t) (u + 1 - tp' t) :: stS wk' tp' t (tp' t) = _
  rw [e, Nat.add_sub_cancel_left, stS_congr h hw ht]
  show [dec wk' (6 * u + 6 * 0)] :: _ = _
  rw [show 6 * u + 6 * 0 = 6 * u by omega, hc]
theorem stS_op1 (h : stk wk tp (t + 1) u) (hw : ∀ j, j < 6 * u → wk' j = wk j) (hc : dec wk' (6 * u) = s) : stS wk' tp (t + 1) (u + 1) = (hd9 (stS wk tp (t + 1) u) ++ [s]) :: tl9 (stS wk tp (t + 1) u) := by
  obtain ⟨h1, h2, h3⟩ := h
  show sgl wk' (6 * tp t) (u + 1 - tp t) :: stS wk' tp t (tp t) = (sgl wk (6 * tp t) (u - tp t) ++ [s]) :: stS wk tp t (tp t)
  rw [show u + 1 - tp t = (u - tp t) + 1 by omega, sgl_snoc, show 6 * tp t + 6 * (u - tp t) = 6 * u by omega, hc, stS_congr h3 (fun j hj => hw j (by omega)) (fun _ _ => rfl), sgl_congr (F := wk) (b := 6 * tp t) (fun j hj => hw _ (by omega))]
theorem stS_un (h : stk wk tp (t + 2) u) (hw : ∀ j, j < 6 * u → wk' j = wk j) (hc : dec wk' (6 * u) = s) : stS wk' tp (t + 1) (u + 1) = (hd9 (tl9 (stS wk tp (t + 2) u)) ++ hd9 (stS wk tp (t + 2) u) ++ [s]) :: tl9 (tl9 (stS wk tp (t + 2) u)) := by
  obtain ⟨h1, h2, h3, h4, h5⟩ := h
  show sgl wk' (6 * tp t) (u + 1 - tp t) :: stS wk' tp t (tp t) = (sgl wk (6 * tp t) (tp (t + 1) - tp t) ++ sgl wk (6 * tp (t + 1)) (u - tp (t + 1)) ++ [s]) :: stS wk tp t (tp t)
  rw [show u + 1 - tp t = (tp (t + 1) - tp t + (u - tp (t + 1))) + 1 by omega, sgl_snoc, show 6 * tp t + 6 * (tp (t + 1) - tp t + (u - tp (t + 1))) = 6 * u by omega, hc, sgl_add, show 6 * tp t + 6 * (tp (t + 1) - tp t) = 6 * tp (t + 1) by omega, stS_congr h5 (fun j hj => hw j (by omega)) (fun _ _ => rfl), sgl_congr (F := wk) (b := 6 * tp t) (fun j hj => hw _ (by omega)), sgl_congr (F := wk) (b := 6 * tp (t + 1)) (fun j hj => hw _ (by omega))]
theorem stS_swp (h : stk wk tp (t + 2) u) (h1 : ∀ j, j < 6 * tp t → wk' j = wk j) (h2 : ∀ j, j < 6 * (u - tp (t + 1)) → wk' (6 * tp t + j) = wk (6 * tp (t + 1) + j)) (h3 : ∀ j, j < 6 * (tp (t + 1) - tp t) → wk' (6 * (tp t + (u - tp (t + 1))) + j) = wk (6 * tp t + j)) (ht : ∀ i, i ≤ t → tp' i = tp i) (e : tp' (t + 1) = tp t + (u - tp (t + 1))) : stS wk' tp' (t + 2) u = hd9 (tl9 (stS wk tp (t + 2) u)) :: hd9 (stS wk tp (t + 2) u) :: tl9 (tl9 (stS wk tp (t + 2) u)) := by
  obtain ⟨k1, k2, k3, k4, k5⟩ := h
  show sgl wk' (6 * tp' (t + 1)) (u - tp' (t + 1)) :: sgl wk' (6 * tp' t) (tp' (t + 1) - tp' t) :: stS wk' tp' t (tp' t) = sgl wk (6 * tp t) (tp (t + 1) - tp t) :: sgl wk (6 * tp (t + 1)) (u - tp (t + 1)) :: stS wk tp t (tp t)
  rw [e, ht t (Nat.le_refl _), show u - (tp t + (u - tp (t + 1))) = tp (t + 1) - tp t by omega, show tp t + (u - tp (t + 1)) - tp t = u - tp (t + 1) by omega, stS_congr k5 (fun j hj => h1 j hj) (fun i hi => ht i (by omega)), sgl_congr (F := wk) (b := 6 * tp t) (fun j hj => h3 j hj), sgl_congr (F := wk) (b := 6 * tp (t + 1)) (fun j hj => h2 j hj)]
theorem stS_cpy (h : stk wk tp (t + 1) u) (hw : ∀ j, j < 6 * u → wk' j = wk j) (ht : ∀ i, i < t + 1 → tp' i = tp i) (e : tp' (t + 1) = u) (hc : ∀ j, j < 6 * (u - tp t) → wk' (6 * u + j) = wk (6 * tp t + j)) : stS wk' tp' (t + 2) (u + (u - tp t)) = hd9 (stS wk tp (t + 1) u) :: stS wk tp (t + 1) u := stS_psh h hw ht e hc
end STS
theorem pa_dec {f : Nat → Int32} {o1 : Nat} {a1 a2 a3 a4 a5 : Int32} (hc : cok8 a3) : dec (upd (upd (upd (upd (upd (upd f o1 0) (o1 + 1) a1) (o1 + 2) a2) (o1 + 3) a3) (o1 + 4) a4) (o1 + 5) a5) o1 = (wcd a3, (nmI a1, a2), (nmI a4, a5)) := by
  unfold dec
  have e0 : (upd (upd (upd (upd (upd (upd f o1 0) (o1 + 1) a1) (o1 + 2) a2) (o1 + 3) a3) (o1 + 4) a4) (o1 + 5) a5) o1 = 0 := by simp [upd]
  rw [e0, if_pos rfl]
  simp [upd, tm48_y hc]
