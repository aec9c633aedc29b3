theorem cpf_in0 {pl f : Nat → Int32} {k j : Nat} (h : j < k) : cpf pl f 0 k j = f j := by
  have := cpf_in (pl := pl) (f := f) (o1 := 0) h
  rw [Nat.zero_add] at this; exact this
def rpl (wk xwk : Nat → Int32) (p1 : Nat) (x2 : Int32) : Prop := (∀ j, j ≠ p1 → j ≠ p1 + 1 → xwk j = wk j) ∧ (xwk p1 = x2 ∨ xwk p1 = wk p1)
def sbo (wk wk' : Nat → Int32) (a : Nat) : Prop := (∀ j, j < 6 * a → wk j = wk' j) ∧ (∀ k, wk' (6 * k) = wk (6 * k)) ∧ (∀ k, nmo 10 (wk (6 * k + 1)) → nmo 10 (wk' (6 * k + 1))) ∧ (∀ k, nmo 10 (wk (6 * k + 4)) → nmo 10 (wk' (6 * k + 4)))
theorem sbo.rf {wk : Nat → Int32} {a : Nat} : sbo wk wk a := ⟨fun _ _ => rfl, fun _ => rfl, fun _ h => h, fun _ h => h⟩
theorem sbo.step {wk w1 w2 w3 : Nat → Int32} {a i : Nat} {x2 : Int32} (h : sbo wk w1 a) (hi : a ≤ i) (r1 : rpl w1 w2 (6 * i + 1) x2) (r2 : rpl w2 w3 (6 * i + 4) x2) (hx : nmo 10 x2) : sbo wk w3 a := by
  obtain ⟨h1, h2, h3, h4⟩ := h
  refine ⟨fun j hj => ?_, fun k => ?_, fun k hk => ?_, fun k hk => ?_⟩
  · rw [r2.1 j (by omega) (by omega), r1.1 j (by omega) (by omega)]; exact h1 j hj
  · rw [r2.1 _ (by omega) (by omega), r1.1 _ (by omega) (by omega)]; exact h2 k
  · rw [r2.1 _ (by omega) (by omega)]
    by_cases e : k = i
    · subst e
      rcases r1.2 with e | e
      · rw [e]; exact hx
      · rw [e]; exact h3 k hk
    · rw [r1.1 _ (by omega) (by omega)]; exact h3 k hk
  · by_cases e : k = i
    · subst e
      rcases r2.2 with e | e
      · rw [e]; exact hx
      · rw [e, r1.1 _ (by omega) (by omega)]; exact h4 k hk
    · rw [r2.1 _ (by omega) (by omega), r1.1 _ (by omega) (by omega)]; exact h4 k hk
theorem stk.sub {wk wk' : Nat → Int32} {tp : Nat → Nat} {t u : Nat} (h : stk wk tp (t + 1) u) (s : sbo wk wk' (tp t)) : stk wk' tp (t + 1) u :=
  ⟨h.1, h.2.1.sub (fun k _ => s.2.1 _) (fun k _ _ q => s.2.2.1 _ q) (fun k _ _ q => s.2.2.2 _ q), h.2.2.congr s.1 (fun _ _ => rfl)⟩
/-- the conditions that were kept -/
def cds (kp : Nat → Int32) (ca cz : Nat → Nat) (cn kt Z : Nat) : Prop := ∀ c, c < cn → fml kp (ca c) (cz c) ∧ ca c + cz c ≤ kt ∧ cz c ≤ Z
theorem cds.add {kp wk : Nat → Int32} {ca cz : Nat → Nat} {cn kt Z a n : Nat} (h : cds kp ca cz cn kt Z) (hf : fml wk a n) (hn : n ≤ Z) : cds (cpf kp (fun j => wk (6 * a + j)) (6 * kt) (6 * n)) (sup ca cn kt) (sup cz cn n) (cn + 1) (kt + n) Z := by
  intro c hc
  by_cases e : c = cn
  · subst e
    rw [sup_eq, sup_eq]
    exact ⟨hf.congr (fun j hj => by rw [cpf_in hj]), Nat.le_refl _, hn⟩
  · rw [sup_ne e, sup_ne e]
    obtain ⟨h1, h2, h3⟩ := h c (by omega)
    exact ⟨h1.congr (fun j hj => (cpf_out (by omega)).symm), by omega, h3⟩
