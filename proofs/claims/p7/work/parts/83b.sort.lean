theorem cds.swap {kp : Nat → Int32} {ca cz : Nat → Nat} {cn kt Z j1 : Nat} (h : cds kp ca cz cn kt Z) (h1 : 1 ≤ j1) (h2 : j1 < cn) : cds kp (sup (sup ca j1 (ca (j1 - 1))) (j1 - 1) (ca j1)) (sup (sup cz j1 (cz (j1 - 1))) (j1 - 1) (cz j1)) cn kt Z := by
  intro c hc
  by_cases e : c = j1 - 1
  · subst e; rw [sup_eq, sup_eq]; exact h j1 h2
  · rw [sup_ne e, sup_ne e]
    by_cases e2 : c = j1
    · subst e2; rw [sup_eq, sup_eq]; exact h (c - 1) (by omega)
    · rw [sup_ne e2, sup_ne e2]; exact h c hc
