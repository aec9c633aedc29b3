/-- the signs of PRE (0) or POST (1) -/
def tls (tx : Nat → Int32) (tz nw : Nat → Nat) (wh : Nat) : List sgT := sgl tx (768 * nw wh) (tz (nw wh))
section TLS
variable {tx f : Nat → Int32} {tz nw : Nat → Nat} {wh wo ot q : Nat}
theorem tls_new : tls (cpf tx f (768 * ot) (6 * q)) (sup tz ot q) (sup nw wh ot) wh = sgl f 0 q := by
  unfold tls
  rw [sup_eq, sup_eq]
  exact sgl_congr (fun j hj => by rw [cpf_in hj, Nat.zero_add])
theorem tls_old (h : txo tx tz nw wo) (h1 : 2 * wh ≤ ot) (h2 : ot ≤ 2 * wh + 1) (hq : q ≤ 96) (hn : wo ≠ wh) : tls (cpf tx f (768 * ot) (6 * q)) (sup tz ot q) (sup nw wh ot) wo = tls tx tz nw wo := by
  obtain ⟨a1, a2, a3, a4, a5⟩ := h
  have e1 : sup nw wh ot wo = nw wo := sup_ne hn
  have e2 : sup tz ot q (nw wo) = tz (nw wo) := sup_ne (by omega)
  unfold tls
  rw [e1, e2]
  exact sgl_congr (fun j hj => cpf_out (by omega))
/-- both texts behind a call: one of them may be new -/
def tlk (tx tx' : Nat → Int32) (tz nw tz' nw' : Nat → Nat) (wh u : Nat) : Prop := ∀ w, w ≤ 1 → (w ≠ wh ∨ ¬ u = 0) → tls tx' tz' nw' w = tls tx tz nw w
theorem tlk.rf {u : Nat} : tlk tx tx tz nw tz nw wh u := fun _ _ _ => rfl
theorem tlk_new (h0 : txo tx tz nw 0) (h1 : txo tx tz nw 1) (o1 : 2 * wh ≤ ot) (o2 : ot ≤ 2 * wh + 1) (hq : q ≤ 96) : tlk tx (cpf tx f (768 * ot) (6 * q)) tz nw (sup tz ot q) (sup nw wh ot) wh 0 := by
  intro w hw hn
  have hn2 : w ≠ wh := hn.resolve_right (fun c => c rfl)
  refine tls_old ?_ o1 o2 hq hn2
  rcases Nat.eq_or_lt_of_le hw with e | e
  · rw [e]; exact h1
  · rw [show w = 0 by omega]; exact h0
end TLS
theorem anl_n {g : Nat → Nat} {n b b1 e1 k1 v1 c q : Nat} {F : Nat → Int32} {m : List sgT} (hb : b = nxB g n 0) (h : rgR (kd g n) (nxt g n) (kv g n) 0 true b [] [] 0 (c, b1, sg9 c F q)) (hf : c = 0) (hq : tkq g n b1 e1 k1 v1) (hk : k1 = 0) (hm : m = sgl F 0 q) : ansL g n 0 m := by
  have := anl_0 hb h hf hq hk
  rw [sg9_0 hf, ← hm] at this
  exact this
/-- a text that is taken: nothing is made any more -/
def imz (r x : Nat) : Prop := r = 0 → x = 0
