/-- a term replaced, or not -/
def rpx (wk xwk : Nat → Int32) (p1 : Nat) (x1 x2 x3 : Int32) : Prop := (wk p1 = x1 ∧ xwk p1 = x2 ∧ xwk (p1 + 1) = wk (p1 + 1) + x3 ∧ ∀ j, j ≠ p1 → j ≠ p1 + 1 → xwk j = wk j) ∨ (¬ wk p1 = x1 ∧ ∀ j, xwk j = wk j)
theorem wcd_le (w : Int32) : wcd w < 6 := by
  unfold wcd
  (repeat' split) <;> decide
theorem nmI_eq {x : Int32} {v : Nat} (h : nmo 10 x) (hv : v < 6) : nmI x = v ↔ x = nI v := by
  rcases h with e | ⟨q, hq, e⟩
  · subst e
    rw [nmI_m]
    constructor
    · intro c; omega
    · intro c
      have : nmI (-1) = nmI (nI v) := by rw [← c]
      rw [nmI_m, nmI_n (by omega)] at this; omega
  · subst e
    rw [nmI_n hq]
    constructor
    · intro c; rw [c]
    · intro c
      have : nmI (nI q) = nmI (nI v) := by rw [c]
      rw [nmI_n hq, nmI_n (by omega)] at this; exact this
/-- signs a to i - 1 with the term put in -/
def sbq (wk wk1 : Nat → Int32) (a i v : Nat) (t : Nat × Int32) : Prop := (∀ j, j < 6 * a → wk1 j = wk j) ∧ (∀ k, a ≤ k → k < i → dec wk1 (6 * k) = sbS v t (dec wk (6 * k))) ∧ (∀ j, 6 * i ≤ j → wk1 j = wk j)
section SBQ
variable {wk w1 w2 w3 : Nat → Int32} {a i v u : Nat} {x1 x2 x3 : Int32} {t : Nat × Int32} {tp : Nat → Nat}
theorem sbq_0 : sbq wk wk a a v t := ⟨fun _ _ => rfl, fun k h1 h2 => absurd h2 (by omega), fun _ _ => rfl⟩
theorem sbq_n (h : sbq wk w1 a i v t) (hi : a ≤ i) (h0 : ¬ w1 (6 * i) = 0) : sbq wk w1 a (i + 1) v t := by
  obtain ⟨b1, b2, b3⟩ := h
  refine ⟨b1, fun k c1 c2 => ?_, fun j hj => b3 j (by omega)⟩
  by_cases e : k = i
  · subst e
    have e1 : dec w1 (6 * k) = dec wk (6 * k) := dec_congr (fun j hj => b3 _ (by omega))
    have hc : ¬ (dec wk (6 * k)).1 < 6 := by
      rw [← e1]
      unfold dec
      rw [if_neg h0]
      (repeat' split) <;> decide
    rw [e1]
    unfold sbS
    rw [if_neg hc]
  · exact b2 k c1 (by omega)
theorem sbq_a (h : sbq wk w1 a i v t) (hi : a ≤ i) (h0 : w1 (6 * i) = 0) (n1 : nmo 10 (wk (6 * i + 1))) (n4 : nmo 10 (wk (6 * i + 4))) (hx : x1 = nI v) (hv : v < 6) (ht : t = (nmI x2, x3)) (r1 : rpx w1 w2 (6 * i + 1) x1 x2 x3) (r2 : rpx w2 w3 (6 * i + 4) x1 x2 x3) : sbq wk w3 a (i + 1) v t := by
  obtain ⟨b1, b2, b3⟩ := h
  have f1 : ∀ j, j ≠ 6 * i + 1 → j ≠ 6 * i + 2 → w2 j = w1 j := by
    rcases r1 with ⟨_, _, _, c⟩ | ⟨_, c⟩
    · exact fun j p q => c j p q
    · exact fun j _ _ => c j
  have f2 : ∀ j, j ≠ 6 * i + 4 → j ≠ 6 * i + 5 → w3 j = w2 j := by
    rcases r2 with ⟨_, _, _, c⟩ | ⟨_, c⟩
    · exact fun j p q => c j p q
    · exact fun j _ _ => c j
  have f3 : ∀ j, (j < 6 * i ∨ 6 * i + 6 ≤ j) → w3 j = w1 j := fun j hj => (f2 j (by omega) (by omega)).trans (f1 j (by omega) (by omega))
  refine ⟨fun j hj => (f3 j (by omega)).trans (b1 j hj), fun k c1 c2 => ?_, fun j hj => (f3 j (by omega)).trans (b3 j (by omega))⟩
  by_cases e : k = i
  · subst e
    have g0 : w3 (6 * k) = 0 := by rw [f2 _ (by omega) (by omega), f1 _ (by omega) (by omega), h0]
    have k0 : wk (6 * k) = 0 := by rw [← b3 _ (by omega), h0]
    have g3 : w3 (6 * k + 3) = wk (6 * k + 3) := by rw [f2 _ (by omega) (by omega), f1 _ (by omega) (by omega), b3 _ (by omega)]
    have p1 : (nmI (w3 (6 * k + 1)), w3 (6 * k + 2)) = sbT v t (nmI (wk (6 * k + 1)), wk (6 * k + 2)) := by
      unfold sbT
      rw [f2 _ (by omega) (by omega), f2 (6 * k + 2) (by omega) (by omega)]
      rcases r1 with ⟨c1, c2, c3, _⟩ | ⟨c1, c2⟩
      · rw [b3 _ (by omega), hx] at c1
        have c3' : w2 (6 * k + 2) = w1 (6 * k + 2) + x3 := c3
        rw [if_pos ((nmI_eq n1 hv).mpr c1), c2, c3', ht, b3 _ (by omega)]
      · rw [b3 _ (by omega), hx] at c1
        rw [if_neg (fun q => c1 ((nmI_eq n1 hv).mp q)), c2, c2, b3 _ (by omega), b3 _ (by omega)]
    have p4 : (nmI (w3 (6 * k + 4)), w3 (6 * k + 5)) = sbT v t (nmI (wk (6 * k + 4)), wk (6 * k + 5)) := by
      unfold sbT
      rcases r2 with ⟨c1, c2, c3, _⟩ | ⟨c1, c2⟩
      · rw [f1 _ (by omega) (by omega), b3 _ (by omega), hx] at c1
        have c3' : w3 (6 * k + 5) = w2 (6 * k + 5) + x3 := c3
        rw [if_pos ((nmI_eq n4 hv).mpr c1), c2, c3', ht, f1 _ (by omega) (by omega), b3 _ (by omega)]
      · rw [f1 _ (by omega) (by omega), b3 _ (by omega), hx] at c1
        rw [if_neg (fun q => c1 ((nmI_eq n4 hv).mp q)), c2, c2, f1 _ (by omega) (by omega), f1 (6 * k + 5) (by omega) (by omega), b3 _ (by omega), b3 _ (by omega)]
    have p5 : tm48 (wk (6 * k + 3)) (w3 (6 * k + 4)) (w3 (6 * k + 5)) = sbT v t (tm48 (wk (6 * k + 3)) (wk (6 * k + 4)) (wk (6 * k + 5))) := by
      by_cases hc : cok8 (wk (6 * k + 3))
      · rw [tm48_y hc, tm48_y hc]; exact p4
      · rw [tm48_n hc, tm48_n hc]
        unfold sbT
        rw [if_neg (show ¬ (99 : Nat) = v by omega)]
    unfold dec
    rw [if_pos g0, if_pos k0]
    unfold sbS
    rw [if_pos (wcd_le _), g3, p1, p5]
  · have e2 : dec w3 (6 * k) = dec w1 (6 * k) := dec_congr (fun j hj => f3 _ (by omega))
    rw [e2]
    exact b2 k c1 (by omega)
theorem fml_nm {n : Nat} (h : fml wk a n) (h1 : a ≤ i) (h2 : i < a + n) (h0 : wk (6 * i) = 0) : nmo 10 (wk (6 * i + 1)) ∧ nmo 10 (wk (6 * i + 4)) := by
  have := h.1 (i - a) (by omega)
  rw [show 6 * a + 6 * (i - a) = 6 * i by omega, h0] at this
  rcases this with ⟨_, c⟩ | ⟨c, _⟩ | ⟨c, _⟩
  · exact c
  · exact absurd c (by decide)
  · rcases c with c | c <;> exact absurd c (by decide)
theorem slf_map {f f' : Nat → sgT} {a : Nat} {h : sgT → sgT} : ∀ n, (∀ j, j < n → f' (a + j) = h (f (a + j))) → slf f' a n = (slf f a n).map h
  | 0, _ => rfl
  | n + 1, q => by
    show slf f' a n ++ [f' (a + n)] = (slf f a n ++ [f (a + n)]).map h
    rw [List.map_append, slf_map n (fun j hj => q j (by omega)), q n (Nat.lt_succ_self n)]; rfl
theorem stS_sub (h : stk wk tp (u + 1) i) (hs : sbq wk w1 (tp u) i v t) : stS w1 tp (u + 1) i = sbL v t (hd9 (stS wk tp (u + 1) i)) :: tl9 (stS wk tp (u + 1) i) := by
  obtain ⟨h1, h2, h3⟩ := h
  obtain ⟨b1, b2, b3⟩ := hs
  show sgl w1 (6 * tp u) (i - tp u) :: stS w1 tp u (tp u) = sbL v t (sgl wk (6 * tp u) (i - tp u)) :: stS wk tp u (tp u)
  rw [stS_congr h3 b1 (fun _ _ => rfl)]
  congr 1
  exact slf_map _ (fun j hj => by
    show dec w1 (6 * tp u + 6 * (0 + j)) = sbS v t (dec wk (6 * tp u + 6 * (0 + j)))
    rw [show 6 * tp u + 6 * (0 + j) = 6 * (tp u + j) by omega]
    exact b2 _ (by omega) (by omega))
theorem rpx_y {wk : Nat → Int32} {p1 : Nat} (h : wk p1 = x1) : rpx wk (upd (upd wk p1 x2) (p1 + 1) (upd wk p1 x2 (p1 + 1) + x3)) p1 x1 x2 x3 := Or.inl ⟨h, by rw [upd_ne (by omega), upd_eq], by rw [upd_eq, upd_ne (by omega)], fun j a b => by rw [upd_ne b, upd_ne a]⟩
end SBQ
/-- a condition that was kept, and all of them -/
def cdD (ck cm ca cz : Nat → Nat) (kp : Nat → Int32) (c : Nat) : cdT := (ck c, cm c, sgl kp (6 * ca c) (cz c))
def cdl (ck cm ca cz : Nat → Nat) (kp : Nat → Int32) : Nat → List cdT
  | 0 => []
  | c + 1 => cdl ck cm ca cz kp c ++ [cdD ck cm ca cz kp c]
theorem cdl_add {ck cm ca cz : Nat → Nat} {kp f : Nat → Int32} {cn kt Z n w1 nn : Nat} (h : cds kp ca cz cn kt Z) : cdl (sup ck cn w1) (sup cm cn nn) (sup ca cn kt) (sup cz cn n) (cpf kp f (6 * kt) (6 * n)) (cn + 1) = cdl ck cm ca cz kp cn ++ [(w1, nn, sgl f 0 n)] := by
  have hk : ∀ c, c ≤ cn → cdl (sup ck cn w1) (sup cm cn nn) (sup ca cn kt) (sup cz cn n) (cpf kp f (6 * kt) (6 * n)) c = cdl ck cm ca cz kp c := by
    intro c
    induction c with
    | zero => intro _; rfl
    | succ c ih =>
      intro hc
      show cdl _ _ _ _ _ c ++ [cdD _ _ _ _ _ c] = cdl ck cm ca cz kp c ++ [cdD ck cm ca cz kp c]
      rw [ih (by omega)]
      obtain ⟨_, h2, _⟩ := h c (by omega)
      unfold cdD
      rw [sup_ne (by omega), sup_ne (by omega), sup_ne (by omega), sup_ne (by omega), sgl_congr (F := kp) (b := 6 * ca c) (fun j hj => cpf_out (by omega))]
  show cdl _ _ _ _ _ cn ++ [cdD _ _ _ _ _ cn] = _
  rw [hk cn (Nat.le_refl _)]
  unfold cdD
  rw [sup_eq, sup_eq, sup_eq, sup_eq, sgl_congr (F := f) (b := 0) (fun j hj => by rw [cpf_in hj, Nat.zero_add])]
theorem sgl_sh {wk : Nat → Int32} {b n : Nat} : sgl (fun j => wk (b + j)) 0 n = sgl wk b n := sgl_congr (F := wk) (b := b) (F' := fun j => wk (b + j)) (b' := 0) (fun j _ => by rw [Nat.zero_add])
theorem wcd_0 : wcd 0 = 0 := by decide
theorem wcd_2 : wcd 2 = 4 := by decide
theorem wcd_4 : wcd 4 = 1 := by decide
/-- what a while's body has to come to -/
def odq (v : Int32) (gh : Nat) (t : Nat × Int32) (m : List sgT) : List sgT := if v = 0 then m else m ++ [(0, t, (gh, 0))] ++ [opS 2]
section WKW
variable {v : Int32} {n gh : Nat} {t : Nat × Int32} {b m : List sgT} {S : List (List sgT)}
theorem wkC_w0 (h : v = 0) : wkC (5, n, if v = 0 then 0 else gh, if v = 0 then (0, 0) else t, b, m) S = [(1, n, imp9 (m ++ b ++ [opS 2]) (hd9 S)), (2, n, imp9 (m ++ (b ++ [opS 1]) ++ [opS 2]) (hd9 (tl9 S)))] := by
  rw [if_pos h, if_pos h]
  rfl
theorem wkC_w1 (h : ¬ v = 0) (hg : 6 ≤ gh) : wkC (5, n, if v = 0 then 0 else gh, if v = 0 then (0, 0) else t, b, m) S = [(1, n, imp9 (m ++ b ++ [opS 2] ++ [(4, t, (gh, 0))] ++ [opS 2]) (hd9 S)), (2, n, imp9 (m ++ (b ++ [opS 1]) ++ [opS 2]) (hd9 (tl9 S))), (3, n, imp9 (m ++ b ++ [opS 2]) [(1, t, (10, 0))])] := by
  rw [if_neg h, if_neg h]
  have hn : ¬ gh < 6 := by omega
  unfold wkC
  rw [if_neg (show ¬ (5 : Nat) = 8 by decide), if_pos rfl]
  unfold whF
  rw [if_neg hn, if_neg hn]
  rfl
end WKW
