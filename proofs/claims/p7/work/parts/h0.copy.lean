section CPY
variable {fo fl fr : Nat → Int32} {l : List sgT} {N : Nat}
theorem ndl.op {k o : Nat} (h : ndl fo fl fr l) (hb : nbl N l) (hk : k < l.length) (e : fo k = nI o) (ho : o ≤ 8) : (ath l k).1 = o := by
  have h1 := (h k hk).1
  have h2 := (hb _ (ath_mem hk)).1
  rw [e] at h1
  exact (nI_inj32 h1 (by omega) (by omega)).symm
theorem tsn_szl (h : ndl fo fl fr l) (hv : ndv fo fl fr l.length) (hw : wfl l) (hb : nbl N l) (hl : l.length < 2 ^ 31) : ∀ k, k < l.length → tsn fo fl fr k = szl l k := by
  intro k
  induction k using Nat.strongRecOn with
  | ind k ih =>
    intro hk
    obtain ⟨o, b1, b2, b3, b4, b5⟩ := hv k hk
    have ho := h.op hb hk b2 b1
    obtain ⟨_, _, n3, n4⟩ := h k hk
    rw [ho] at n3 n4
    by_cases c1 : o < 6
    · rw [tsn_atom b2 c1]
      exact (szo_a (show (ath l k).1 < 6 by omega)).symm
    · obtain ⟨a, ha, ea⟩ := b4 (by omega)
      by_cases c2 : o = 6
      · have e1 := n3 c2.symm
        rw [e1] at ea
        have e2 : k - 1 = a := nI_inj32 ea (by omega) (by omega)
        rw [tsn_not (n := k) (by omega) (hv.old (by omega)) (by rw [b2, c2]) ha (by rw [e1, e2]), ← e2, ih (k - 1) (by omega) (by omega)]
        exact (szo_n (show (ath l k).1 = 6 by omega) (by omega)).symm
      · obtain ⟨e1, e3⟩ := n4 (by omega)
        obtain ⟨b, hb2, eb⟩ := b5 (by omega)
        rw [e1] at ea
        rw [e3] at eb
        have hq := (szl_bl hw hk (by omega) (by omega)).2
        have e2 : k - 1 - szl l (k - 1) = a := nI_inj32 ea (by omega) (by omega)
        have e4 : k - 1 = b := nI_inj32 eb (by omega) (by omega)
        rw [tsn_bin (n := k) (by omega) (hv.old (by omega)) (o := o) (by omega) b2 ha (by rw [e1, e2]) hb2 (by rw [e3, e4]), ← e2, ← e4, ih (k - 1) (by omega) (by omega), ih (k - 1 - szl l (k - 1)) (by omega) (by omega)]
        have := (szl_bl hw hk (by omega) (by omega)).1
        omega
/-- a node copied, with the terms that names stand for -/
theorem cpl_a {h : Nat → Nat × Int32} {k : Nat} (hk : (ath l k).1 < 6) : ptL h (sub9 l k) = [((ath l k).1, ptT h (ath l k).2.1, ptT h (ath l k).2.2)] := by
  rw [sub9_a hk]
  show [ptS h (ath l k)] = _
  unfold ptS
  rw [if_pos hk]
theorem ptS_o {h : Nat → Nat × Int32} {s : sgT} (hs : 6 ≤ s.1) : ptS h s = s := if_neg (by omega)
theorem cpl_n {h : Nat → Nat × Int32} {k : Nat} (hw : wfl l) (hk : k < l.length) (ho : (ath l k).1 = 6) (h1 : 1 ≤ k) : ptL h (sub9 l k) = ptL h (sub9 l (k - 1)) ++ [ath l k] := by
  rw [sub9_n hw hk ho h1, ptL_app]
  show _ ++ [ptS h (ath l k)] = _
  rw [ptS_o (by omega)]
theorem cpl_b {h : Nat → Nat × Int32} {k : Nat} (hw : wfl l) (hk : k < l.length) (ho : 7 ≤ (ath l k).1) (h1 : 1 ≤ k) : ptL h (sub9 l k) = ptL h (sub9 l (k - 1 - szl l (k - 1))) ++ ptL h (sub9 l (k - 1)) ++ [ath l k] := by
  rw [sub9_b hw hk ho h1, ptL_app, ptL_app]
  show _ ++ _ ++ [ptS h (ath l k)] = _
  rw [ptS_o (by omega)]
end CPY
section CPZ
variable {fo fo' fl fl' fr fr' : Nat → Int32} {l m1 m2 : List sgT} {x3 : Int32} {s : sgT} {n d a b : Nat}
theorem ndl_ntg (h : ndl fo fl fr l) (hn : l.length = n) (hs : s.1 = 6) (ha : a + 1 = n) (w : nad fo fo' fl fl' fr fr' n (nI s.1) (nI a) x3) : ndl fo' fl' fr' (l ++ [s]) := h.add hn w ⟨byv_nat (by omega), fun q => by omega, fun _ => by rw [show a = n - 1 by omega], fun q => by omega⟩
theorem ndl_big (hs : 7 ≤ s.1) (hs8 : s.1 ≤ 8) (h : ndl fo fl fr (l ++ m1 ++ m2)) (h2 : cmpl d m2) (hn : (l ++ m1 ++ m2).length = n) (ha : a + 1 = l.length + m1.length) (hb : b + 1 = n) (w : nad fo fo' fl fl' fr fr' n (nI s.1) (nI a) (nI b)) : ndl fo' fl' fr' (l ++ (m1 ++ m2 ++ [s])) := by
  have e : l ++ (m1 ++ m2 ++ [s]) = (l ++ m1 ++ m2) ++ [s] := by simp only [List.append_assoc]
  rw [e]
  have hl : (l ++ m1 ++ m2).length = l.length + m1.length + m2.length := by rw [List.length_append, List.length_append]
  have hm := h2.1
  have hz : szl (l ++ m1 ++ m2) (n - 1) = m2.length := by
    have := (h2.2 (l ++ m1)).2.1
    rw [List.length_append] at this
    rw [show n - 1 = l.length + m1.length + m2.length - 1 by omega]; exact this
  refine h.add hn w ⟨byv_nat (by omega), fun q => by omega, fun q => by omega, fun _ => ⟨?_, by rw [show b = n - 1 by omega]⟩⟩
  rw [hz, show a = n - 1 - m2.length by omega]
end CPZ
/-- nodes that are copied from -/
def srk (so sl sr : Nat → Int32) (zs NN : Nat) (ls : List sgT) : Prop := ndl so sl sr ls ∧ ls.length = zs ∧ wfl ls ∧ nbl NN ls
theorem sub_len {l : List sgT} {k : Nat} : (sub9 l k).length = szl l k := slf_len _
section CPQ
variable {fo fo' fl fl' fr fr' : Nat → Int32} {ls l0 : List sgT} {h9 : Nat → Nat × Int32} {x2 x3 : Int32} {nd z9 o9 a9 d9 n1 n2 i1 i2 NN : Nat}
theorem cpy_a (hop : (ath ls nd).1 = o9) (h6 : o9 < 6) (hl : ndl fo fl fr l0 ∧ l0.length = z9) (w : nad fo fo' fl fl' fr fr' z9 (nI o9) x2 x3) (p1 : x2 = tmI (ptT h9 (ath ls nd).2.1)) (p2 : x3 = tmI (ptT h9 (ath ls nd).2.2)) : (ndl fo' fl' fr' (l0 ++ ptL h9 (sub9 ls nd)) ∧ (l0 ++ ptL h9 (sub9 ls nd)).length = z9 + 1) ∧ cmpl (dpl ls nd) (ptL h9 (sub9 ls nd)) := by
  have hd : dpl ls nd = 1 := dpo_a (show (ath ls nd).1 < 6 by omega)
  rw [cpl_a (by omega), hop, hd]
  refine ⟨⟨ndl_at (s := (o9, ptT h9 (ath ls nd).2.1, ptT h9 (ath ls nd).2.2)) hl.1 hl.2 w h6 p1 p2, ?_⟩, cmpl_a h6⟩
  rw [List.length_append, hl.2]; rfl
theorem cpy_n (hw : wfl ls) (hk : nd < ls.length) (hop : (ath ls nd).1 = o9) (h6 : o9 = 6) (h1 : 1 ≤ nd) (ea : a9 = nd - 1) (hl : ndl fo fl fr (l0 ++ ptL h9 (sub9 ls a9)) ∧ (l0 ++ ptL h9 (sub9 ls a9)).length = n1) (hc : cmpl (dpl ls a9) (ptL h9 (sub9 ls a9))) (hi : i1 + 1 = n1) (w : nad fo fo' fl fl' fr fr' n1 (nI o9) (nI i1) x3) : (ndl fo' fl' fr' (l0 ++ ptL h9 (sub9 ls nd)) ∧ (l0 ++ ptL h9 (sub9 ls nd)).length = n1 + 1) ∧ cmpl (dpl ls nd) (ptL h9 (sub9 ls nd)) := by
  subst ea
  have hd : dpl ls nd = 1 + dpl ls (nd - 1) := dpo_n (show (ath ls nd).1 = 6 by omega) h1
  rw [cpl_n hw hk (by omega) h1, hd, ← List.append_assoc, Nat.add_comm 1]
  refine ⟨⟨ndl_ntg hl.1 hl.2 (by omega) hi (by rw [hop]; exact w), ?_⟩, cmpl_n hc (by omega)⟩
  rw [List.length_append, hl.2]; rfl
theorem cpy_b (hw : wfl ls) (hk : nd < ls.length) (hop : (ath ls nd).1 = o9) (h7 : 7 ≤ o9) (h8 : o9 ≤ 8) (h1 : 1 ≤ nd) (ea : a9 = nd - 1 - szl ls (nd - 1)) (ed : d9 = nd - 1) (hl1 : (l0 ++ ptL h9 (sub9 ls a9)).length = n1) (hc1 : cmpl (dpl ls a9) (ptL h9 (sub9 ls a9))) (hl : ndl fo fl fr (l0 ++ ptL h9 (sub9 ls a9) ++ ptL h9 (sub9 ls d9)) ∧ (l0 ++ ptL h9 (sub9 ls a9) ++ ptL h9 (sub9 ls d9)).length = n2) (hc2 : cmpl (dpl ls d9) (ptL h9 (sub9 ls d9))) (hi1 : i1 + 1 = n1) (hi2 : i2 + 1 = n2) (w : nad fo fo' fl fl' fr fr' n2 (nI o9) (nI i1) (nI i2)) : (ndl fo' fl' fr' (l0 ++ ptL h9 (sub9 ls nd)) ∧ (l0 ++ ptL h9 (sub9 ls nd)).length = n2 + 1) ∧ cmpl (dpl ls nd) (ptL h9 (sub9 ls nd)) := by
  subst ea
  subst ed
  have hd : dpl ls nd = 1 + max (dpl ls (nd - 1)) (dpl ls (nd - 1 - szl ls (nd - 1))) := dpo_b (show 7 ≤ (ath ls nd).1 by omega) h1
  rw [cpl_b hw hk (by omega) h1, hd]
  refine ⟨⟨ndl_big (s := ath ls nd) (by omega) (by omega) hl.1 hc2 hl.2 (by rw [← hl1, List.length_append] at hi1; exact hi1) hi2 (by rw [hop]; exact w), ?_⟩, cmpl_b hc1 hc2 (by omega) (by omega) (by omega)⟩
  have := hl.2
  rw [List.length_append, List.length_append] at this
  rw [List.length_append, List.length_append, List.length_append]
  show _ + (_ + _ + 1) = n2 + 1
  omega
/-- where the parts of a node lie -/
theorem prt_n {so sl sr : Nat → Int32} (h : ndl so sl sr ls) (hk : nd < ls.length) (hop : (ath ls nd).1 = o9) (h6 : o9 = 6) (ha : a9 < nd) (hb : nd < 2 ^ 31) (ea : sl nd = nI a9) : a9 = nd - 1 := by
  have e := (h nd hk).2.2.1 (by omega)
  rw [ea] at e
  exact nI_inj32 e (by omega) (by omega)
theorem prt_b {so sl sr : Nat → Int32} (h : ndl so sl sr ls) (hk : nd < ls.length) (hop : (ath ls nd).1 = o9) (h7 : 7 ≤ o9) (ha : a9 < nd) (hd : d9 < nd) (hb : nd < 2 ^ 31) (ea : sl nd = nI a9) (ed : sr nd = nI d9) : a9 = nd - 1 - szl ls (nd - 1) ∧ d9 = nd - 1 := by
  have e := (h nd hk).2.2.2 (by omega)
  rw [ea, ed] at e
  exact ⟨nI_inj32 e.1 (by omega) (by omega), nI_inj32 e.2 (by omega) (by omega)⟩
/-- put: a term by what its name stands for -/
theorem put_v {sd : Nat → Int32} {t9 : Nat × Int32} {x z1 : Int32} {b9 : Nat} (hst : ∀ j, j ≤ 10 → sd j = tmI (h9 j)) (ht : t9.1 ≤ 10) (hx : x = tmI t9) (hb : b9 = t9.1) (e1 : z1 = x &&& (-16)) : sd b9 + z1 = tmI (ptT h9 t9) := by
  rw [hb, hst _ ht, e1, hx, tmI_put (by omega)]; rfl
end CPQ
