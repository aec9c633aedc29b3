/-- the listing and what is said behind it, as they are read -/
def lgQ (so sl sr ao al ar : Nat → Int32) (zs za n : Nat) (kd ow sb f1 f2 te kp nm : Nat → Nat) (tm : Nat → Int32) (ls po : List sgT) (IT : Nat → itT) (X Y : Nat → List itT) : Prop := srk so sl sr zs 1023 ls ∧ srk ao al ar za 1023 po ∧ cmpl 18 po ∧ ∀ i, i < n → fst9 kd f1 f2 IT X Y i ∧ lsn n kd ow sb IT X Y i ∧ itm ls kd te kp nm tm i (IT i)
section MKQ
variable {fo fo' fl fl' fr fr' : Nat → Int32} {B P P1 P2 : List sgT} {z z1 z2 a b o : Nat} {x2 x3 : Int32} {s : sgT}
theorem bin_q (ho : o = 2 ∨ o = 3) (f1 : (B ++ P1).length = z1) (f2 : ndl fo fl fr (B ++ P1 ++ P2) ∧ (B ++ P1 ++ P2).length = z2) (c2 : ∃ d, cmpl d P2) (ha : a + 1 = z1) (hb : b + 1 = z2) (w : nad fo fo' fl fl' fr fr' z2 (nI (o + 5)) (nI a) (nI b)) : ndl fo' fl' fr' (B ++ (P1 ++ P2 ++ [opS o])) ∧ (B ++ (P1 ++ P2 ++ [opS o])).length = z2 + 1 := by
  obtain ⟨d, hc⟩ := c2
  have h1 := f1
  have h2 := f2.2
  rw [List.length_append] at h1
  rw [List.length_append, List.length_append] at h2
  refine ⟨ndl_bi ho f2.1 hc f2.2 (by omega) hb w, ?_⟩
  rw [List.length_append, List.length_append, List.length_append]
  show B.length + (P1.length + P2.length + 1) = z2 + 1
  omega
theorem not_q (f : ndl fo fl fr (B ++ P) ∧ (B ++ P).length = z) (ha : a + 1 = z) (w : nad fo fo' fl fl' fr fr' z 6 (nI a) x3) : ndl fo' fl' fr' (B ++ (P ++ [opS 1])) ∧ (B ++ (P ++ [opS 1])).length = z + 1 := by
  rw [← List.append_assoc]
  refine ⟨ndl_nt f.1 f.2 ha w, ?_⟩
  rw [List.length_append, f.2]; rfl
theorem atm_q (f : ndl fo fl fr B ∧ B.length = z) (hs : s.1 < 6) (w : nad fo fo' fl fl' fr fr' z (nI s.1) x2 x3) (e2 : x2 = tmI s.2.1) (e3 : x3 = tmI s.2.2) : ndl fo' fl' fr' (B ++ [s]) ∧ (B ++ [s]).length = z + 1 := by
  refine ⟨ndl_at f.1 f.2 w hs e2 e3, ?_⟩
  rw [List.length_append, f.2]; rfl
theorem cmx_a (h : s.1 < 6) : ∃ d, cmpl d [s] := ⟨1, cmpl_a h⟩
theorem cmx_n (h : ∃ d, cmpl d P) : ∃ d, cmpl d (P ++ [opS 1]) := by
  obtain ⟨d, h⟩ := h
  exact ⟨d + 1, cmpl_n h rfl⟩
theorem cmx_b (ho : o = 2 ∨ o = 3) (h1 : ∃ d, cmpl d P1) (h2 : ∃ d, cmpl d P2) : ∃ d, cmpl d (P1 ++ P2 ++ [opS o]) := by
  obtain ⟨d1, h1⟩ := h1
  obtain ⟨d2, h2⟩ := h2
  exact ⟨max d1 d2 + 1, cmpl_b h1 h2 (show 7 ≤ o + 5 by omega) (by omega) (by omega)⟩
end MKQ
theorem tmI_z {v : Nat} : tmI (v, 0) = nI v := by
  unfold tmI
  rw [show i2n (0 : Int32) = 0 by decide, Nat.mul_zero, Nat.zero_add]
section LGQ
variable {so sl sr ao al ar : Nat → Int32} {zs za n i s : Nat} {kd ow sb f1 f2 te kp nm : Nat → Nat} {tm : Nat → Int32} {ls po : List sgT} {IT : Nat → itT} {X Y : Nat → List itT} {h9 : Nat → Nat × Int32} {sd : Nat → Int32}
theorem lgQ.root (h : lgQ so sl sr ao al ar zs za n kd ow sb f1 f2 te kp nm tm ls po IT X Y) : sub9 po (za - 1) = po := by
  have e := sub9_m (x := []) (y := []) h.2.2.1
  rw [List.append_nil, List.nil_append, List.length_nil, Nat.zero_add, h.2.1.2.1] at e
  exact e
theorem lgQ.tq (h : lgQ so sl sr ao al ar zs za n kd ow sb f1 f2 te kp nm tm ls po IT X Y) (hi : i < n) (hk : kd i = 8 ∨ kd i = 12 ∨ kd i = 17 ∨ kd i = 123) : sub9 ls (te i) = (IT i).2.2.2.2.1 := ((h.2.2.2 i hi).2.2.2.2.1 hk).2.1
theorem lgQ.kq (h : lgQ so sl sr ao al ar zs za n kd ow sb f1 f2 te kp nm tm ls po IT X Y) (hi : i < n) (hk : kd i = 12) : sub9 ls (kp i) = (IT i).2.2.2.2.2 := ((h.2.2.2 i hi).2.2.2.2.2 hk).2.1
/-- what is said ahead of a statement, with the terms that names stand for -/
theorem q_asr (h : lgQ so sl sr ao al ar zs za n kd ow sb f1 f2 te kp nm tm ls po IT X Y) (hi : i < n) (hk : kd i = 17) : ptL h9 (fFm po (X i)) = ptL h9 (sub9 ls (te i)) ++ ptL h9 (fFm po (Y i)) ++ [opS 2] := by
  rw [eq_asr (h.2.2.2 i hi).1 hk, ptL_app, ptL_app, ptL_op (by decide), h.tq hi (by omega)]
theorem q_cut (h : lgQ so sl sr ao al ar zs za n kd ow sb f1 f2 te kp nm tm ls po IT X Y) (hi : i < n) (hk : kd i = 123) : ptL h9 (fFm po (X i)) = ptL h9 (sub9 ls (te i)) := by
  rw [eq_cut (h.2.2.2 i hi).1 hk, h.tq hi (by omega)]
theorem q_wh (h : lgQ so sl sr ao al ar zs za n kd ow sb f1 f2 te kp nm tm ls po IT X Y) (hi : i < n) (hk : kd i = 12) : ptL h9 (fFm po (X i)) = ptL h9 (sub9 ls (kp i)) := by
  rw [eq_wh (h.2.2.2 i hi).1 hk, h.kq hi hk]
theorem q_skp (h : lgQ so sl sr ao al ar zs za n kd ow sb f1 f2 te kp nm tm ls po IT X Y) (hi : i < n) (hk : kd i = 7) : ptL h9 (fFm po (X i)) = ptL h9 (fFm po (Y i)) := by
  rw [eq_skp (h.2.2.2 i hi).1 hk]
theorem q_if (h : lgQ so sl sr ao al ar zs za n kd ow sb f1 f2 te kp nm tm ls po IT X Y) (hi : i < n) (hk : kd i = 8) : ptL h9 (fFm po (X i)) = (ptL h9 (sub9 ls (te i)) ++ ptL h9 (fFm po (X (f1 i))) ++ [opS 2]) ++ ((ptL h9 (sub9 ls (te i)) ++ [opS 1]) ++ ptL h9 (fFm po (X (f2 i))) ++ [opS 2]) ++ [opS 3] := by
  rw [eq_if (h.2.2.2 i hi).1 hk, h.tq hi (by omega)]
  unfold ifF
  simp only [ptL_app]
  rw [ptL_op (x := 1) (by decide), ptL_op (x := 2) (by decide), ptL_op (x := 3) (by decide)]
theorem q_set (h : lgQ so sl sr ao al ar zs za n kd ow sb f1 f2 te kp nm tm ls po IT X Y) (hi : i < n) (hk : kd i = 2) : ptL h9 (fFm po (X i)) = ptL (upT h9 (nm i) (ptT h9 (IT i).2.2.2.1)) (fFm po (Y i)) := by
  rw [eq_set (h.2.2.2 i hi).1 hk, ptL_sb, ((h.2.2.2 i hi).2.2.2.1 hk).1]
theorem q_od0 (h : lgQ so sl sr ao al ar zs za n kd ow sb f1 f2 te kp nm tm ls po IT X Y) (hi : i < n) (hk : kd i = 12) (hn : nm i = 4294967295) : ptL h9 (odF (IT i)) = ptL h9 (sub9 ls (kp i)) := by
  obtain ⟨_, _, _, _, e⟩ := (h.2.2.2 i hi).2.2.2.2.2 hk
  have hg : (IT i).2.2.1 < 6 := by
    rcases e with ⟨_, e⟩ | ⟨_, e, _⟩
    · omega
    · omega
  unfold odF
  rw [if_pos hg, h.kq hi hk]
theorem q_od1 (h : lgQ so sl sr ao al ar zs za n kd ow sb f1 f2 te kp nm tm ls po IT X Y) (hi : i < n) (hk : kd i = 12) (hn : ¬ nm i = 4294967295) : ptL h9 (odF (IT i)) = ptL h9 (sub9 ls (kp i)) ++ [(0, ptT h9 (IT i).2.2.2.1, ptT h9 (nm i, 0))] ++ [opS 2] := by
  obtain ⟨_, _, _, _, e⟩ := (h.2.2.2 i hi).2.2.2.2.2 hk
  obtain ⟨e1, e2, e3, _⟩ := e.resolve_left (fun q => hn q.1)
  unfold odF
  rw [if_neg (by omega), h.kq hi hk, ptL_app, ptL_app, ptL_op (by decide), e3]; rfl
end LGQ
theorem ptT_g {h9 : Nat → Nat × Int32} {v : Nat} (h : h9 v = (v, 0)) : ptT h9 (v, 0) = (v, 0) := by
  unfold ptT
  rw [h]
  show (v, (0 : Int32) + 0) = (v, 0)
  rw [Int32.zero_add]
/-- what the names stand for -/
def sdq (sd : Nat → Int32) (h9 : Nat → Nat × Int32) : Prop := (∀ j, j ≤ 10 → sd j = tmI (h9 j)) ∧ (∀ j, j ≤ 10 → (h9 j).1 ≤ 10) ∧ ∀ j, 6 ≤ j → j ≤ 10 → h9 j = (j, 0)
theorem sdq.s {sd : Nat → Int32} {h9 : Nat → Nat × Int32} (h : sdq sd h9) : ∀ j, j ≤ 10 → sd j = tmI (h9 j) := h.1
section SDQ
variable {sd : Nat → Int32} {h9 : Nat → Nat × Int32} {v : Nat} {t9 : Nat × Int32} {x : Int32}
theorem sdq.up (h : sdq sd h9) (hv : v < 6) (hx : x = tmI (ptT h9 t9)) (ht : t9.1 ≤ 10) : sdq (upd sd v x) (upT h9 v (ptT h9 t9)) := by
  obtain ⟨a, b, c⟩ := h
  refine ⟨fun j hj => ?_, fun j hj => ?_, fun j h6 hj => ?_⟩
  · unfold upT
    by_cases e : j = v
    · subst e
      rw [upd_eq, if_pos rfl]; exact hx
    · rw [upd_ne e, if_neg e]; exact a j hj
  · unfold upT
    by_cases e : j = v
    · rw [if_pos e]; exact b _ ht
    · rw [if_neg e]; exact b j hj
  · unfold upT
    rw [if_neg (by omega)]; exact c j h6 hj
theorem sdq.dn {x0 : Int32} {sd2 : Nat → Int32} (h : sdq sd h9) (hv : v < 6) (h2 : sdq sd2 (upT h9 v t9)) (h0 : x0 = sd v) : sdq (upd sd2 v x0) h9 := by
  obtain ⟨a, b, c⟩ := h
  obtain ⟨a2, _, _⟩ := h2
  refine ⟨fun j hj => ?_, b, c⟩
  by_cases e : j = v
  · subst e
    rw [upd_eq, h0]; exact a j hj
  · rw [upd_ne e, a2 j hj]
    unfold upT
    rw [if_neg e]
end SDQ
