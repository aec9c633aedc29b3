/-- formulas with the same codes are as deep -/
theorem cmpl_eq {d : Nat} {m m' : List sgT} (hl : m'.length = m.length) (h : ∀ k, k < m.length → (ath m' k).1 = (ath m k).1) (hc : cmpl d m) : cmpl d m' := by
  have e : ∀ (x : List sgT) (j : Nat), j < x.length + m.length → olf (x ++ m') j = olf (x ++ m) j := by
    intro x j hj
    show (ath (x ++ m') j).1 = (ath (x ++ m) j).1
    by_cases c : j < x.length
    · rw [ath_l c, ath_l c]
    · obtain ⟨k, rfl⟩ : ∃ k, j = x.length + k := ⟨j - x.length, by omega⟩
      rw [ath_r, ath_r]
      exact h k (by omega)
  have h1 := hc.1
  refine ⟨by rw [hl]; exact h1, fun x => ?_⟩
  obtain ⟨a, b, c⟩ := hc.2 x
  rw [hl]
  refine ⟨fun k hk => ?_, ?_, ?_⟩
  · have q : szo (olf (x ++ m')) (x.length + k) = szo (olf (x ++ m)) (x.length + k) := szo_congr (fun j hj => e x j (by omega))
    show szo (olf (x ++ m')) (x.length + k) ≤ k + 1
    rw [q]; exact a k hk
  · have q : szo (olf (x ++ m')) (x.length + m.length - 1) = szo (olf (x ++ m)) (x.length + m.length - 1) := szo_congr (fun j hj => e x j (by omega))
    show szo (olf (x ++ m')) (x.length + m.length - 1) = m.length
    rw [q]; exact b
  · have q : dpo (olf (x ++ m')) (x.length + m.length - 1) = dpo (olf (x ++ m)) (x.length + m.length - 1) := dpo_congr (fun j hj => e x j (by omega))
    show dpo (olf (x ++ m')) (x.length + m.length - 1) ≤ d
    rw [q]; exact c
theorem sbS_c {v : Nat} {t : Nat × Int32} {s : sgT} : (sbS v t s).1 = s.1 := by
  unfold sbS
  split <;> rfl
theorem ath_sb {v : Nat} {t : Nat × Int32} : ∀ {m : List sgT} {k : Nat}, k < m.length → ath (sbL v t m) k = sbS v t (ath m k)
  | [], _, hk => absurd hk (Nat.not_lt_zero _)
  | _ :: _, 0, _ => rfl
  | _ :: m, k + 1, hk => ath_sb (m := m) (k := k) (Nat.lt_of_succ_lt_succ hk)
theorem cmpl_sb {v d : Nat} {t : Nat × Int32} {m : List sgT} (h : cmpl d m) : cmpl d (sbL v t m) := cmpl_eq (List.length_map _) (fun k hk => by rw [ath_sb hk]; exact sbS_c) h
theorem tmb_sb {v N : Nat} {t x : Nat × Int32} (h : tmb N x) (ht : tmb 1023 t) (hN : N < 1000000) : tmb (N + 1023) (sbT v t x) := by
  unfold sbT
  by_cases c : x.1 = v
  · rw [if_pos c]
    obtain ⟨_, a, b⟩ := h
    obtain ⟨c1, c2, c3⟩ := ht
    have e : (x.2 + t.2).toInt = x.2.toInt + t.2.toInt := by
      rw [Int32.toInt_add, Int.bmod_eq_of_le (by omega) (by omega)]
    refine ⟨c1, ?_⟩
    show -((N + 1023 : Nat) : Int) ≤ (x.2 + t.2).toInt ∧ (x.2 + t.2).toInt ≤ ((N + 1023 : Nat) : Int)
    rw [e]
    omega
  · rw [if_neg c]; exact h.up (by omega)
theorem nbl_sb {v N : Nat} {t : Nat × Int32} {m : List sgT} (h : nbl N m) (ht : tmb 1023 t) (hN : N < 1000000) : nbl (N + 1023) (sbL v t m) := by
  intro s hs
  obtain ⟨s0, h0, rfl⟩ := List.mem_map.mp hs
  obtain ⟨a, b⟩ := h s0 h0
  refine ⟨by rw [sbS_c]; exact a, fun q => ?_⟩
  rw [sbS_c] at q
  have e : sbS v t s0 = (s0.1, sbT v t s0.2.1, sbT v t s0.2.2) := if_pos q
  rw [e]
  exact ⟨tmb_sb (b q).1 ht hN, tmb_sb (b q).2 ht hN⟩
theorem tmb_z {g : Nat} (h : g ≤ 10) : tmb 1023 (g, 0) := ⟨h, show -((1023 : Nat) : Int) ≤ (0 : Int32).toInt by decide, show (0 : Int32).toInt ≤ ((1023 : Nat) : Int) by decide⟩
/-- a while's own formulas -/
def whB (it : itT) : Prop := (cmpl 18 it.2.2.2.2.1 ∧ nbl 1023 it.2.2.2.2.1) ∧ (cmpl 18 it.2.2.2.2.2 ∧ nbl 1023 it.2.2.2.2.2) ∧ (it.2.2.1 < 6 ∨ (it.2.2.1 < 10 ∧ tmb 1023 it.2.2.2.1))
theorem od_b {it : itT} (h : whB it) : cmpl 19 (odF it) ∧ nbl 1023 (odF it) := by
  obtain ⟨_, ⟨h1, h2⟩, hv⟩ := h
  unfold odF
  by_cases c : it.2.2.1 < 6
  · rw [if_pos c]; exact ⟨h1.up (by omega), h2⟩
  · rw [if_neg c]
    obtain ⟨g1, g2⟩ := hv.resolve_left c
    exact ⟨cmpl_b h1 (cmpl_a (s := (0, it.2.2.2.1, (it.2.2.1, 0))) (show 0 < 6 by omega)) (show 7 ≤ 2 + 5 by omega) (by omega) (by omega), (h2.app (nbl_1 ⟨show 0 ≤ 8 by omega, fun _ => ⟨g2, tmb_z (by omega)⟩⟩)).app (nbl_o (by omega) (by omega))⟩
theorem wh_b {it : itT} (h : whB it) : cmpl 20 (whF it) ∧ nbl 1023 (whF it) := by
  obtain ⟨⟨h3, h4⟩, ⟨h1, h2⟩, hv⟩ := h
  have e1 : cmpl 19 (it.2.2.2.2.2 ++ it.2.2.2.2.1 ++ [opS 2]) := cmpl_b h1 h3 (show 7 ≤ 2 + 5 by omega) (by omega) (by omega)
  have e2 : nbl 1023 (it.2.2.2.2.2 ++ it.2.2.2.2.1 ++ [opS 2]) := (h2.app h4).app (nbl_o (by omega) (by omega))
  unfold whF
  by_cases c : it.2.2.1 < 6
  · rw [if_pos c]; exact ⟨e1.up (by omega), e2⟩
  · rw [if_neg c]
    obtain ⟨g1, g2⟩ := hv.resolve_left c
    exact ⟨cmpl_b e1 (cmpl_a (s := (4, it.2.2.2.1, (it.2.2.1, 0))) (show 4 < 6 by omega)) (show 7 ≤ 2 + 5 by omega) (by omega) (by omega), (e2.app (nbl_1 ⟨show 4 ≤ 8 by omega, fun _ => ⟨g2, tmb_z (by omega)⟩⟩)).app (nbl_o (by omega) (by omega))⟩
/-- how large a formula is, k statements ahead of the end -/
def bdF (k : Nat) (m : List sgT) : Prop := cmpl (19 + 2 * k) m ∧ nbl (1023 * (1 + k)) m
theorem bdF.up {k k' : Nat} {m : List sgT} (h : bdF k m) (hk : k ≤ k') : bdF k' m := ⟨h.1.up (by omega), h.2.up (by omega)⟩
theorem bdF_of {k d : Nat} {m : List sgT} (h : cmpl d m) (hd : d ≤ 19) (h2 : nbl 1023 m) : bdF k m := ⟨h.up (by omega), h2.up (by omega)⟩
section BND
variable {so sl sr ao al ar : Nat → Int32} {zs za n i s k : Nat} {kd ow sb f1 f2 te kp nm en : Nat → Nat} {tm : Nat → Int32} {ls po pr : List sgT} {IT : Nat → itT} {X Y : Nat → List itT}
theorem lgQ.wh (h : lgQ so sl sr ao al ar zs za n kd ow sb f1 f2 te kp nm tm ls po IT X Y) (hi : i < n) (hk : kd i = 12) : whB (IT i) := by
  obtain ⟨_, _, a1, a2⟩ := (h.2.2.2 i hi).2.2.2.2.1 (Or.inr (Or.inl hk))
  obtain ⟨_, _, b1, b2, b3⟩ := (h.2.2.2 i hi).2.2.2.2.2 hk
  refine ⟨⟨a1, a2⟩, ⟨b1, b2⟩, ?_⟩
  rcases b3 with ⟨_, e⟩ | ⟨_, e1, e2, _, e3⟩
  · exact Or.inl (by omega)
  · exact Or.inr ⟨by omega, e3⟩
theorem bY (h : lgQ so sl sr ao al ar zs za n kd ow sb f1 f2 te kp nm tm ls po IT X Y) (hp : lsp n kd ow sb en) (hn : n ≤ 20) (e0 : Nat) (hX : ∀ j, e0 ≤ j → j < n → bdF (n - j) (fFm po (X j))) : ∀ (f i : Nat), i < f → i < n → e0 ≤ en i → bdF (n - en i) (fFm po (Y i))
  | 0, _, hf, _, _ => absurd hf (Nat.not_lt_zero _)
  | f + 1, i, hf, hi, he => by
    obtain ⟨k1, k2, k3, k4⟩ := hp i hi
    have hl := (h.2.2.2 i hi).2.1
    by_cases hs : sb i = 4294967295
    · by_cases ho : ow i = 4294967295
      · rw [ln_end hl hn hs ho]
        exact bdF_of h.2.2.1 (by omega) h.2.1.2.2.2
      · obtain ⟨o1, o2⟩ := k2.resolve_left ho
        by_cases hk : kd (ow i) = 12
        · rw [ln_od hl hs ho hk]
          obtain ⟨a, b⟩ := od_b (h.wh (by omega) hk)
          exact bdF_of a (by omega) b
        · rw [ln_own hl hs ho hk]
          exact (bY h hp hn e0 hX f (ow i) (by omega) (by omega) (by omega)).up (by omega)
    · rw [ln_sib hl hs]
      obtain ⟨q1, q2⟩ := k4.resolve_left hs
      exact (hX (sb i) (by omega) q2).up (by omega)
theorem bX (h : lgQ so sl sr ao al ar zs za n kd ow sb f1 f2 te kp nm tm ls po IT X Y) (hp : lsp n kd ow sb en) (hn : n ≤ 20) (hf : ∀ i, i < n → kd i = 8 → i < f1 i ∧ f1 i < n ∧ i < f2 i ∧ f2 i < n) : ∀ (d i : Nat), i < n → n - i ≤ d → bdF (n - i) (fFm po (X i))
  | 0, i, hi, hd => absurd hi (by omega)
  | d + 1, i, hi, hd => by
    have ih : ∀ j, i < j → j < n → bdF (n - j) (fFm po (X j)) := fun j a b => bX h hp hn hf d j b (by omega)
    obtain ⟨k1, k2, k3, k4⟩ := hp i hi
    have hY : bdF (n - i - 1) (fFm po (Y i)) := (bY h hp hn (i + 1) (fun j a b => ih j (by omega) b) (i + 1) i (by omega) hi (by omega)).up (by omega)
    obtain ⟨g1, g2, _, g3, g4, g5⟩ := h.2.2.2 i hi
    rcases k1 with k | k | k | k | k | k
    · rw [eq_set g1 k]
      obtain ⟨_, _, t⟩ := g3 k
      exact ⟨(cmpl_sb hY.1).up (by omega), (nbl_sb hY.2 t (by omega)).up (by omega)⟩
    · rw [eq_skp g1 k]; exact hY.up (by omega)
    · obtain ⟨fa, fb, fc, fd⟩ := hf i hi k
      obtain ⟨_, _, c1, c2⟩ := g4 (Or.inl k)
      obtain ⟨x1, x2⟩ := (ih (f1 i) fa fb).up (k' := n - i - 1) (by omega)
      obtain ⟨y1, y2⟩ := (ih (f2 i) fc fd).up (k' := n - i - 1) (by omega)
      rw [eq_if g1 k]
      unfold ifF
      have u1 : cmpl (19 + 2 * (n - i - 1) + 1) ((IT i).2.2.2.2.1 ++ fFm po (X (f1 i)) ++ [opS 2]) := cmpl_b c1 x1 (show 7 ≤ 2 + 5 by omega) (by omega) (by omega)
      have u2 : cmpl (19 + 2 * (n - i - 1) + 1) ((IT i).2.2.2.2.1 ++ [opS 1] ++ fFm po (X (f2 i)) ++ [opS 2]) := cmpl_b (cmpl_n c1 rfl) y1 (show 7 ≤ 2 + 5 by omega) (by omega) (by omega)
      have c3 : nbl (1023 * (1 + (n - i - 1))) (IT i).2.2.2.2.1 := c2.up (by omega)
      have v1 : nbl (1023 * (1 + (n - i - 1))) ((IT i).2.2.2.2.1 ++ fFm po (X (f1 i)) ++ [opS 2]) := (c3.app x2).app (nbl_o (by omega) (by omega))
      have v2 : nbl (1023 * (1 + (n - i - 1))) ((IT i).2.2.2.2.1 ++ [opS 1] ++ fFm po (X (f2 i)) ++ [opS 2]) := ((c3.app (nbl_o (by omega) (by omega))).app y2).app (nbl_o (by omega) (by omega))
      exact ⟨cmpl_b u1 u2 (show 7 ≤ 3 + 5 by omega) (by omega) (by omega), ((v1.app v2).app (nbl_o (by omega) (by omega))).up (by omega)⟩
    · rw [eq_wh g1 k]
      obtain ⟨_, ⟨h1, h2⟩, _⟩ := h.wh hi k
      exact bdF_of h1 (by omega) h2
    · obtain ⟨_, _, c1, c2⟩ := g4 (Or.inr (Or.inr (Or.inl k)))
      rw [eq_asr g1 k]
      exact ⟨cmpl_b c1 hY.1 (show 7 ≤ 2 + 5 by omega) (by omega) (by omega), (((c2.up (M := 1023 * (1 + (n - i - 1))) (by omega)).app hY.2).app (nbl_o (by omega) (by omega))).up (by omega)⟩
    · obtain ⟨_, _, c1, c2⟩ := g4 (Or.inr (Or.inr (Or.inr k)))
      rw [eq_cut g1 k]
      exact bdF_of c1 (by omega) c2
/-- a claim's formula is small -/
theorem mk_b (h : lgQ so sl sr ao al ar zs za n kd ow sb f1 f2 te kp nm tm ls po IT X Y) (hp : lsp n kd ow sb en) (hn : 1 ≤ n ∧ n ≤ 20) (hf : ∀ i, i < n → kd i = 8 → i < f1 i ∧ f1 i < n ∧ i < f2 i ∧ f2 i < n) (hw : ∀ i, i < n → kd i = 12 → f1 i < n) (hr : cmpl 18 pr ∧ nbl 1023 pr)
    (hc : (k = 0 ∧ s = 4294967295) ∨ (s < n ∧ ((k = 4 ∧ kd s = 123) ∨ ((k = 1 ∨ k = 2) ∧ kd s = 12) ∨ (k = 3 ∧ kd s = 12 ∧ nm s < 128)))) : cmpl 64 (mkF pr po X Y f1 IT k s) ∧ nbl 21483 (mkF pr po X Y f1 IT k s) := by
  have hX : ∀ j, j < n → bdF 20 (fFm po (X j)) := fun j hj => (bX h hp hn.2 hf n j hj (by omega)).up (by omega)
  have hX2 : ∀ j, 0 ≤ j → j < n → bdF (n - j) (fFm po (X j)) := fun j _ hj => bX h hp hn.2 hf n j hj (by omega)
  have hY : ∀ j, j < n → bdF 20 (fFm po (Y j)) := fun j hj => (bY h hp hn.2 0 hX2 (j + 1) j (by omega) hj (by omega)).up (by omega)
  have hP : cmpl 20 (if s = 4294967295 then pr else prF (IT s) k) ∧ nbl 1023 (if s = 4294967295 then pr else prF (IT s) k) := by
    rcases hc with ⟨_, c⟩ | ⟨c, c2⟩
    · rw [if_pos c]; exact ⟨hr.1.up (by omega), hr.2⟩
    · rw [if_neg (by omega)]
      unfold prF
      by_cases q4 : k = 4
      · rw [if_pos q4]
        obtain ⟨_, _, a1, a2⟩ := (h.2.2.2 s c).2.2.2.2.1 (by omega)
        exact ⟨a1.up (by omega), a2⟩
      · have hk : kd s = 12 := by omega
        have hb := h.wh c hk
        obtain ⟨⟨b1, b2⟩, ⟨b3, b4⟩, _⟩ := hb
        rw [if_neg q4]
        by_cases q2 : k = 2
        · rw [if_pos q2]
          exact ⟨cmpl_b b3 (cmpl_n b1 rfl) (show 7 ≤ 2 + 5 by omega) (by omega) (by omega), (b4.app (b2.app (nbl_o (by omega) (by omega)))).app (nbl_o (by omega) (by omega))⟩
        · rw [if_neg q2]
          by_cases q3 : k = 3
          · rw [if_pos q3]
            exact ⟨cmpl_b b3 b1 (show 7 ≤ 2 + 5 by omega) (by omega) (by omega), (b4.app b2).app (nbl_o (by omega) (by omega))⟩
          · rw [if_neg q3]; exact wh_b (h.wh c hk)
  have hC : bdF 20 (coF po X Y f1 (IT s) k s) := by
    unfold coF
    by_cases q0 : k = 0
    · rw [if_pos q0]; exact hX 0 (by omega)
    · obtain ⟨c, c2⟩ := hc.resolve_left (fun q => q0 q.1)
      rw [if_neg q0]
      by_cases q1 : k = 1
      · rw [if_pos q1]; exact hX _ (hw s c (by omega))
      · rw [if_neg q1]
        by_cases q3 : k = 3
        · rw [if_pos q3]
          have hk : kd s = 12 ∧ nm s < 128 := by omega
          obtain ⟨_, _, _, _, b3⟩ := (h.2.2.2 s c).2.2.2.2.2 hk.1
          obtain ⟨_, _, _, _, t⟩ := b3.resolve_left (fun q => by omega)
          exact bdF_of (cmpl_a (s := (1, (IT s).2.2.2.1, (10, 0))) (show 1 < 6 by omega)) (by omega) (nbl_1 ⟨show 1 ≤ 8 by omega, fun _ => ⟨t, tmb_z (by omega)⟩⟩)
        · rw [if_neg q3]; exact hY s c
  unfold mkF imp9
  exact ⟨(cmpl_b (d := 63) (cmpl_n hP.1 rfl) hC.1 (show 7 ≤ 3 + 5 by omega) (by omega) (by omega)).up (by omega), (((hP.2.up (M := 1023 * (1 + 20)) (by omega)).app (nbl_o (by omega) (by omega))).app hC.2 |>.app (nbl_o (by omega) (by omega))).up (by omega)⟩
end BND
