/-- the last j items of n -/
def sfi (f : Nat → itT) (n : Nat) : Nat → List itT
  | 0 => []
  | j + 1 => f (n - (j + 1)) :: sfi f n j
theorem sfi_s {f : Nat → itT} {n k : Nat} (h : k < n) : sfi f n (n - k) = f k :: sfi f n (n - (k + 1)) := by
  rw [show n - k = (n - (k + 1)) + 1 by omega]
  show f (n - (n - (k + 1) + 1)) :: _ = _
  rw [show n - (n - (k + 1) + 1) = k by omega]
section SFI
variable {op nu tg gs lk fi fs se ss : Nat → Nat} {tn tm vr pl : Nat → Int32} {B n i : Nat} {S : List (List sgT)}
theorem sfi_itl : ∀ j, j ≤ n → itl op nu tg gs lk fi fs se ss tn tm vr pl B (n - j) ++ sfi (fun k => itD op nu tg gs lk fi fs se ss tn tm vr pl (B + k)) n j = itl op nu tg gs lk fi fs se ss tn tm vr pl B n
  | 0, _ => by
    rw [Nat.sub_zero]
    exact List.append_nil _
  | j + 1, h => by
    have ih := sfi_itl j (by omega)
    rw [show n - j = (n - (j + 1)) + 1 by omega] at ih
    rw [← ih]
    show _ ++ (itD op nu tg gs lk fi fs se ss tn tm vr pl (B + (n - (j + 1))) :: _) = (_ ++ [itD op nu tg gs lk fi fs se ss tn tm vr pl (B + (n - (j + 1)))]) ++ _
    rw [List.append_assoc]; rfl
theorem sfi_all : sfi (fun k => itD op nu tg gs lk fi fs se ss tn tm vr pl (B + k)) n (n - 0) = itl op nu tg gs lk fi fs se ss tn tm vr pl B n := by
  have := sfi_itl (op := op) (nu := nu) (tg := tg) (gs := gs) (lk := lk) (fi := fi) (fs := fs) (se := se) (ss := ss) (tn := tn) (tm := tm) (vr := vr) (pl := pl) (B := B) (n := n) n (Nat.le_refl _)
  rw [Nat.sub_self] at this
  rw [Nat.sub_zero]
  exact this
theorem mk_0 (h : op i = 0) : wkS (itD op nu tg gs lk fi fs se ss tn tm vr pl i) S = sbL (tg i) (nmI (tn i), tm i) (hd9 S) :: tl9 S := by
  rw [itD_n (by omega), itd_0 h]; rfl
theorem mk_1 (h : op i = 1) : wkS (itD op nu tg gs lk fi fs se ss tn tm vr pl i) S = S := by
  rw [itD_n (by omega), itd_1 h]; rfl
theorem mk_2 (h : op i = 2) : wkS (itD op nu tg gs lk fi fs se ss tn tm vr pl i) S = ifF (sgl pl (fi i) (fs i)) (hd9 S) (hd9 (tl9 S)) :: tl9 (tl9 S) := by
  rw [itD_n (by omega), itd_2 h]; rfl
theorem mk_3 (h : op i = 3) : wkS (itD op nu tg gs lk fi fs se ss tn tm vr pl i) S = hd9 (tl9 S) :: hd9 S :: tl9 (tl9 S) := by
  rw [itD_n (by omega), itd_3 h]; rfl
theorem mk_4 (h : op i = 4) : wkS (itD op nu tg gs lk fi fs se ss tn tm vr pl i) S = hd9 S :: hd9 S :: tl9 S := by
  rw [itD_n (by omega), itd_4 h]; rfl
theorem mk_5 (h : op i = 5) : wkS (itD op nu tg gs lk fi fs se ss tn tm vr pl i) S = sgl pl (se i) (ss i) :: tl9 (tl9 S) := by
  rw [itD_n (by omega), itd_5 h]; rfl
theorem mk_6 (h : op i = 6) (h5 : op (lk i) = 5) (hg : ¬ vr (lk i) = 0 → 6 ≤ gs (lk i)) : wkS (itD op nu tg gs lk fi fs se ss tn tm vr pl i) S = odq (vr (lk i)) (gs (lk i)) (nmI (tn (lk i)), tm (lk i)) (sgl pl (se (lk i)) (ss (lk i))) :: S := by
  rw [itD_6 h, itd_5 h5, wk_6 rfl]
  congr 1
  unfold odF odI odq
  by_cases c : vr (lk i) = 0
  · rw [if_pos c]
    simp only [if_pos c]
    rfl
  · rw [if_neg c]
    simp only [if_neg c]
    rw [if_neg (by have := hg c; omega)]
theorem mk_7 (h : op i = 7) : wkS (itD op nu tg gs lk fi fs se ss tn tm vr pl i) S = (sgl pl (fi i) (fs i) ++ hd9 S ++ [opS 2]) :: tl9 S := by
  rw [itD_n (by omega), itd_7 h]; rfl
theorem mk_8 (h : op i = 8) : wkS (itD op nu tg gs lk fi fs se ss tn tm vr pl i) S = sgl pl (fi i) (fs i) :: tl9 S := by
  rw [itD_n (by omega), itd_8 h]; rfl
theorem mc_0 (h : op i = 0 ∨ op i = 1 ∨ op i = 2 ∨ op i = 3 ∨ op i = 4 ∨ op i = 6 ∨ op i = 7) : wkC (itD op nu tg gs lk fi fs se ss tn tm vr pl i) S = [] := by
  rcases h with h | h | h | h | h | h | h
  · rw [itD_n (by omega), itd_0 h]; rfl
  · rw [itD_n (by omega), itd_1 h]; rfl
  · rw [itD_n (by omega), itd_2 h]; rfl
  · rw [itD_n (by omega), itd_3 h]; rfl
  · rw [itD_n (by omega), itd_4 h]; rfl
  · rw [itD_6 h]; rfl
  · rw [itD_n (by omega), itd_7 h]; rfl
theorem mc_5 (h : op i = 5) : wkC (itD op nu tg gs lk fi fs se ss tn tm vr pl i) S = wkC (5, nu i, if vr i = 0 then 0 else gs i, if vr i = 0 then (0, 0) else (nmI (tn i), tm i), sgl pl (fi i) (fs i), sgl pl (se i) (ss i)) S := by
  rw [itD_n (by omega), itd_5 h]
theorem mc_8 (h : op i = 8) : wkC (itD op nu tg gs lk fi fs se ss tn tm vr pl i) S = [(4, nu i, imp9 (sgl pl (fi i) (fs i)) (hd9 S))] := by
  rw [itD_n (by omega), itd_8 h]; rfl
end SFI
/-- whiles with a variant have a ghost -/
def g6p (op : Nat → Nat) (vr : Nat → Int32) (gs : Nat → Nat) (B n : Nat) : Prop := ∀ k, k < n → op (B + k) = 5 → ¬ vr (B + k) = 0 → 6 ≤ gs (B + k)
theorem g6_at {op gs : Nat → Nat} {vr : Nat → Int32} {B n i : Nat} (h : g6p op vr gs B n) (h1 : B ≤ i) (h2 : i < B + n) (h5 : op i = 5) : ¬ vr i = 0 → 6 ≤ gs i := by
  have := h (i - B) (by omega)
  rw [show B + (i - B) = i by omega] at this
  exact this h5
theorem itl_len {op nu tg gs lk fi fs se ss : Nat → Nat} {tn tm vr pl : Nat → Int32} {B : Nat} : ∀ n, (itl op nu tg gs lk fi fs se ss tn tm vr pl B n).length = n
  | 0 => rfl
  | n + 1 => by
    show (itl op nu tg gs lk fi fs se ss tn tm vr pl B n ++ [_]).length = n + 1
    rw [List.length_append, itl_len n]; rfl
theorem fCd_all {po : List sgT} {l : List itT} {c : cdT} : (fCd po l ++ [c]).Perm (c :: gCd po l) := (List.perm_append_comm).trans ((fCd_perm l).cons c)
theorem wkC_k {it : itT} {S : List (List sgT)} {x : cdT} (h : x ∈ wkC it S) : x.1 ≤ 4 := by
  unfold wkC at h
  by_cases c8 : it.1 = 8
  · rw [if_pos c8] at h
    rw [List.mem_singleton.mp h]; exact Nat.le_refl 4
  · rw [if_neg c8] at h
    by_cases c5 : it.1 = 5
    · rw [if_pos c5] at h
      rcases List.mem_append.mp h with h | h
      · rcases List.mem_cons.mp h with h | h
        · rw [h]; show 1 ≤ 4; omega
        · rw [List.mem_singleton.mp h]; show 2 ≤ 4; omega
      · by_cases c6 : it.2.2.1 < 6
        · rw [if_pos c6] at h; exact absurd h List.not_mem_nil
        · rw [if_neg c6] at h
          rw [List.mem_singleton.mp h]; show 3 ≤ 4; omega
    · rw [if_neg c5] at h; exact absurd h List.not_mem_nil
theorem gCd_le {po : List sgT} : ∀ (l : List itT) (n : Nat), nmb n l → ∀ x, x ∈ gCd po l → x.2.1 ≤ n + l.length ∧ x.1 ≤ 4
  | [], _, _, x, h => absurd h List.not_mem_nil
  | it :: l, n, hn, x, h => by
    rw [List.length_cons]
    rcases List.mem_append.mp h with h | h
    · obtain ⟨a, _, c⟩ := wkC_num h
      have hk := wkC_k h
      rcases hn with ⟨c1, _⟩ | ⟨c1, _⟩
      · omega
      · exact ⟨by omega, hk⟩
    · rcases hn with ⟨_, c2⟩ | ⟨_, c2⟩
      · have := gCd_le l n c2 x h
        exact ⟨by omega, this.2⟩
      · have := gCd_le l (n + 1) c2 x h
        exact ⟨by omega, this.2⟩
theorem cnl_b {po : List sgT} {l : List itT} {m : List sgT} (hn : nmb 0 l) (hl : l.length ≤ 100) : ∀ x, x ∈ fCd po l ++ [((0, 0, m) : cdT)] → x.1 < 1000 ∧ x.2.1 < 1000 := by
  intro x hx
  rcases List.mem_append.mp hx with h | h
  · have := gCd_le l 0 hn x ((fCd_perm l).subset h)
    omega
  · rw [List.mem_singleton.mp h]
    exact ⟨by show 0 < 1000; omega, by show 0 < 1000; omega⟩
theorem lcd_in {f : Nat → cdT} {j : Nat} : ∀ n, j < n → f j ∈ lcd f n
  | 0, h => absurd h (Nat.not_lt_zero _)
  | n + 1, h => by
    by_cases e : j = n
    · subst e; exact List.mem_append.mpr (Or.inr (List.mem_singleton.mpr rfl))
    · exact List.mem_append.mpr (Or.inl (lcd_in n (by omega)))
theorem cbd_of {ck cm ca cz : Nat → Nat} {kp : Nat → Int32} {n : Nat} (h : ∀ x, x ∈ cdl ck cm ca cz kp n → x.1 < 1000 ∧ x.2.1 < 1000) : cbd ck cm n := by
  intro c hc
  rw [cdl_lcd] at h
  exact h _ (lcd_in (f := cdD ck cm ca cz kp) n hc)
