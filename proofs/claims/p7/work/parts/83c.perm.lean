/-- a condition comes ahead of another -/
def kbf (x y : cdT) : Prop := x.2.1 < y.2.1 ∨ (x.2.1 = y.2.1 ∧ x.1 < y.1)
theorem srt_uniq : ∀ (l' l : List cdT), l.Perm l' → l.Pairwise (fun x y => ¬ kbf y x) → l'.Pairwise kbf → l = l'
  | [], l, hp, _, _ => List.Perm.eq_nil hp
  | y :: t', l, hp, h1, h2 => by
    cases l with
    | nil => exact absurd hp.symm.eq_nil (by simp)
    | cons x t =>
      obtain ⟨a1, a2⟩ := List.pairwise_cons.mp h1
      obtain ⟨b1, b2⟩ := List.pairwise_cons.mp h2
      by_cases e : x = y
      · subst e
        rw [srt_uniq t' t (List.Perm.cons_inv hp) a2 b2]
      · have hx : x ∈ y :: t' := hp.subset List.mem_cons_self
        have hy : y ∈ x :: t := hp.symm.subset List.mem_cons_self
        have hx2 : x ∈ t' := (List.mem_cons.mp hx).resolve_left e
        have hy2 : y ∈ t := (List.mem_cons.mp hy).resolve_left (fun q => e q.symm)
        exact absurd (b1 x hx2) (a1 y hy2)
/-- the first n of them -/
def lcd (f : Nat → cdT) : Nat → List cdT
  | 0 => []
  | n + 1 => lcd f n ++ [f n]
theorem cdl_lcd {ck cm ca cz : Nat → Nat} {kp : Nat → Int32} : ∀ n, cdl ck cm ca cz kp n = lcd (cdD ck cm ca cz kp) n
  | 0 => rfl
  | n + 1 => by
    show cdl ck cm ca cz kp n ++ _ = lcd (cdD ck cm ca cz kp) n ++ _
    rw [cdl_lcd n]
theorem lcd_congr {f f' : Nat → cdT} : ∀ n, (∀ j, j < n → f' j = f j) → lcd f' n = lcd f n
  | 0, _ => rfl
  | n + 1, h => by
    show lcd f' n ++ [f' n] = lcd f n ++ [f n]
    rw [lcd_congr n (fun j hj => h j (by omega)), h n (Nat.lt_succ_self n)]
theorem lcd_mem {f : Nat → cdT} {x : cdT} : ∀ n, x ∈ lcd f n → ∃ j, j < n ∧ x = f j
  | 0, h => absurd h List.not_mem_nil
  | n + 1, h => by
    rcases List.mem_append.mp h with h | h
    · obtain ⟨j, h1, h2⟩ := lcd_mem n h
      exact ⟨j, by omega, h2⟩
    · exact ⟨n, Nat.lt_succ_self n, List.mem_singleton.mp h⟩
theorem lcd_swap {f f' : Nat → cdT} {j : Nat} (h1 : f' j = f (j + 1)) (h2 : f' (j + 1) = f j) (h3 : ∀ i, i ≠ j → i ≠ j + 1 → f' i = f i) : ∀ n, j + 1 < n → (lcd f' n).Perm (lcd f n)
  | 0, h => absurd h (by omega)
  | n + 1, h => by
    by_cases e : j + 1 = n
    · subst e
      show (lcd f' j ++ [f' j] ++ [f' (j + 1)]).Perm (lcd f j ++ [f j] ++ [f (j + 1)])
      rw [lcd_congr (f := f) j (fun i hi => h3 i (by omega) (by omega)), h1, h2, List.append_assoc, List.append_assoc]
      exact List.Perm.append_left _ (List.Perm.swap _ _ _)
    · show (lcd f' n ++ [f' n]).Perm (lcd f n ++ [f n])
      rw [h3 n (by omega) (by omega)]
      exact (lcd_swap h1 h2 h3 n (by omega)).append_right _
theorem lcd_pw {f : Nat → cdT} : ∀ n, (∀ i j, i < j → j < n → ¬ kbf (f j) (f i)) → (lcd f n).Pairwise (fun x y => ¬ kbf y x)
  | 0, _ => List.Pairwise.nil
  | n + 1, h => by
    refine List.pairwise_append.mpr ⟨lcd_pw n (fun i j a b => h i j a (by omega)), List.pairwise_singleton _ _, fun x hx y hy => ?_⟩
    obtain ⟨i, hi, e⟩ := lcd_mem n hx
    rw [e, List.mem_singleton.mp hy]
    exact h i n hi (Nat.lt_succ_self n)
/-- by the rows of kinds and numbers -/
def bfr (ck cm : Nat → Nat) (a b : Nat) : Prop := cm a < cm b ∨ (cm a = cm b ∧ ck a < ck b)
def swa (f : Nat → Nat) (j : Nat) : Nat → Nat := sup (sup f j (f (j - 1))) (j - 1) (f j)
/-- an insertion under way: all up to k in order but the one at j, which is ahead of all behind it -/
def ins (ck cm : Nat → Nat) (k j : Nat) : Prop := (∀ a b, a < b → b ≤ k → a ≠ j → b ≠ j → ¬ bfr ck cm b a) ∧ (∀ b, j < b → b ≤ k → ¬ bfr ck cm b j)
def sod (ck cm : Nat → Nat) (k : Nat) : Prop := ∀ a b, a < b → b < k → ¬ bfr ck cm b a
def cbd (ck cm : Nat → Nat) (n : Nat) : Prop := ∀ c, c < n → ck c < 1000 ∧ cm c < 1000
theorem cbd.swap {ck cm : Nat → Nat} {n j : Nat} (h : cbd ck cm n) (h0 : 0 < j) (hn : j < n) : cbd (swa ck j) (swa cm j) n := by
  intro c hc
  unfold swa
  by_cases e : c = j - 1
  · rw [e, sup_eq, sup_eq]; exact h j hn
  · rw [sup_ne e, sup_ne e]
    by_cases e2 : c = j
    · rw [e2, sup_eq, sup_eq]; exact h (j - 1) (by omega)
    · rw [sup_ne e2, sup_ne e2]; exact h c hc
def bq9 (u : Nat) (P : Prop) : Prop := (u = 1 ∧ P) ∨ (u = 0 ∧ ¬ P)
theorem bq9.y {u : Nat} {P : Prop} (h : bq9 u P) (hu : ¬ u = 0) : P := by
  rcases h with h | h
  · exact h.2
  · exact absurd h.1 hu
theorem bq9.n {u : Nat} {P : Prop} (h : bq9 u P) (hu : u = 0) : ¬ P := by
  rcases h with h | h
  · exact absurd (h.1.symm.trans hu) (by decide)
  · exact h.2
theorem sod.dn {ck cm : Nat → Nat} {n k : Nat} (h : sod ck cm k) (hn : n ≤ k) : sod ck cm n := fun a b h1 h2 => h a b h1 (by omega)
section SRT
variable {ck cm ca cz : Nat → Nat} {kp : Nat → Int32} {k j n : Nat} {L : List cdT}
theorem sod_1 : sod ck cm 1 := fun a b h1 h2 => by omega
theorem ins_0 (h : sod ck cm k) : ins ck cm k k := ⟨fun a b h1 h2 h3 h4 => h a b h1 (by omega), fun b h1 h2 => by omega⟩
theorem ins_e (h : ins ck cm k j) (hj : j = 0 ∨ ¬ bfr ck cm j (j - 1)) (hk : j ≤ k) : sod ck cm (k + 1) := by
  intro a b h1 h2
  by_cases ea : a = j
  · subst ea; exact h.2 b h1 (by omega)
  · by_cases eb : b = j
    · subst eb
      have hn := hj.resolve_left (by omega)
      by_cases e : a = b - 1
      · subst e; exact hn
      · have := h.1 a (b - 1) (by omega) (by omega) (by omega) (by omega)
        unfold bfr at *
        omega
    · exact h.1 a b h1 (by omega) ea eb
theorem ins_s (h : ins ck cm k j) (h0 : 0 < j) (hj : j ≤ k) (hb : bfr ck cm j (j - 1)) : ins (swa ck j) (swa cm j) k (j - 1) := by
  have s1 : ∀ f : Nat → Nat, swa f j (j - 1) = f j := fun f => sup_eq
  have s2 : ∀ f : Nat → Nat, swa f j j = f (j - 1) := fun f => (sup_ne (by omega)).trans sup_eq
  have s3 : ∀ (f : Nat → Nat) i, i ≠ j → i ≠ j - 1 → swa f j i = f i := fun f i p q => (sup_ne q).trans (sup_ne p)
  have hg : ∀ i, i ≠ j - 1 → ∃ i', i' ≠ j ∧ swa ck j i = ck i' ∧ swa cm j i = cm i' ∧ (i = j → i' = j - 1) ∧ (i ≠ j → i' = i) := by
    intro i hi
    by_cases e : i = j
    · subst e
      exact ⟨i - 1, by omega, s2 ck, s2 cm, fun _ => rfl, fun q => absurd rfl q⟩
    · exact ⟨i, e, s3 ck i e hi, s3 cm i e hi, fun q => absurd q e, fun _ => rfl⟩
  refine ⟨fun a b h1 h2 h3 h4 => ?_, fun b h1 h2 => ?_⟩
  · obtain ⟨a', p1, p2, p3, p4, p5⟩ := hg a h3
    obtain ⟨b', q1, q2, q3, q4, q5⟩ := hg b h4
    have := h.1 a' b' (by
      by_cases ea : a = j
      · have := p4 ea
        by_cases eb : b = j
        · omega
        · have := q5 eb; omega
      · have := p5 ea
        by_cases eb : b = j
        · have := q4 eb; omega
        · have := q5 eb; omega) (by
      by_cases eb : b = j
      · have := q4 eb; omega
      · have := q5 eb; omega) p1 q1
    unfold bfr at *
    rw [p2, p3, q2, q3]
    exact this
  · obtain ⟨b', q1, q2, q3, q4, q5⟩ := hg b (by omega)
    unfold bfr at *
    rw [s1, s1, q2, q3]
    by_cases eb : b = j
    · rw [q4 eb]; omega
    · rw [q5 eb]
      have := h.2 b (by omega) h2
      unfold bfr at this
      exact this
theorem cdl_swap (h0 : 0 < j) (hn : j < n) : (cdl (swa ck j) (swa cm j) (swa ca j) (swa cz j) kp n).Perm (cdl ck cm ca cz kp n) := by
  rw [cdl_lcd, cdl_lcd]
  have s1 : ∀ f : Nat → Nat, swa f j (j - 1) = f j := fun f => sup_eq
  have s2 : ∀ f : Nat → Nat, swa f j j = f (j - 1) := fun f => (sup_ne (by omega)).trans sup_eq
  have s3 : ∀ (f : Nat → Nat) i, i ≠ j → i ≠ j - 1 → swa f j i = f i := fun f i p q => (sup_ne q).trans (sup_ne p)
  refine lcd_swap (j := j - 1) ?_ ?_ (fun i p q => ?_) n (by omega)
  · unfold cdD
    rw [s1, s1, s1, s1, show j - 1 + 1 = j by omega]
  · rw [show j - 1 + 1 = j by omega]
    unfold cdD
    rw [s2, s2, s2, s2]
  · have q' : i ≠ j := by omega
    unfold cdD
    rw [s3 _ i q' p, s3 _ i q' p, s3 _ i q' p, s3 _ i q' p]
/-- sorted, they are the conditions in their order -/
theorem cdl_end (hs : sod ck cm n) (hp : (cdl ck cm ca cz kp n).Perm L) (hL : L.Pairwise kbf) : cdl ck cm ca cz kp n = L := by
  refine srt_uniq _ _ hp ?_ hL
  rw [cdl_lcd]
  exact lcd_pw n (fun i j a b => hs i j a b)
end SRT
/-- conditions in the order in which they are kept -/
def fCd (po : List sgT) : List itT → List cdT
  | [] => []
  | it :: l => fCd po l ++ wkC it (fSt po l)
theorem fCd_perm {po : List sgT} : ∀ l, (fCd po l).Perm (gCd po l)
  | [] => List.Perm.refl _
  | it :: l => by
    show (fCd po l ++ wkC it (fSt po l)).Perm (wkC it (fSt po l) ++ gCd po l)
    exact (List.perm_append_comm).trans ((fCd_perm l).append_left _)
/-- items numbered one after the other -/
def nmb : Nat → List itT → Prop
  | _, [] => True
  | n, it :: l => ((it.1 = 3 ∨ it.1 = 4 ∨ it.1 = 6) ∧ nmb n l) ∨ (it.2.1 = n + 1 ∧ nmb (n + 1) l)
theorem wkC_num {it : itT} {S : List (List sgT)} {x : cdT} (h : x ∈ wkC it S) : x.2.1 = it.2.1 ∧ 1 ≤ x.1 ∧ (it.1 = 5 ∨ it.1 = 8) := by
  unfold wkC at h
  by_cases c8 : it.1 = 8
  · rw [if_pos c8] at h
    rw [List.mem_singleton.mp h]
    exact ⟨rfl, by show 1 ≤ 4; omega, Or.inr c8⟩
  · rw [if_neg c8] at h
    by_cases c5 : it.1 = 5
    · rw [if_pos c5] at h
      rcases List.mem_append.mp h with h | h
      · rcases List.mem_cons.mp h with h | h
        · rw [h]; exact ⟨rfl, Nat.le_refl 1, Or.inl c5⟩
        · rw [List.mem_singleton.mp h]; exact ⟨rfl, by show 1 ≤ 2; omega, Or.inl c5⟩
      · by_cases c6 : it.2.2.1 < 6
        · rw [if_pos c6] at h; exact absurd h List.not_mem_nil
        · rw [if_neg c6] at h
          rw [List.mem_singleton.mp h]; exact ⟨rfl, by show 1 ≤ 3; omega, Or.inl c5⟩
    · rw [if_neg c5] at h; exact absurd h List.not_mem_nil
theorem gCd_num {po : List sgT} : ∀ (l : List itT) (n : Nat), nmb n l → ∀ x, x ∈ gCd po l → n < x.2.1 ∧ 1 ≤ x.1
  | [], _, _, x, h => absurd h List.not_mem_nil
  | it :: l, n, hn, x, h => by
    rcases List.mem_append.mp h with h | h
    · obtain ⟨a, b, c⟩ := wkC_num h
      rcases hn with ⟨c1, _⟩ | ⟨c1, _⟩
      · omega
      · exact ⟨by omega, b⟩
    · rcases hn with ⟨_, c2⟩ | ⟨_, c2⟩
      · exact gCd_num l n c2 x h
      · have := gCd_num l (n + 1) c2 x h
        exact ⟨by omega, this.2⟩
theorem wkC_pw {it : itT} {S : List (List sgT)} : (wkC it S).Pairwise kbf := by
  unfold wkC
  by_cases c8 : it.1 = 8
  · rw [if_pos c8]; exact List.pairwise_singleton _ _
  · rw [if_neg c8]
    by_cases c5 : it.1 = 5
    · rw [if_pos c5]
      refine List.pairwise_append.mpr ⟨?_, ?_, ?_⟩
      · refine List.pairwise_cons.mpr ⟨fun y hy => ?_, List.pairwise_singleton _ _⟩
        rw [List.mem_singleton.mp hy]
        exact Or.inr ⟨rfl, by show 1 < 2; omega⟩
      · by_cases c6 : it.2.2.1 < 6
        · rw [if_pos c6]; exact List.Pairwise.nil
        · rw [if_neg c6]; exact List.pairwise_singleton _ _
      · intro x hx y hy
        by_cases c6 : it.2.2.1 < 6
        · rw [if_pos c6] at hy; exact absurd hy List.not_mem_nil
        · rw [if_neg c6] at hy
          rw [List.mem_singleton.mp hy]
          rcases List.mem_cons.mp hx with h | h
          · rw [h]; exact Or.inr ⟨rfl, by show 1 < 3; omega⟩
          · rw [List.mem_singleton.mp h]; exact Or.inr ⟨rfl, by show 2 < 3; omega⟩
    · rw [if_neg c5]; exact List.Pairwise.nil
theorem gCd_pw {po : List sgT} : ∀ (l : List itT) (n : Nat), nmb n l → (gCd po l).Pairwise kbf
  | [], _, _ => List.Pairwise.nil
  | it :: l, n, hn => by
    refine List.pairwise_append.mpr ⟨wkC_pw, ?_, fun x hx y hy => ?_⟩
    · rcases hn with ⟨_, c2⟩ | ⟨_, c2⟩
      · exact gCd_pw l n c2
      · exact gCd_pw l (n + 1) c2
    · obtain ⟨a, _, c⟩ := wkC_num hx
      rcases hn with ⟨c1, _⟩ | ⟨c1, c2⟩
      · omega
      · have := (gCd_num l (n + 1) c2 y hy).1
        exact Or.inl (by omega)
theorem gCd_all {po : List sgT} {l : List itT} {m : List sgT} (hn : nmb 0 l) : ((0, 0, m) :: gCd po l : List cdT).Pairwise kbf := by
  refine List.pairwise_cons.mpr ⟨fun y hy => ?_, gCd_pw l 0 hn⟩
  exact Or.inl (gCd_num l 0 hn y hy).1
