/-- the places that a statement names lie within a .. b -/
def rgf (a b : Nat) (kd sb f1 f2 : Nat → Nat) (i : Nat) : Prop := (¬ sb i = 4294967295 → a ≤ sb i ∧ sb i < b) ∧ (kd i = 8 ∨ kd i = 12 → a ≤ f1 i ∧ f1 i < b) ∧ (kd i = 8 → a ≤ f2 i ∧ f2 i < b)
/-- what follows a statement that is not the last one -/
def inn (a b : Nat) (kd ow sb : Nat → Nat) (IT : Nat → itT) (X Y : Nat → List itT) (i : Nat) : Prop := (¬ sb i = 4294967295 ∧ X (sb i) = Y i) ∨ (sb i = 4294967295 ∧ a ≤ ow i ∧ ow i < b ∧ ((kd (ow i) = 12 ∧ Y i = odI (IT (ow i)) :: Y (ow i)) ∨ (kd (ow i) = 8 ∧ (Y i = it4 :: Y (ow i) ∨ ∃ U : List itT, bal U ∧ Y i = it3 :: (U ++ it4 :: Y (ow i))))))
/-- the items, one statement behind the other -/
def nxr (IT : Nat → itT) (X : Nat → List itT) (a b : Nat) : Prop := (∀ s, a ≤ s → s + 1 < b → ∃ m, mrk m ∧ X s = IT s :: (m ++ X (s + 1))) ∧ (a < b → ∃ m, mrk m ∧ X (b - 1) = IT (b - 1) :: m)
/-- statements a .. b, one behind the other, the last one ls, in w; their items M -/
def blk (a b : Nat) (kd ow sb f1 f2 : Nat → Nat) (IT : Nat → itT) (X Y : Nat → List itT) (w ls : Nat) (M : List itT) : Prop :=
  (a ≤ ls ∧ ls < b) ∧ (∀ i, a ≤ i → i < b → fst9 kd f1 f2 IT X Y i ∧ rgf a b kd sb f1 f2 i) ∧ (sb ls = 4294967295 ∧ ow ls = w ∧ Y ls = []) ∧ (∀ i, a ≤ i → i < b → i ≠ ls → inn a b kd ow sb IT X Y i) ∧ (X a = M ∧ bal M) ∧ nxr IT X a b
section BLK
variable {a b a' b' c s i w ls ls1 ls2 : Nat} {kd ow sb f1 f2 kd' ow' sb' f1' f2' kd1 ow1 sb1 f11 f21 kd2 ow2 sb2 f12 f22 : Nat → Nat} {IT IT' IT1 IT2 : Nat → itT} {X Y X' Y' X1 Y1 X2 Y2 : Nat → List itT} {Z M M1 M2 : List itT} {it : itT}
theorem inn.snd (h : inn a b kd ow sb IT X Y i) : snd9 kd ow sb IT X Y w i := by
  rcases h with ⟨h1, h2⟩ | ⟨h1, _, _, h2⟩
  · exact ⟨fun _ => h2, fun q => absurd q h1⟩
  · exact ⟨fun q => absurd h1 q, fun _ => Or.inr h2⟩
theorem rgf.up (h : rgf a b kd sb f1 f2 i) (e1 : kd' i = kd i) (e2 : sb' i = sb i) (e3 : f1' i = f1 i) (e4 : f2' i = f2 i) (ha : a' ≤ a) (hb : b ≤ b') : rgf a' b' kd' sb' f1' f2' i := by
  obtain ⟨h1, h2, h3⟩ := h
  unfold rgf
  rw [e1, e2, e3, e4]
  refine ⟨fun q => ?_, fun q => ?_, fun q => ?_⟩
  · have := h1 q; omega
  · have := h2 q; omega
  · have := h3 q; omega
/-- more is read: all grows at its end -/
theorem inn.up (h : inn a b kd ow sb IT X Y i) (hr : rgf a b kd sb f1 f2 i) (hi : a ≤ i ∧ i < b) (es : sb' i = sb i) (e : ∀ j, a ≤ j → j < b → kd' j = kd j ∧ ow' j = ow j ∧ IT' j = IT j ∧ X' j = X j ++ Z ∧ Y' j = Y j ++ Z) (ha : a' ≤ a) (hb : b ≤ b') : inn a' b' kd' ow' sb' IT' X' Y' i := by
  obtain ⟨_, e2, _, _, e5⟩ := e i hi.1 hi.2
  unfold inn
  rw [es, e2, e5]
  rcases h with ⟨h1, h2⟩ | ⟨h1, h3, h4, h2⟩
  · have hq := hr.1 h1
    exact Or.inl ⟨h1, by rw [(e _ hq.1 hq.2).2.2.2.1, h2]⟩
  · obtain ⟨k1, _, k3, _, k5⟩ := e _ h3 h4
    refine Or.inr ⟨h1, by omega, by omega, ?_⟩
    rw [k1, k3, k5]
    rcases h2 with ⟨h5, h6⟩ | ⟨h5, h6⟩
    · exact Or.inl ⟨h5, by rw [h6]; rfl⟩
    · refine Or.inr ⟨h5, ?_⟩
      rcases h6 with h6 | ⟨U, u1, u2⟩
      · exact Or.inl (by rw [h6]; rfl)
      · exact Or.inr ⟨U, u1, by rw [u2]; show it3 :: (U ++ it4 :: Y (ow i) ++ Z) = _; rw [List.append_assoc]; rfl⟩
theorem blk.fst (h : blk a b kd ow sb f1 f2 IT X Y w ls M) (hi : a ≤ i ∧ i < b) (e : ∀ j, a ≤ j → j < b → kd' j = kd j ∧ f1' j = f1 j ∧ f2' j = f2 j ∧ IT' j = IT j ∧ X' j = X j ++ Z ∧ Y' j = Y j ++ Z) : fst9 kd' f1' f2' IT' X' Y' i := by
  obtain ⟨_, h2, _⟩ := h
  obtain ⟨g1, g2⟩ := h2 i hi.1 hi.2
  obtain ⟨e1, e2, e3, e4, e5, e6⟩ := e i hi.1 hi.2
  refine g1.grow e1 e2 e3 e4 e5 e6 (fun q => ?_) (fun q => ?_)
  · have hq := g2.2.1 q
    exact (e _ hq.1 hq.2).2.2.2.2.1
  · have hq := g2.2.2 q
    exact (e _ hq.1 hq.2).2.2.2.2.1
/-- the same rows, elsewhere -/
theorem blk.fr (h : blk a b kd ow sb f1 f2 IT X Y w ls M) (e : ∀ j, a ≤ j → j < b → kd' j = kd j ∧ ow' j = ow j ∧ sb' j = sb j ∧ f1' j = f1 j ∧ f2' j = f2 j) : blk a b kd' ow' sb' f1' f2' IT X Y w ls M := by
  have hh := h
  obtain ⟨h1, h2, ⟨h3, h4, h5⟩, h6, h7, h8⟩ := hh
  refine ⟨h1, fun i p q => ?_, ?_, fun i p q r => ?_, h7, h8⟩
  · obtain ⟨x1, x2, x3, x4, x5⟩ := e i p q
    refine ⟨h.fst (Z := []) ⟨p, q⟩ (fun j p q => ?_), (h2 i p q).2.up x1 x3 x4 x5 (Nat.le_refl _) (Nat.le_refl _)⟩
    obtain ⟨y1, y2, y3, y4, y5⟩ := e j p q
    exact ⟨y1, y4, y5, rfl, (List.append_nil _).symm, (List.append_nil _).symm⟩
  · obtain ⟨x1, x2, x3, x4, x5⟩ := e ls h1.1 h1.2
    exact ⟨x3.trans h3, x2.trans h4, h5⟩
  · refine (h6 i p q r).up (Z := []) (h2 i p q).2 ⟨p, q⟩ (e i p q).2.2.1 (fun j p q => ?_) (Nat.le_refl _) (Nat.le_refl _)
    obtain ⟨y1, y2, y3, y4, y5⟩ := e j p q
    exact ⟨y1, y2, rfl, (List.append_nil _).symm, (List.append_nil _).symm⟩
/-- a simple statement -/
theorem blk_one (hk : kd s = 2 ∨ kd s = 7 ∨ kd s = 17 ∨ kd s = 123) (hi : it.1 = knI (kd s)) (hs : sb s = 4294967295) (ho : ow s = w) : blk s (s + 1) kd ow sb f1 f2 (fun _ => it) (fun _ => [it]) (fun _ => []) w s [it] := by
  refine ⟨⟨Nat.le_refl _, Nat.lt_succ_self _⟩, fun i p q => ?_, ⟨hs, ho, rfl⟩, fun i p q r => absurd (show i = s by omega) r, ⟨rfl, bal_s ?_⟩, ⟨fun k p q => by omega, fun _ => ⟨[], mrk_0, rfl⟩⟩⟩
  · have e : i = s := by omega
    subst e
    refine ⟨⟨hi, fun _ => rfl, fun q => by omega, fun q => by omega⟩, fun q => absurd hs q, fun q => by omega, fun q => by omega⟩
  · rw [hi]
    rcases hk with k | k | k | k <;> rw [k] <;> decide
/-- statements, and one more -/
theorem blk.seq (h : blk a b kd ow sb f1 f2 IT1 X1 Y1 w ls M1) (h2 : blk b c kd' ow' sb' f1' f2' IT2 X2 Y2 w b M2) (e : ∀ j, a ≤ j → j < b → kd' j = kd j ∧ ow' j = ow j ∧ sb' j = sb j ∧ f1' j = f1 j ∧ f2' j = f2 j) (h4 : b < 4294967295) : blk a c kd' ow' (sup sb' ls b) f1' f2' (fun j => if j < b then IT1 j else IT2 j) (fun j => if j < b then X1 j ++ M2 else X2 j) (fun j => if j < b then Y1 j ++ M2 else Y2 j) w b (M1 ++ M2) := by
  have hh := h
  have hh2 := h2
  obtain ⟨p1, p2, ⟨p3, p4, p5⟩, p6, ⟨p7, p8⟩, p9, p10⟩ := hh
  obtain ⟨q1, q2, ⟨q3, q4, q5⟩, q6, ⟨q7, q8⟩, q9, q10⟩ := hh2
  have lo : ∀ j, j < b → (if j < b then IT1 j else IT2 j) = IT1 j ∧ (if j < b then X1 j ++ M2 else X2 j) = X1 j ++ M2 ∧ (if j < b then Y1 j ++ M2 else Y2 j) = Y1 j ++ M2 := fun j hj => ⟨if_pos hj, if_pos hj, if_pos hj⟩
  have hi : ∀ j, b ≤ j → (if j < b then IT1 j else IT2 j) = IT2 j ∧ (if j < b then X1 j ++ M2 else X2 j) = X2 j ∧ (if j < b then Y1 j ++ M2 else Y2 j) = Y2 j := fun j hj => ⟨if_neg (by omega), if_neg (by omega), if_neg (by omega)⟩
  refine ⟨⟨by omega, by omega⟩, fun i hp hq => ?_, ⟨by rw [sup_ne (by omega)]; exact q3, q4, ((hi b (Nat.le_refl _)).2.2).trans q5⟩, fun i hp hq hr => ?_, ⟨((lo a (by omega)).2.1).trans (by rw [p7]), p8.app q8⟩, fun k hp hq => ?_, fun _ => ?_⟩
  · by_cases hb : i < b
    · obtain ⟨x1, x2, x3, x4, x5⟩ := e i hp hb
      refine ⟨h.fst (Z := M2) ⟨hp, hb⟩ (fun j u v => ?_), ?_⟩
      · obtain ⟨y1, y2, y3, y4, y5⟩ := e j u v
        exact ⟨y1, y4, y5, (lo j v).1, (lo j v).2.1, (lo j v).2.2⟩
      · have g := (p2 i hp hb).2
        by_cases el : i = ls
        · subst el
          refine ⟨fun _ => by rw [sup_eq]; omega, fun q => ?_, fun q => ?_⟩
          · rw [x1] at q; rw [x4]; have := g.2.1 q; omega
          · rw [x1] at q; rw [x5]; have := g.2.2 q; omega
        · exact g.up x1 ((sup_ne el).trans x3) x4 x5 (Nat.le_refl _) (by omega)
    · have hb' : b ≤ i := by omega
      obtain ⟨g1, g2⟩ := q2 i hb' hq
      refine ⟨h2.fst (Z := []) ⟨hb', hq⟩ (fun j u v => ?_), g2.up rfl (sup_ne (by omega)) rfl rfl (by omega) (Nat.le_refl _)⟩
      exact ⟨rfl, rfl, rfl, (hi j u).1, ((hi j u).2.1).trans (List.append_nil _).symm, ((hi j u).2.2).trans (List.append_nil _).symm⟩
  · by_cases hb : i < b
    · by_cases el : i = ls
      · subst el
        refine Or.inl ⟨by rw [sup_eq]; omega, ?_⟩
        rw [sup_eq]
        show (if b < b then X1 b ++ M2 else X2 b) = (if i < b then Y1 i ++ M2 else Y2 i)
        rw [(hi b (Nat.le_refl _)).2.1, (lo i hb).2.2, q7, p5]; rfl
      · obtain ⟨x1, x2, x3, x4, x5⟩ := e i hp hb
        refine (p6 i hp hb el).up (Z := M2) (p2 i hp hb).2 ⟨hp, hb⟩ ((sup_ne el).trans x3) (fun j u v => ?_) (Nat.le_refl _) (by omega)
        obtain ⟨y1, y2, y3, y4, y5⟩ := e j u v
        exact ⟨y1, y2, (lo j v).1, (lo j v).2.1, (lo j v).2.2⟩
    · have hb' : b ≤ i := by omega
      refine (q6 i hb' hq hr).up (Z := []) (q2 i hb' hq).2 ⟨hb', hq⟩ (sup_ne (by omega)) (fun j u v => ?_) (by omega) (Nat.le_refl _)
      exact ⟨rfl, rfl, (hi j u).1, ((hi j u).2.1).trans (List.append_nil _).symm, ((hi j u).2.2).trans (List.append_nil _).symm⟩
  · show ∃ m, mrk m ∧ (if k < b then X1 k ++ M2 else X2 k) = (if k < b then IT1 k else IT2 k) :: (m ++ (if k + 1 < b then X1 (k + 1) ++ M2 else X2 (k + 1)))
    by_cases hb : k + 1 < b
    · obtain ⟨m, m1, m2⟩ := p9 k hp hb
      refine ⟨m, m1, ?_⟩
      rw [(lo k (by omega)).1, (lo k (by omega)).2.1, (lo (k + 1) hb).2.1, m2]
      show IT1 k :: (m ++ X1 (k + 1) ++ M2) = _
      rw [List.append_assoc]
    · by_cases hb2 : k + 1 = b
      · obtain ⟨m, m1, m2⟩ := p10 (by omega)
        refine ⟨m, m1, ?_⟩
        rw [show b - 1 = k by omega] at m2
        rw [(lo k (by omega)).1, (lo k (by omega)).2.1, (hi (k + 1) (by omega)).2.1, m2, hb2, q7]; rfl
      · obtain ⟨m, m1, m2⟩ := q9 k (by omega) hq
        exact ⟨m, m1, by rw [(hi k (by omega)).1, (hi k (by omega)).2.1, (hi (k + 1) (by omega)).2.1, m2]⟩
  · obtain ⟨m, m1, m2⟩ := q10 (by omega)
    exact ⟨m, m1, by
      show (if c - 1 < b then X1 (c - 1) ++ M2 else X2 (c - 1)) = (if c - 1 < b then IT1 (c - 1) else IT2 (c - 1)) :: m
      rw [(hi (c - 1) (by omega)).1, (hi (c - 1) (by omega)).2.1, m2]⟩
/-- a branch of two parts -/
theorem blk_br (h1 : blk (s + 1) b kd ow sb f1 f2 IT1 X1 Y1 s ls1 M1) (h2 : blk b c kd ow sb f1 f2 IT2 X2 Y2 s ls2 M2) (hk : kd s = 8) (hf1 : f1 s = s + 1) (hf2 : f2 s = b) (hs : sb s = 4294967295) (ho : ow s = w) (hi : it.1 = 2) : blk s c kd ow sb f1 f2 (fun j => if j = s then it else if j < b then IT1 j else IT2 j) (fun j => if j = s then it :: (M1 ++ it3 :: (M2 ++ [it4])) else if j < b then X1 j ++ it3 :: (M2 ++ [it4]) else X2 j ++ [it4]) (fun j => if j = s then [] else if j < b then Y1 j ++ it3 :: (M2 ++ [it4]) else Y2 j ++ [it4]) w s (it :: (M1 ++ it3 :: (M2 ++ [it4]))) := by
  have hh := h1
  have hh2 := h2
  obtain ⟨p1, p2, ⟨p3, p4, p5⟩, p6, ⟨p7, p8⟩, p9, p10⟩ := hh
  obtain ⟨q1, q2, ⟨q3, q4, q5⟩, q6, ⟨q7, q8⟩, q9, q10⟩ := hh2
  generalize eI : (fun j => if j = s then it else if j < b then IT1 j else IT2 j) = I'
  generalize eX : (fun j => if j = s then it :: (M1 ++ it3 :: (M2 ++ [it4])) else if j < b then X1 j ++ it3 :: (M2 ++ [it4]) else X2 j ++ [it4]) = X'
  generalize eY : (fun j => if j = s then ([] : List itT) else if j < b then Y1 j ++ it3 :: (M2 ++ [it4]) else Y2 j ++ [it4]) = Y'
  have so : I' s = it ∧ X' s = it :: (M1 ++ it3 :: (M2 ++ [it4])) ∧ Y' s = [] := by
    rw [← eI, ← eX, ← eY]
    exact ⟨if_pos rfl, if_pos rfl, if_pos rfl⟩
  have lo : ∀ j, s + 1 ≤ j → j < b → I' j = IT1 j ∧ X' j = X1 j ++ it3 :: (M2 ++ [it4]) ∧ Y' j = Y1 j ++ it3 :: (M2 ++ [it4]) := fun j u v => by
    rw [← eI, ← eX, ← eY]
    exact ⟨(if_neg (by omega)).trans (if_pos v), (if_neg (by omega)).trans (if_pos v), (if_neg (by omega)).trans (if_pos v)⟩
  have up : ∀ j, b ≤ j → I' j = IT2 j ∧ X' j = X2 j ++ [it4] ∧ Y' j = Y2 j ++ [it4] := fun j u => by
    rw [← eI, ← eX, ← eY]
    exact ⟨(if_neg (by omega)).trans (if_neg (by omega)), (if_neg (by omega)).trans (if_neg (by omega)), (if_neg (by omega)).trans (if_neg (by omega))⟩
  have x1 : X' (s + 1) = M1 ++ it3 :: (M2 ++ [it4]) := by rw [(lo (s + 1) (Nat.le_refl _) (by omega)).2.1, p7]
  have x2 : X' b = M2 ++ [it4] := by rw [(up b (Nat.le_refl _)).2.1, q7]
  refine ⟨⟨Nat.le_refl _, by omega⟩, fun i hp hq => ?_, ⟨hs, ho, so.2.2⟩, fun i hp hq hr => ?_, ⟨so.2.1, bal_if hi p8 q8⟩, fun k hp hq => ?_, fun _ => ?_⟩
  · by_cases e : i = s
    · subst e
      refine ⟨⟨?_, fun q => ?_, fun _ => ⟨M1, M2, p8, q8, ?_, ?_, ?_⟩, fun q => ?_⟩, fun q => absurd hs q, fun _ => by rw [hf1]; omega, fun _ => by rw [hf2]; omega⟩
      · rw [so.1, hi, hk]; rfl
      · omega
      · rw [hf1, so.2.1, so.1, x1]
      · rw [hf1, hf2, x1, x2]
      · rw [hf2, x2, so.2.2]
      · omega
    · by_cases hb : i < b
      · exact ⟨h1.fst (Z := it3 :: (M2 ++ [it4])) ⟨by omega, hb⟩ (fun j u v => ⟨rfl, rfl, rfl, lo j u v⟩), (p2 i (by omega) hb).2.up rfl rfl rfl rfl (by omega) (by omega)⟩
      · exact ⟨h2.fst (Z := [it4]) ⟨by omega, hq⟩ (fun j u v => ⟨rfl, rfl, rfl, up j u⟩), (q2 i (by omega) hq).2.up rfl rfl rfl rfl (by omega) (Nat.le_refl _)⟩
  · by_cases hb : i < b
    · by_cases el : i = ls1
      · subst el
        refine Or.inr ⟨p3, by omega, by omega, Or.inr ⟨by rw [p4]; exact hk, Or.inr ⟨M2, q8, ?_⟩⟩⟩
        rw [p4, so.2.2, (lo i (by omega) hb).2.2, p5]; rfl
      · exact (p6 i (by omega) hb el).up (Z := it3 :: (M2 ++ [it4])) (p2 i (by omega) hb).2 ⟨by omega, hb⟩ rfl (fun j u v => ⟨rfl, rfl, lo j u v⟩) (by omega) (by omega)
    · by_cases el : i = ls2
      · subst el
        refine Or.inr ⟨q3, by omega, by omega, Or.inr ⟨by rw [q4]; exact hk, Or.inl ?_⟩⟩
        rw [q4, so.2.2, (up i (by omega)).2.2, q5]; rfl
      · exact (q6 i (by omega) hq el).up (Z := [it4]) (q2 i (by omega) hq).2 ⟨by omega, hq⟩ rfl (fun j u v => ⟨rfl, rfl, up j u⟩) (by omega) (Nat.le_refl _)
  · by_cases e : k = s
    · subst e
      exact ⟨[], mrk_0, by rw [so.1, so.2.1, x1]; rfl⟩
    · by_cases hb : k + 1 < b
      · obtain ⟨m, m1, m2⟩ := p9 k (by omega) hb
        refine ⟨m, m1, ?_⟩
        rw [(lo k (by omega) (by omega)).1, (lo k (by omega) (by omega)).2.1, (lo (k + 1) (by omega) hb).2.1, m2]
        show IT1 k :: (m ++ X1 (k + 1) ++ _) = _
        rw [List.append_assoc]
      · by_cases hb2 : k + 1 = b
        · obtain ⟨m, m1, m2⟩ := p10 (by omega)
          rw [show b - 1 = k by omega] at m2
          refine ⟨m ++ [it3], m1.app (mrk_1 (Or.inl rfl)), ?_⟩
          rw [(lo k (by omega) (by omega)).1, (lo k (by omega) (by omega)).2.1, hb2, x2, m2, List.append_assoc]; rfl
        · obtain ⟨m, m1, m2⟩ := q9 k (by omega) hq
          refine ⟨m, m1, ?_⟩
          rw [(up k (by omega)).1, (up k (by omega)).2.1, (up (k + 1) (by omega)).2.1, m2]
          show IT2 k :: (m ++ X2 (k + 1) ++ _) = _
          rw [List.append_assoc]
  · obtain ⟨m, m1, m2⟩ := q10 (by omega)
    refine ⟨m ++ [it4], m1.app (mrk_1 (Or.inr (Or.inl rfl))), ?_⟩
    rw [(up (c - 1) (by omega)).1, (up (c - 1) (by omega)).2.1, m2]; rfl
/-- a while -/
theorem blk_lp (h1 : blk (s + 1) b kd ow sb f1 f2 IT1 X1 Y1 s ls1 M1) (hk : kd s = 12) (hf1 : f1 s = s + 1) (hs : sb s = 4294967295) (ho : ow s = w) (hi : it.1 = 5) : blk s b kd ow sb f1 f2 (fun j => if j = s then it else IT1 j) (fun j => if j = s then it :: (M1 ++ [odI it]) else X1 j ++ [odI it]) (fun j => if j = s then [] else Y1 j ++ [odI it]) w s (it :: (M1 ++ [odI it])) := by
  have hh := h1
  obtain ⟨p1, p2, ⟨p3, p4, p5⟩, p6, ⟨p7, p8⟩, p9, p10⟩ := hh
  generalize eI : (fun j => if j = s then it else IT1 j) = I'
  generalize eX : (fun j => if j = s then it :: (M1 ++ [odI it]) else X1 j ++ [odI it]) = X'
  generalize eY : (fun j => if j = s then ([] : List itT) else Y1 j ++ [odI it]) = Y'
  have so : I' s = it ∧ X' s = it :: (M1 ++ [odI it]) ∧ Y' s = [] := by
    rw [← eI, ← eX, ← eY]
    exact ⟨if_pos rfl, if_pos rfl, if_pos rfl⟩
  have lo : ∀ j, s + 1 ≤ j → I' j = IT1 j ∧ X' j = X1 j ++ [odI it] ∧ Y' j = Y1 j ++ [odI it] := fun j u => by
    rw [← eI, ← eX, ← eY]
    exact ⟨if_neg (by omega), if_neg (by omega), if_neg (by omega)⟩
  have x1 : X' (s + 1) = M1 ++ [odI it] := by rw [(lo (s + 1) (Nat.le_refl _)).2.1, p7]
  refine ⟨⟨Nat.le_refl _, by omega⟩, fun i hp hq => ?_, ⟨hs, ho, so.2.2⟩, fun i hp hq hr => ?_, ⟨so.2.1, bal_wl hi rfl p8⟩, fun k hp hq => ?_, fun _ => ?_⟩
  · by_cases e : i = s
    · subst e
      refine ⟨⟨?_, fun q => ?_, fun q => ?_, fun _ => ⟨M1, p8, ?_, ?_⟩⟩, fun q => absurd hs q, fun _ => by rw [hf1]; omega, fun q => by omega⟩
      · rw [so.1, hi, hk]; rfl
      · omega
      · omega
      · rw [hf1, so.2.1, so.1, x1]
      · rw [hf1, x1, so.1, so.2.2]
    · exact ⟨h1.fst (Z := [odI it]) ⟨by omega, hq⟩ (fun j u v => ⟨rfl, rfl, rfl, lo j u⟩), (p2 i (by omega) hq).2.up rfl rfl rfl rfl (by omega) (Nat.le_refl _)⟩
  · by_cases el : i = ls1
    · subst el
      refine Or.inr ⟨p3, by omega, by omega, Or.inl ⟨by rw [p4]; exact hk, ?_⟩⟩
      rw [p4, so.1, so.2.2, (lo i (by omega)).2.2, p5]; rfl
    · exact (p6 i (by omega) hq el).up (Z := [odI it]) (p2 i (by omega) hq).2 ⟨by omega, hq⟩ rfl (fun j u v => ⟨rfl, rfl, lo j u⟩) (by omega) (Nat.le_refl _)
  · by_cases e : k = s
    · subst e
      exact ⟨[], mrk_0, by rw [so.1, so.2.1, x1]; rfl⟩
    · obtain ⟨m, m1, m2⟩ := p9 k (by omega) hq
      refine ⟨m, m1, ?_⟩
      rw [(lo k (by omega)).1, (lo k (by omega)).2.1, (lo (k + 1) (by omega)).2.1, m2]
      show IT1 k :: (m ++ X1 (k + 1) ++ _) = _
      rw [List.append_assoc]
  · obtain ⟨m, m1, m2⟩ := p10 (by omega)
    refine ⟨m ++ [odI it], m1.app (mrk_1 (Or.inr (Or.inr rfl))), ?_⟩
    rw [(lo (b - 1) (by omega)).1, (lo (b - 1) (by omega)).2.1, m2]; rfl
/-- the whole program -/
theorem blk.all (h : blk 0 b kd ow sb f1 f2 IT X Y w ls M) : (∀ i, i < b → fst9 kd f1 f2 IT X Y i ∧ snd9 kd ow sb IT X Y w i) ∧ X 0 = M ∧ nxf IT X b := by
  obtain ⟨h1, h2, ⟨h3, h4, h5⟩, h6, ⟨h7, _⟩, h8, h9⟩ := h
  refine ⟨fun i hi => ⟨(h2 i (Nat.zero_le _) hi).1, ?_⟩, h7, fun s hs => h8 s (Nat.zero_le _) hs, fun hn => h9 (by omega)⟩
  by_cases e : i = ls
  · subst e
    exact ⟨fun q => absurd h3 q, fun _ => Or.inl ⟨h4, h5⟩⟩
  · exact (h6 i (Nat.zero_le _) hi e).snd
end BLK
/-- an item against the rows of its statement -/
def itm (L : List sgT) (kd te kp nm : Nat → Nat) (tm : Nat → Int32) (i : Nat) (x : itT) : Prop := x.2.1 = i + 1 ∧ (kd i = 2 → nm i = x.2.2.1 ∧ tm i = tmI x.2.2.2.1 ∧ tmb 1023 x.2.2.2.1) ∧ (kd i = 8 ∨ kd i = 12 ∨ kd i = 17 ∨ kd i = 123 → te i < L.length ∧ sub9 L (te i) = x.2.2.2.2.1 ∧ cmpl 18 x.2.2.2.2.1 ∧ nbl 1023 x.2.2.2.2.1) ∧ (kd i = 12 → kp i < L.length ∧ sub9 L (kp i) = x.2.2.2.2.2 ∧ cmpl 18 x.2.2.2.2.2 ∧ nbl 1023 x.2.2.2.2.2 ∧ ((nm i = 4294967295 ∧ x.2.2.1 = 0) ∨ (6 ≤ nm i ∧ nm i < 10 ∧ x.2.2.1 = nm i ∧ tm i = tmI x.2.2.2.1 ∧ tmb 1023 x.2.2.2.1)))
theorem sub9_app {l m : List sgT} {k : Nat} (hw : wfl l) (h : k < l.length) : sub9 (l ++ m) k = sub9 l k := by
  have hq := hw k h
  unfold sub9
  rw [szl_l h]
  exact slf_congr _ (fun j hj => ath_l (by omega))
section ITM
variable {L N : List sgT} {kd te kp nm kd' te' kp' nm' : Nat → Nat} {tm tm' : Nat → Int32} {i : Nat} {x : itT}
theorem itm.up (h : itm L kd te kp nm tm i x) (hw : wfl L) (e1 : kd' i = kd i) (e2 : te' i = te i) (e3 : kp' i = kp i) (e4 : nm' i = nm i) (e5 : tm' i = tm i) : itm (L ++ N) kd' te' kp' nm' tm' i x := by
  obtain ⟨h0, h1, h2, h3⟩ := h
  unfold itm
  rw [e1, e2, e3, e4, e5, List.length_append]
  refine ⟨h0, h1, fun q => ?_, fun q => ?_⟩
  · obtain ⟨a1, a2, a3, a4⟩ := h2 q
    exact ⟨by omega, by rw [sub9_app hw a1]; exact a2, a3, a4⟩
  · obtain ⟨a1, a2, a3⟩ := h3 q
    exact ⟨by omega, by rw [sub9_app hw a1]; exact a2, a3⟩
end ITM
/-- what follows statement i of a whole program -/
def lsn (n : Nat) (kd ow sb : Nat → Nat) (IT : Nat → itT) (X Y : Nat → List itT) (i : Nat) : Prop := inn 0 n kd ow sb IT X Y i ∨ (sb i = 4294967295 ∧ ow i = 4294967295 ∧ Y i = [])
section LSN
variable {n i : Nat} {kd ow sb f1 f2 : Nat → Nat} {IT : Nat → itT} {X Y : Nat → List itT} {M : List itT} {ls : Nat} {po : List sgT}
theorem ln_sib (h : lsn n kd ow sb IT X Y i) (hs : ¬ sb i = 4294967295) : fFm po (Y i) = fFm po (X (sb i)) := by
  rcases h with (⟨_, h⟩ | ⟨h, _⟩) | ⟨h, _⟩
  · rw [h]
  · exact absurd h hs
  · exact absurd h hs
theorem ln_end (h : lsn n kd ow sb IT X Y i) (hn : n ≤ 20) (hs : sb i = 4294967295) (ho : ow i = 4294967295) : fFm po (Y i) = po := by
  rcases h with (⟨h, _⟩ | ⟨_, _, h, _⟩) | ⟨_, _, h⟩
  · exact absurd hs h
  · omega
  · rw [h]; rfl
theorem ln_own (h : lsn n kd ow sb IT X Y i) (hs : sb i = 4294967295) (ho : ¬ ow i = 4294967295) (hk : ¬ kd (ow i) = 12) : fFm po (Y i) = fFm po (Y (ow i)) := by
  rcases h with (⟨h, _⟩ | ⟨_, _, _, h⟩) | ⟨_, h, _⟩
  · exact absurd hs h
  · rcases h with ⟨h, _⟩ | ⟨_, h⟩
    · exact absurd h hk
    · rcases h with h | ⟨U, u1, u2⟩
      · rw [h, fm_fi]
      · rw [u2, fm_el u1]
  · exact absurd h ho
theorem ln_od (h : lsn n kd ow sb IT X Y i) (hs : sb i = 4294967295) (ho : ¬ ow i = 4294967295) (hk : kd (ow i) = 12) : fFm po (Y i) = odF (IT (ow i)) := by
  rcases h with (⟨h, _⟩ | ⟨_, _, _, h⟩) | ⟨_, h, _⟩
  · exact absurd hs h
  · rcases h with ⟨_, h⟩ | ⟨h, _⟩
    · rw [h]; exact fm_od rfl
    · omega
  · exact absurd h ho
theorem blk.lsn (h : blk 0 n kd ow sb f1 f2 IT X Y 4294967295 ls M) (hi : i < n) : lsn n kd ow sb IT X Y i := by
  obtain ⟨_, _, ⟨h3, h4, h5⟩, h6, _⟩ := h
  by_cases e : i = ls
  · subst e; exact Or.inr ⟨h3, h4, h5⟩
  · exact Or.inl (h6 i (Nat.zero_le _) hi e)
end LSN
/-- what behind answers -/
def bhQ (kd : Nat → Nat) (IT : Nat → itT) (X Y : Nat → List itT) (s r : Nat) : Prop := ∀ po : List sgT, (r = 4294967295 → fFm po (Y s) = po) ∧ (¬ r = 4294967295 → s < r → fFm po (Y s) = fFm po (X r)) ∧ (r < s → fFm po (Y s) = odF (IT r))
