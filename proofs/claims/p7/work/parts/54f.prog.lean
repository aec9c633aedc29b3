/-- one piece, then another: where the first fails it all fails -/
def thR (P : Nat × Nat → Prop) (Q : Nat → Nat × Nat → Prop) (r : Nat × Nat) : Prop := ∃ q, P q ∧ ((q.1 = 1 ∧ r = q) ∨ (¬ q.1 = 1 ∧ Q q.2 r))
def ndR (K nx : Nat → Nat) (t b : Nat) (r : Nat × Nat) : Prop := r = if K b = t then (0, nx b) else (1, b)
def cdR (K nx V : Nat → Nat) (gh b : Nat) (r : Nat × Nat) : Prop := ∃ m, rgR K nx V gh true b [] [] 0 (r.1, r.2, m)
def tmR (K nx : Nat → Nat) (b : Nat) (r : Nat × Nat) : Prop := r = trmG K nx 0 b
/-- as ndR, but it tells by 2 that it stood there -/
def ndV (K nx : Nat → Nat) (t b : Nat) (r : Nat × Nat) : Prop := r = if K b = t then (2, nx b) else (1, b)
def vrR (K nx : Nat → Nat) (b : Nat) (r : Nat × Nat) : Prop := (K b = 14 ∧ thR (tmR K nx (nx b)) (ndV K nx 15) r) ∨ (¬ K b = 14 ∧ ndR K nx 15 b r)
/-- a statement, up to what stands within it -/
def stR (K nx V : Nat → Nat) (b : Nat) (r : Nat × Nat) : Prop :=
  (K b = 2 ∧ thR (ndR K nx 6 (nx b)) (tmR K nx) r) ∨ (K b = 7 ∧ r = (0, nx b)) ∨ (K b = 17 ∧ cdR K nx V 0 (nx b) r) ∨ (K b = 123 ∧ thR (cdR K nx V 1 (nx b)) (ndR K nx 125) r) ∨ (K b = 8 ∧ thR (cdR K nx V 0 (nx b)) (ndR K nx 9) r) ∨ (K b = 12 ∧ thR (thR (thR (cdR K nx V 0 (nx b)) (ndR K nx 13)) (cdR K nx V 1)) (vrR K nx) r)
/-- it can't begin here -/
def stN (K : Nat → Nat) (b sn fn wn : Nat) : Prop := ¬ (K b = 2 ∨ K b = 7 ∨ K b = 17 ∨ K b = 123 ∨ K b = 8 ∨ K b = 12) ∨ sn = 20 ∨ (K b = 8 ∧ fn = 4) ∨ (K b = 12 ∧ wn = 4)
/-- an item: its sort (0 assignment, 1 skip, 2 if, 3 else, 4 fi, 5 while, 6 od, 7 assert, 8 cut), its number, its variable or ghost, its term, its conditions -/
abbrev itT : Type := Nat × Nat × Nat × (Nat × Int32) × List sgT × List sgT
def cdI (K nx V : Nat → Nat) (gh b j : Nat) (m : List sgT) : Prop := rgR K nx V gh true b [] [] 0 (0, j, m)
/-- what begins at b (its number 0; a while with a variant: 1) -/
def itc (K nx V : Nat → Nat) (b : Nat) (it : itT) : Prop :=
  (K b = 2 ∧ K (nx b) = 6 ∧ (trmG K nx 0 (nx (nx b))).1 ≠ 1 ∧ it = (0, 0, V b, trmV K nx V 0 (nx (nx b)), [], [])) ∨ (K b = 7 ∧ it = (1, 0, 0, (0, 0), [], [])) ∨ (K b = 8 ∧ ∃ j m, cdI K nx V 0 (nx b) j m ∧ it = (2, 0, 0, (0, 0), m, [])) ∨ (K b = 12 ∧ ∃ j m j2 m2, cdI K nx V 0 (nx b) j m ∧ K j = 13 ∧ cdI K nx V 1 (nx j) j2 m2 ∧ (K j2 = 14 → (trmG K nx 0 (nx j2)).1 ≠ 1) ∧ it = (if K j2 = 14 then (5, 0, 1, trmV K nx V 0 (nx j2), m, m2) else (5, 0, 0, (0, 0), m, m2))) ∨ (K b = 17 ∧ ∃ j m, cdI K nx V 0 (nx b) j m ∧ it = (7, 0, 0, (0, 0), m, [])) ∨ (K b = 123 ∧ ∃ j m, cdI K nx V 1 (nx b) j m ∧ it = (8, 0, 0, (0, 0), m, []))
/-- how many whiles with a variant there are -/
def vct : List itT → Nat
  | [] => 0
  | x :: l => vct l + (if x.1 = 5 ∧ 6 ≤ x.2.2.1 then 1 else 0)
/-- with its number, and its ghost -/
def gI (sn : Nat) (pl : List itT) (it : itT) : itT := (it.1, sn + 1, if it.1 = 5 ∧ it.2.2.1 = 1 then 6 + vct pl else it.2.2.1, it.2.2.2)
def it3 : itT := (3, 0, 0, (0, 0), [], [])
def it4 : itT := (4, 0, 0, (0, 0), [], [])
/-- the end of a while's body -/
def odI (x : itT) : itT := (6, 0, x.2.2.1, x.2.2.2.1, [], x.2.2.2.2.2)
section ITC
variable {K nx V : Nat → Nat} {b : Nat} {it it2 : itT}
theorem cdI.det {gh j j2 : Nat} {m m2 : List sgT} (h : cdI K nx V gh b j m) (h2 : cdI K nx V gh b j2 m2) : j = j2 ∧ m = m2 := by
  have e := rgR.det (show rgR K nx V gh true b [] [] 0 (0, j, m) from h) h2
  cases e
  exact ⟨rfl, rfl⟩
theorem itc.det (h : itc K nx V b it) (h2 : itc K nx V b it2) : it = it2 := by
  rcases h with ⟨a, _, _, h⟩ | ⟨a, h⟩ | ⟨a, j, m, h, e⟩ | ⟨a, j, m, k, n, h, _, h', _, e⟩ | ⟨a, j, m, h, e⟩ | ⟨a, j, m, h, e⟩ <;> rcases h2 with ⟨c, _, _, h2⟩ | ⟨c, h2⟩ | ⟨c, j2, m2, h2, e2⟩ | ⟨c, j2, m2, k2, n2, h2, _, h2', _, e2⟩ | ⟨c, j2, m2, h2, e2⟩ | ⟨c, j2, m2, h2, e2⟩ <;> first
    | (exfalso; omega)
    | exact h.trans h2.symm
    | (obtain ⟨rfl, rfl⟩ := h.det h2
       exact e.trans e2.symm)
    | (obtain ⟨rfl, rfl⟩ := h.det h2
       obtain ⟨rfl, rfl⟩ := h'.det h2'
       exact e.trans e2.symm)
end ITC
/-- a program: whether a statement is wanted, where, what is begun (if, else, while), how many statements, ifs, whiles there were, and all items -/
def pgP (K nx V : Nat → Nat) : Nat → Bool → Nat → List itT → Nat → Nat → Nat → List itT → Nat × Nat × List itT → Prop
  | 0, _, _, _, _, _, _, _, _ => False
  | k + 1, true, b, sg, sn, fn, wn, pl, r => (stN K b sn fn wn ∧ r = (1, b, [])) ∨ (¬ stN K b sn fn wn ∧ ∃ q, stR K nx V b q ∧ ((q.1 = 1 ∧ r = (1, q.2, [])) ∨ (¬ q.1 = 1 ∧ ∃ it, itc K nx V b it ∧ ((K b = 8 ∧ pgP K nx V k true q.2 (gI sn pl it :: sg) (sn + 1) (fn + 1) wn (pl ++ [gI sn pl it]) r) ∨ (K b = 12 ∧ pgP K nx V k true q.2 (gI sn pl it :: sg) (sn + 1) fn (wn + 1) (pl ++ [gI sn pl it]) r) ∨ (¬ (K b = 8 ∨ K b = 12) ∧ pgP K nx V k false q.2 sg (sn + 1) fn wn (pl ++ [gI sn pl it]) r)))))
  | k + 1, false, b, sg, sn, fn, wn, pl, r => (K b = 59 ∧ pgP K nx V k true (nx b) sg sn fn wn pl r) ∨ (¬ K b = 59 ∧ ((sg = [] ∧ r = (if K b = 0 then (2, b, pl) else (1, b, []))) ∨ (∃ x l, sg = x :: l ∧ ((x.1 = 2 ∧ K b = 10 ∧ pgP K nx V k true (nx b) (it3 :: l) sn fn wn (pl ++ [it3]) r) ∨ (((x.1 = 3 ∧ K b = 11) ∨ (x.1 = 5 ∧ K b = 16)) ∧ pgP K nx V k false (nx b) l sn fn wn (pl ++ [if x.1 = 3 then it4 else odI x]) r) ∨ (¬ ((x.1 = 2 ∧ K b = 10) ∨ (x.1 = 3 ∧ K b = 11) ∨ (x.1 = 5 ∧ K b = 16)) ∧ r = (1, b, []))))))
def pgR (K nx V : Nat → Nat) (w : Bool) (b : Nat) (sg : List itT) (sn fn wn : Nat) (pl : List itT) (r : Nat × Nat × List itT) : Prop := ∃ k, pgP K nx V k w b sg sn fn wn pl r
section PGR
variable {K nx V : Nat → Nat} {b b1 sn fn wn vf : Nat} {sg l pl : List Nat} {w : Bool} {r r2 q : Nat × Nat}
theorem thR.det {P : Nat × Nat → Prop} {Q : Nat → Nat × Nat → Prop} (h : thR P Q r) (h2 : thR P Q r2) (hP : ∀ x y, P x → P y → x = y) (hQ : ∀ b x y, Q b x → Q b y → x = y) : r = r2 := by
  obtain ⟨q, a1, a2⟩ := h
  obtain ⟨p, c1, c2⟩ := h2
  have e := hP _ _ a1 c1
  subst e
  rcases a2 with ⟨x1, x2⟩ | ⟨x1, x2⟩
  · rcases c2 with ⟨y1, y2⟩ | ⟨y1, y2⟩
    · rw [x2, y2]
    · exact absurd x1 y1
  · rcases c2 with ⟨y1, y2⟩ | ⟨y1, y2⟩
    · exact absurd y1 x1
    · exact hQ _ _ _ x2 y2
theorem ndR.det {t : Nat} (x y : Nat × Nat) (h : ndR K nx t b x) (h2 : ndR K nx t b y) : x = y := h.trans h2.symm
theorem ndV.det {t : Nat} (x y : Nat × Nat) (h : ndV K nx t b x) (h2 : ndV K nx t b y) : x = y := h.trans h2.symm
theorem cdR.det {gh : Nat} (x y : Nat × Nat) (h : cdR K nx V gh b x) (h2 : cdR K nx V gh b y) : x = y := by
  obtain ⟨m, h⟩ := h
  obtain ⟨k, h2⟩ := h2
  have e := h.det h2
  obtain ⟨x1, x2⟩ := x
  obtain ⟨y1, y2⟩ := y
  cases e
  rfl
theorem tmR.det (x y : Nat × Nat) (h : tmR K nx b x) (h2 : tmR K nx b y) : x = y := h.trans h2.symm
theorem vrR.det (x y : Nat × Nat) (h : vrR K nx b x) (h2 : vrR K nx b y) : x = y := by
  rcases h with ⟨a, h⟩ | ⟨a, h⟩ <;> rcases h2 with ⟨c, h2⟩ | ⟨c, h2⟩
  · exact thR.det h h2 (fun x y => tmR.det x y) (fun _ x y => ndV.det x y)
  · exact absurd a c
  · exact absurd c a
  · exact ndR.det _ _ h h2
theorem stR.det (h : stR K nx V b r) (h2 : stR K nx V b r2) : r = r2 := by
  rcases h with ⟨a, h⟩ | ⟨a, h⟩ | ⟨a, h⟩ | ⟨a, h⟩ | ⟨a, h⟩ | ⟨a, h⟩ <;> rcases h2 with ⟨c, h2⟩ | ⟨c, h2⟩ | ⟨c, h2⟩ | ⟨c, h2⟩ | ⟨c, h2⟩ | ⟨c, h2⟩ <;> first
    | (exfalso; omega)
    | exact thR.det h h2 (fun x y => ndR.det x y) (fun _ x y => tmR.det x y)
    | exact h.trans h2.symm
    | exact cdR.det _ _ h h2
    | exact thR.det h h2 (fun x y => cdR.det x y) (fun _ x y => ndR.det x y)
    | exact thR.det h h2 (fun x y hx hy => thR.det hx hy (fun x y hx hy => thR.det hx hy (fun x y => cdR.det x y) (fun _ x y => ndR.det x y)) (fun _ x y => cdR.det x y)) (fun _ x y => vrR.det x y)
end PGR
section PGQ
variable {K nx V : Nat → Nat} {b b1 sn fn wn vf : Nat} {sg l pl : List itT} {it x : itT} {w : Bool} {r r2 : Nat × Nat × List itT}
theorem pgP_det : ∀ (k j : Nat) (w : Bool) (b : Nat) (sg : List itT) (sn fn wn : Nat) (pl : List itT) (r r2 : Nat × Nat × List itT), pgP K nx V k w b sg sn fn wn pl r → pgP K nx V j w b sg sn fn wn pl r2 → r = r2 := by
  intro k
  induction k with
  | zero => intro j w b sg sn fn wn pl r r2 h; exact h.elim
  | succ k ih =>
    intro j w b sg sn fn wn pl r r2 h h2
    cases j with
    | zero => exact h2.elim
    | succ j =>
      cases w with
      | true =>
        rcases h with ⟨a, h⟩ | ⟨a, q, hq, h⟩
        · rcases h2 with ⟨c, h2⟩ | ⟨c, p, hp, h2⟩
          · rw [h, h2]
          · exact absurd a c
        · rcases h2 with ⟨c, h2⟩ | ⟨c, p, hp, h2⟩
          · exact absurd c a
          · have e := hq.det hp
            subst e
            rcases h with ⟨x1, x2⟩ | ⟨x1, x2⟩
            · rcases h2 with ⟨y1, y2⟩ | ⟨y1, y2⟩
              · rw [x2, y2]
              · exact absurd x1 y1
            · rcases h2 with ⟨y1, y2⟩ | ⟨y1, y2⟩
              · exact absurd y1 x1
              · obtain ⟨i1, xi, x2⟩ := x2
                obtain ⟨i2, yi, y2⟩ := y2
                have ei := xi.det yi
                subst ei
                rcases x2 with ⟨u1, u2⟩ | ⟨u1, u2⟩ | ⟨u1, u2⟩ <;> rcases y2 with ⟨v1, v2⟩ | ⟨v1, v2⟩ | ⟨v1, v2⟩ <;> first
                  | (exfalso; omega)
                  | exact ih _ _ _ _ _ _ _ _ _ _ u2 v2
      | false =>
        rcases h with ⟨a, h⟩ | ⟨a, h⟩
        · rcases h2 with ⟨c, h2⟩ | ⟨c, h2⟩
          · exact ih _ _ _ _ _ _ _ _ _ _ h h2
          · exact absurd a c
        · rcases h2 with ⟨c, h2⟩ | ⟨c, h2⟩
          · exact absurd c a
          · rcases h with ⟨x1, x2⟩ | ⟨x, l, x1, x2⟩
            · rcases h2 with ⟨y1, y2⟩ | ⟨y, l2, y1, y2⟩
              · rw [x2, y2]
              · rw [x1] at y1; cases y1
            · rcases h2 with ⟨y1, y2⟩ | ⟨y, l2, y1, y2⟩
              · rw [y1] at x1; cases x1
              · rw [x1] at y1
                cases y1
                rcases x2 with ⟨u1, u2, u3⟩ | ⟨u1, u2⟩ | ⟨u1, u2⟩ <;> rcases y2 with ⟨v1, v2, v3⟩ | ⟨v1, v2⟩ | ⟨v1, v2⟩ <;> first
                  | (exfalso; omega)
                  | exact ih _ _ _ _ _ _ _ _ _ _ u3 v3
                  | exact ih _ _ _ _ _ _ _ _ _ _ u2 v2
                  | rw [u2, v2]
theorem pgR.det (h : pgR K nx V w b sg sn fn wn pl r) (h2 : pgR K nx V w b sg sn fn wn pl r2) : r = r2 := by
  obtain ⟨k, h⟩ := h
  obtain ⟨j, h2⟩ := h2
  exact pgP_det k j _ _ _ _ _ _ _ _ _ h h2
theorem pgR.no (h : stN K b sn fn wn) : pgR K nx V true b sg sn fn wn pl (1, b, []) := ⟨1, Or.inl ⟨h, rfl⟩⟩
theorem pgR.bad (h : ¬ stN K b sn fn wn) (hq : stR K nx V b (1, b1)) : pgR K nx V true b sg sn fn wn pl (1, b1, []) := ⟨1, Or.inr ⟨h, _, hq, Or.inl ⟨rfl, rfl⟩⟩⟩
theorem pgR.ifs (h : ¬ stN K b sn fn wn) (hq : stR K nx V b (0, b1)) (hi : itc K nx V b it) (hk : K b = 8) (hr : pgR K nx V true b1 (gI sn pl it :: sg) (sn + 1) (fn + 1) wn (pl ++ [gI sn pl it]) r) : pgR K nx V true b sg sn fn wn pl r := by
  obtain ⟨k, hr⟩ := hr
  exact ⟨k + 1, Or.inr ⟨h, _, hq, Or.inr ⟨show ¬ (0 : Nat) = 1 by decide, it, hi, Or.inl ⟨hk, hr⟩⟩⟩⟩
theorem pgR.whl (h : ¬ stN K b sn fn wn) (hq : stR K nx V b (vf, b1)) (hv : ¬ vf = 1) (hi : itc K nx V b it) (hk : K b = 12) (hr : pgR K nx V true b1 (gI sn pl it :: sg) (sn + 1) fn (wn + 1) (pl ++ [gI sn pl it]) r) : pgR K nx V true b sg sn fn wn pl r := by
  obtain ⟨k, hr⟩ := hr
  exact ⟨k + 1, Or.inr ⟨h, _, hq, Or.inr ⟨hv, it, hi, Or.inr (Or.inl ⟨hk, hr⟩)⟩⟩⟩
theorem pgR.one (h : ¬ stN K b sn fn wn) (hq : stR K nx V b (0, b1)) (hi : itc K nx V b it) (hk : ¬ (K b = 8 ∨ K b = 12)) (hr : pgR K nx V false b1 sg (sn + 1) fn wn (pl ++ [gI sn pl it]) r) : pgR K nx V true b sg sn fn wn pl r := by
  obtain ⟨k, hr⟩ := hr
  exact ⟨k + 1, Or.inr ⟨h, _, hq, Or.inr ⟨show ¬ (0 : Nat) = 1 by decide, it, hi, Or.inr (Or.inr ⟨hk, hr⟩)⟩⟩⟩
theorem pgR.semi (hk : K b = 59) (hr : pgR K nx V true (nx b) sg sn fn wn pl r) : pgR K nx V false b sg sn fn wn pl r := by
  obtain ⟨k, hr⟩ := hr
  exact ⟨k + 1, Or.inl ⟨hk, hr⟩⟩
theorem pgR.fin (hk : ¬ K b = 59) : pgR K nx V false b [] sn fn wn pl (if K b = 0 then (2, b, pl) else (1, b, [])) := ⟨1, Or.inr ⟨hk, Or.inl ⟨rfl, rfl⟩⟩⟩
theorem pgR.els (hx : x.1 = 2) (hk : K b = 10) (hr : pgR K nx V true (nx b) (it3 :: l) sn fn wn (pl ++ [it3]) r) : pgR K nx V false b (x :: l) sn fn wn pl r := by
  obtain ⟨k, hr⟩ := hr
  exact ⟨k + 1, Or.inr ⟨by omega, Or.inr ⟨x, l, rfl, Or.inl ⟨hx, hk, hr⟩⟩⟩⟩
theorem pgR.fis (hx : x.1 = 3) (hk : K b = 11) (hr : pgR K nx V false (nx b) l sn fn wn (pl ++ [it4]) r) : pgR K nx V false b (x :: l) sn fn wn pl r := by
  obtain ⟨k, hr⟩ := hr
  exact ⟨k + 1, Or.inr ⟨by omega, Or.inr ⟨x, l, rfl, Or.inr (Or.inl ⟨Or.inl ⟨hx, hk⟩, by rw [if_pos hx]; exact hr⟩)⟩⟩⟩
theorem pgR.ods (hx : x.1 = 5) (hk : K b = 16) (hr : pgR K nx V false (nx b) l sn fn wn (pl ++ [odI x]) r) : pgR K nx V false b (x :: l) sn fn wn pl r := by
  obtain ⟨k, hr⟩ := hr
  exact ⟨k + 1, Or.inr ⟨by omega, Or.inr ⟨x, l, rfl, Or.inr (Or.inl ⟨Or.inr ⟨hx, hk⟩, by rw [if_neg (by omega)]; exact hr⟩)⟩⟩⟩
theorem pgR.wrong (hk : ¬ K b = 59) (h : ¬ ((x.1 = 2 ∧ K b = 10) ∨ (x.1 = 3 ∧ K b = 11) ∨ (x.1 = 5 ∧ K b = 16))) : pgR K nx V false b (x :: l) sn fn wn pl (1, b, []) := ⟨1, Or.inr ⟨hk, Or.inr ⟨x, l, rfl, Or.inr (Or.inr ⟨h, rfl⟩)⟩⟩⟩
end PGQ
theorem thR.x {P : Nat × Nat → Prop} {Q : Nat → Nat × Nat → Prop} {f b : Nat} (h : P (f, b)) (hf : f = 1) : thR P Q (1, b) := by
  subst hf
  exact ⟨_, h, Or.inl ⟨rfl, rfl⟩⟩
theorem thR.i {P : Nat × Nat → Prop} {Q : Nat → Nat × Nat → Prop} {f b : Nat} {r : Nat × Nat} (h : P (f, b)) (hf : f = 0) (h2 : Q b r) : thR P Q r := by
  subst hf
  exact ⟨_, h, Or.inr ⟨show ¬ (0 : Nat) = 1 by decide, h2⟩⟩
section ND
variable {g : Nat → Nat} {n gh b en k v b1 e1 k1 v1 b2 e2 k2 v2 b3 t : Nat}
theorem ndR.no (h : ¬ kd g n b = t) : ndR (kd g n) (nxt g n) t b (1, b) := (if_neg h).symm
theorem ndR.yes (h : kd g n b = t) (h1 : nxt g n b = b1) : ndR (kd g n) (nxt g n) t b (0, b1) := by
  unfold ndR
  rw [if_pos h, h1]
theorem ndV.no (h : ¬ kd g n b = t) : ndV (kd g n) (nxt g n) t b (1, b) := (if_neg h).symm
theorem ndV.yes (h : kd g n b = t) (h1 : nxt g n b = b1) : ndV (kd g n) (nxt g n) t b (2, b1) := by
  unfold ndV
  rw [if_pos h, h1]
theorem kd_wd {s : Nat} (h : tkq g n b en k v) (h1 : 7 ≤ s) (h2 : s ≤ 17) : kd g n b = s ↔ k = s + 3 := by rw [h.sort]; exact cso_wd h1 h2
theorem kd_bec (h : tkq g n b en k v) : kd g n b = 6 ↔ k = 758 := by rw [h.sort]; exact cso_bec
theorem kd_var (h : tkq g n b en k v) : kd g n b = 2 ↔ (k = 2 ∧ v < 6) := by
  rw [h.sort]
  have := cso_nm (k := k) (v := v) (gh := 0)
  omega
theorem kd_sg {s : Nat} (h : tkq g n b en k v) (h1 : 36 ≤ s ∨ s = 33) (h2 : s < 60 ∨ 62 < s) (h3 : s < 128) : kd g n b = s ↔ k = 200 + s := by rw [h.sort]; exact cso_sg h1 h2 h3
/-- := and a term -/
theorem rs_x (h : tkq g n b en k v) (h1 : tkq g n b1 e1 k1 v1) (hb : b1 = nxB g n en) (hk : ¬ k1 = 758) : thR (ndR (kd g n) (nxt g n) 6 (nxt g n b)) (tmR (kd g n) (nxt g n)) (1, b1) := by
  rw [h.nx hb]
  exact thR.x (ndR.no (fun q => hk ((kd_bec h1).mp q))) rfl
theorem rs_t {f f2 : Nat} (h : tkq g n b en k v) (h1 : tkq g n b1 e1 k1 v1) (hb : b1 = nxB g n en) (hk : k1 = 758) (hb2 : b2 = nxB g n e1) (ht : trmG (kd g n) (nxt g n) 0 b2 = (f, b3)) (hf : f = f2) : thR (ndR (kd g n) (nxt g n) 6 (nxt g n b)) (tmR (kd g n) (nxt g n)) (f2, b3) := by
  rw [h.nx hb]
  subst hf
  exact thR.i (ndR.yes ((kd_bec h1).mpr hk) (h1.nx hb2)) rfl ht.symm
end ND
section PSIM
variable {K1 n1 V1 K2 n2 V2 ph : Nat → Nat} {cn : Nat}
theorem thR_sim {P1 P2 : Nat × Nat → Prop} {Q1 Q2 : Nat → Nat × Nat → Prop} (hP : ∀ f j, P1 (f, j) → j ≤ cn ∧ P2 (f, ph j)) (hQ : ∀ b f j, b ≤ cn → Q1 b (f, j) → j ≤ cn ∧ Q2 (ph b) (f, ph j)) {f j : Nat} (h : thR P1 Q1 (f, j)) : j ≤ cn ∧ thR P2 Q2 (f, ph j) := by
  obtain ⟨⟨f0, j0⟩, a, c⟩ := h
  obtain ⟨a1, a2⟩ := hP _ _ a
  rcases c with ⟨c1, c2⟩ | ⟨c1, c2⟩
  · obtain ⟨rfl, rfl⟩ := Prod.mk.inj c2
    exact ⟨a1, _, a2, Or.inl ⟨c1, rfl⟩⟩
  · obtain ⟨d1, d2⟩ := hQ _ _ _ a1 c2
    exact ⟨d1, _, a2, Or.inr ⟨c1, d2⟩⟩
theorem ndR_sim (hK : ∀ i, i ≤ cn → K2 (ph i) = K1 i) (hN : ∀ i, i < cn → n2 (ph i) = ph (n1 i)) (h1 : ∀ i, i < cn → n1 i ≤ cn) (h0 : ∀ i, i ≤ cn → K1 i ≠ 0 → i < cn) {t : Nat} (ht : t ≠ 0) (i f j : Nat) (hi : i ≤ cn) (h : ndR K1 n1 t i (f, j)) : j ≤ cn ∧ ndR K2 n2 t (ph i) (f, ph j) := by
  unfold ndR at h ⊢
  by_cases c : K1 i = t
  · have l1 : i < cn := h0 i hi (by omega)
    rw [if_pos c] at h
    obtain ⟨rfl, rfl⟩ := Prod.mk.inj h
    exact ⟨h1 i l1, by rw [hK i hi, if_pos c, hN i l1]⟩
  · rw [if_neg c] at h
    obtain ⟨rfl, rfl⟩ := Prod.mk.inj h
    exact ⟨hi, by rw [hK _ hi, if_neg c]⟩
theorem ndV_sim (hK : ∀ i, i ≤ cn → K2 (ph i) = K1 i) (hN : ∀ i, i < cn → n2 (ph i) = ph (n1 i)) (h1 : ∀ i, i < cn → n1 i ≤ cn) (h0 : ∀ i, i ≤ cn → K1 i ≠ 0 → i < cn) {t : Nat} (ht : t ≠ 0) (i f j : Nat) (hi : i ≤ cn) (h : ndV K1 n1 t i (f, j)) : j ≤ cn ∧ ndV K2 n2 t (ph i) (f, ph j) := by
  unfold ndV at h ⊢
  by_cases c : K1 i = t
  · have l1 : i < cn := h0 i hi (by omega)
    rw [if_pos c] at h
    obtain ⟨rfl, rfl⟩ := Prod.mk.inj h
    exact ⟨h1 i l1, by rw [hK i hi, if_pos c, hN i l1]⟩
  · rw [if_neg c] at h
    obtain ⟨rfl, rfl⟩ := Prod.mk.inj h
    exact ⟨hi, by rw [hK _ hi, if_neg c]⟩
theorem tmR_sim (hK : ∀ i, i ≤ cn → K2 (ph i) = K1 i) (hN : ∀ i, i < cn → n2 (ph i) = ph (n1 i)) (h1 : ∀ i, i < cn → n1 i ≤ cn) (h0 : ∀ i, i ≤ cn → K1 i ≠ 0 → i < cn) (i f j : Nat) (hi : i ≤ cn) (h : tmR K1 n1 i (f, j)) : j ≤ cn ∧ tmR K2 n2 (ph i) (f, ph j) := by
  unfold tmR at h ⊢
  obtain ⟨t1, t2⟩ := trmG_sim (gh := 0) hK hN h1 h0 hi
  rw [← h] at t1 t2
  exact ⟨t1, t2.symm⟩
theorem cdR_sim (hs : simV K1 n1 V1 K2 n2 V2 ph cn) {gh : Nat} (i f j : Nat) (hi : i ≤ cn) (h : cdR K1 n1 V1 gh i (f, j)) : j ≤ cn ∧ cdR K2 n2 V2 gh (ph i) (f, ph j) := by
  obtain ⟨m, h⟩ := h
  obtain ⟨q1, q2⟩ := rgR_sim hs hi h
  exact ⟨q1, m, q2⟩
theorem vrR_sim (hK : ∀ i, i ≤ cn → K2 (ph i) = K1 i) (hN : ∀ i, i < cn → n2 (ph i) = ph (n1 i)) (h1 : ∀ i, i < cn → n1 i ≤ cn) (h0 : ∀ i, i ≤ cn → K1 i ≠ 0 → i < cn) (i f j : Nat) (hi : i ≤ cn) (h : vrR K1 n1 i (f, j)) : j ≤ cn ∧ vrR K2 n2 (ph i) (f, ph j) := by
  rcases h with ⟨c, h⟩ | ⟨c, h⟩
  · have l1 : i < cn := h0 i hi (by omega)
    obtain ⟨q1, q2⟩ := thR_sim (P2 := tmR K2 n2 (ph (n1 i))) (Q2 := ndV K2 n2 15) (ph := ph) (fun f j q => tmR_sim hK hN h1 h0 _ f j (h1 i l1) q) (fun b f j hb q => ndV_sim hK hN h1 h0 (by decide) b f j hb q) h
    exact ⟨q1, Or.inl ⟨(hK i hi).trans c, by rw [hN i l1]; exact q2⟩⟩
  · obtain ⟨q1, q2⟩ := ndR_sim hK hN h1 h0 (by decide) i f j hi h
    exact ⟨q1, Or.inr ⟨by rw [hK i hi]; exact c, q2⟩⟩
theorem stR_sim (hs : simV K1 n1 V1 K2 n2 V2 ph cn) (i f j : Nat) (hi : i ≤ cn) (h : stR K1 n1 V1 i (f, j)) : j ≤ cn ∧ stR K2 n2 V2 (ph i) (f, ph j) := by
  have hs9 := hs
  obtain ⟨hK, hN, h1, h0, _⟩ := hs9
  have l1 : i < cn := h0 i hi (by
    rcases h with ⟨a, _⟩ | ⟨a, _⟩ | ⟨a, _⟩ | ⟨a, _⟩ | ⟨a, _⟩ | ⟨a, _⟩ <;> omega)
  have m1 := h1 i l1
  have hN1 := hN i l1
  have hK1 := hK i hi
  unfold stR
  rw [hN1, hK1]
  rcases h with ⟨a, h⟩ | ⟨a, h⟩ | ⟨a, h⟩ | ⟨a, h⟩ | ⟨a, h⟩ | ⟨a, h⟩
  · obtain ⟨q1, q2⟩ := thR_sim (P2 := ndR K2 n2 6 (ph (n1 i))) (Q2 := tmR K2 n2) (ph := ph) (fun f j q => ndR_sim hK hN h1 h0 (by decide) _ f j m1 q) (fun b f j hb q => tmR_sim hK hN h1 h0 b f j hb q) h
    exact ⟨q1, Or.inl ⟨a, q2⟩⟩
  · obtain ⟨rfl, rfl⟩ := Prod.mk.inj h
    exact ⟨m1, Or.inr (Or.inl ⟨a, rfl⟩)⟩
  · obtain ⟨q1, q2⟩ := cdR_sim hs _ f j m1 h
    exact ⟨q1, Or.inr (Or.inr (Or.inl ⟨a, q2⟩))⟩
  · obtain ⟨q1, q2⟩ := thR_sim (P2 := cdR K2 n2 V2 1 (ph (n1 i))) (Q2 := ndR K2 n2 125) (ph := ph) (fun f j q => cdR_sim hs _ f j m1 q) (fun b f j hb q => ndR_sim hK hN h1 h0 (by decide) b f j hb q) h
    exact ⟨q1, Or.inr (Or.inr (Or.inr (Or.inl ⟨a, q2⟩)))⟩
  · obtain ⟨q1, q2⟩ := thR_sim (P2 := cdR K2 n2 V2 0 (ph (n1 i))) (Q2 := ndR K2 n2 9) (ph := ph) (fun f j q => cdR_sim hs _ f j m1 q) (fun b f j hb q => ndR_sim hK hN h1 h0 (by decide) b f j hb q) h
    exact ⟨q1, Or.inr (Or.inr (Or.inr (Or.inr (Or.inl ⟨a, q2⟩))))⟩
  · obtain ⟨q1, q2⟩ := thR_sim (P2 := thR (thR (cdR K2 n2 V2 0 (ph (n1 i))) (ndR K2 n2 13)) (cdR K2 n2 V2 1)) (Q2 := vrR K2 n2) (ph := ph) (fun f j q => thR_sim (fun f j q => thR_sim (fun f j q => cdR_sim hs _ f j m1 q) (fun b f j hb q => ndR_sim hK hN h1 h0 (by decide) b f j hb q) q) (fun b f j hb q => cdR_sim hs b f j hb q) q) (fun b f j hb q => vrR_sim hK hN h1 h0 b f j hb q) h
    exact ⟨q1, Or.inr (Or.inr (Or.inr (Or.inr (Or.inr ⟨a, q2⟩))))⟩
theorem cdI_sim (h : simV K1 n1 V1 K2 n2 V2 ph cn) {gh i j : Nat} {m : List sgT} (hi : i ≤ cn) (hq : cdI K1 n1 V1 gh i j m) : j ≤ cn ∧ cdI K2 n2 V2 gh (ph i) (ph j) m := rgR_sim h hi hq
theorem itc_sim (h : simV K1 n1 V1 K2 n2 V2 ph cn) {b : Nat} {it : itT} (hb : b ≤ cn) (hq : itc K1 n1 V1 b it) : itc K2 n2 V2 (ph b) it := by
  have hh := h
  obtain ⟨hK, hN, h1, h0, hV⟩ := hh
  have l1 : b < cn := h0 b hb (by
    rcases hq with ⟨a, _⟩ | ⟨a, _⟩ | ⟨a, _⟩ | ⟨a, _⟩ | ⟨a, _⟩ | ⟨a, _⟩ <;> omega)
  have m1 := h1 b l1
  have hN1 := hN b l1
  have hK1 := hK b hb
  unfold itc
  rw [hN1, hK1]
  rcases hq with ⟨a, k6, hs, e⟩ | ⟨a, e⟩ | ⟨a, j, m, hc, e⟩ | ⟨a, j, m, j2, m2, hc, k13, hc2, hs, e⟩ | ⟨a, j, m, hc, e⟩ | ⟨a, j, m, hc, e⟩
  · have l2 := h0 _ m1 (by omega)
    have m2 := h1 _ l2
    obtain ⟨t1, t2⟩ := trmG_sim (gh := 0) hK hN h1 h0 m2
    rw [hN _ l2, hK _ m1, hV b hb (Or.inl a), trmV_sim h m2 hs, t2]
    exact Or.inl ⟨a, k6, hs, e⟩
  · exact Or.inr (Or.inl ⟨a, e⟩)
  · exact Or.inr (Or.inr (Or.inl ⟨a, _, _, (cdI_sim h m1 hc).2, e⟩))
  · obtain ⟨b1, b2⟩ := cdI_sim h m1 hc
    have l2 := h0 _ b1 (by omega)
    have m2' := h1 _ l2
    obtain ⟨c1, c2⟩ := cdI_sim h m2' hc2
    rw [← hN _ l2] at c2
    refine Or.inr (Or.inr (Or.inr (Or.inl ⟨a, _, _, _, _, b2, (hK _ b1).trans k13, c2, ?_, ?_⟩)))
    · intro q
      rw [hK _ c1] at q
      have l3 := h0 _ c1 (by omega)
      rw [hN _ l3, (trmG_sim (gh := 0) hK hN h1 h0 (h1 _ l3)).2]
      exact hs q
    · rw [e, hK _ c1]
      by_cases c : K1 j2 = 14
      · have l3 := h0 _ c1 (by omega)
        rw [if_pos c, if_pos c, hN _ l3, trmV_sim h (h1 _ l3) (hs c)]
      · rw [if_neg c, if_neg c]
  · exact Or.inr (Or.inr (Or.inr (Or.inr (Or.inl ⟨a, _, _, (cdI_sim h m1 hc).2, e⟩))))
  · exact Or.inr (Or.inr (Or.inr (Or.inr (Or.inr ⟨a, _, _, (cdI_sim h m1 hc).2, e⟩))))
theorem pgP_sim (hs : simV K1 n1 V1 K2 n2 V2 ph cn) : ∀ (k : Nat) (w : Bool) (i : Nat) (sg : List itT) (sn fn wn : Nat) (pl : List itT) (f j : Nat) (m : List itT), i ≤ cn → pgP K1 n1 V1 k w i sg sn fn wn pl (f, j, m) → j ≤ cn ∧ pgP K2 n2 V2 k w (ph i) sg sn fn wn pl (f, ph j, m) := by
  have hs9 := hs
  obtain ⟨hK, hN, h1, h0, _⟩ := hs9
  intro k
  induction k with
  | zero => intro w i sg sn fn wn pl f j m _ h; exact h.elim
  | succ k ih =>
    intro w i sg sn fn wn pl f j m hi h
    have hK1 := hK i hi
    cases w with
    | true =>
      have hS : stN K2 (ph i) sn fn wn ↔ stN K1 i sn fn wn := by
        unfold stN
        rw [hK1]
      rcases h with ⟨a, h⟩ | ⟨a, ⟨f0, j0⟩, hq, h⟩
      · cases h
        exact ⟨hi, Or.inl ⟨hS.mpr a, rfl⟩⟩
      · obtain ⟨q1, q2⟩ := stR_sim hs i f0 j0 hi hq
        rcases h with ⟨x1, x2⟩ | ⟨x1, x2⟩
        · cases x2
          exact ⟨q1, Or.inr ⟨fun q => a (hS.mp q), _, q2, Or.inl ⟨x1, rfl⟩⟩⟩
        · obtain ⟨it, xi, x2⟩ := x2
          have yi := itc_sim hs hi xi
          rcases x2 with ⟨u1, u2⟩ | ⟨u1, u2⟩ | ⟨u1, u2⟩
          · obtain ⟨d1, d2⟩ := ih _ _ _ _ _ _ _ _ _ _ q1 u2
            exact ⟨d1, Or.inr ⟨fun q => a (hS.mp q), _, q2, Or.inr ⟨x1, it, yi, Or.inl ⟨hK1.trans u1, d2⟩⟩⟩⟩
          · obtain ⟨d1, d2⟩ := ih _ _ _ _ _ _ _ _ _ _ q1 u2
            exact ⟨d1, Or.inr ⟨fun q => a (hS.mp q), _, q2, Or.inr ⟨x1, it, yi, Or.inr (Or.inl ⟨hK1.trans u1, d2⟩)⟩⟩⟩
          · obtain ⟨d1, d2⟩ := ih _ _ _ _ _ _ _ _ _ _ q1 u2
            exact ⟨d1, Or.inr ⟨fun q => a (hS.mp q), _, q2, Or.inr ⟨x1, it, yi, Or.inr (Or.inr ⟨by rw [hK1]; exact u1, d2⟩)⟩⟩⟩
    | false =>
      rcases h with ⟨a, h⟩ | ⟨a, h⟩
      · have l1 : i < cn := h0 i hi (by omega)
        obtain ⟨d1, d2⟩ := ih _ _ _ _ _ _ _ _ _ _ (h1 i l1) h
        exact ⟨d1, Or.inl ⟨hK1.trans a, by rw [hN i l1]; exact d2⟩⟩
      · rcases h with ⟨x1, x2⟩ | ⟨x, l, x1, x2⟩
        · by_cases c : K1 i = 0
          · rw [if_pos c] at x2
            cases x2
            exact ⟨hi, Or.inr ⟨by rw [hK1]; exact a, Or.inl ⟨x1, by rw [hK1, if_pos c]⟩⟩⟩
          · rw [if_neg c] at x2
            cases x2
            exact ⟨hi, Or.inr ⟨by rw [hK1]; exact a, Or.inl ⟨x1, by rw [hK1, if_neg c]⟩⟩⟩
        · rcases x2 with ⟨u1, u2, u3⟩ | ⟨u1, u2⟩ | ⟨u1, u2⟩
          · have l1 : i < cn := h0 i hi (by omega)
            obtain ⟨d1, d2⟩ := ih _ _ _ _ _ _ _ _ _ _ (h1 i l1) u3
            exact ⟨d1, Or.inr ⟨by rw [hK1]; exact a, Or.inr ⟨x, l, x1, Or.inl ⟨u1, hK1.trans u2, by rw [hN i l1]; exact d2⟩⟩⟩⟩
          · have l1 : i < cn := h0 i hi (by omega)
            obtain ⟨d1, d2⟩ := ih _ _ _ _ _ _ _ _ _ _ (h1 i l1) u2
            exact ⟨d1, Or.inr ⟨by rw [hK1]; exact a, Or.inr ⟨x, l, x1, Or.inr (Or.inl ⟨by rw [hK1]; exact u1, by rw [hN i l1]; exact d2⟩)⟩⟩⟩
          · cases u2
            exact ⟨hi, Or.inr ⟨by rw [hK1]; exact a, Or.inr ⟨x, l, x1, Or.inr (Or.inr ⟨by rw [hK1]; exact u1, rfl⟩)⟩⟩⟩
theorem pgR_sim (hs : simV K1 n1 V1 K2 n2 V2 ph cn) {w : Bool} {i : Nat} {sg : List itT} {sn fn wn : Nat} {pl : List itT} {f j : Nat} {m : List itT} (hi : i ≤ cn) (h : pgR K1 n1 V1 w i sg sn fn wn pl (f, j, m)) : j ≤ cn ∧ pgR K2 n2 V2 w (ph i) sg sn fn wn pl (f, ph j, m) := by
  have hs9 := hs
  obtain ⟨hK, hN, h1, h0, _⟩ := hs9
  obtain ⟨k, h⟩ := h
  obtain ⟨q1, q2⟩ := pgP_sim hs k w i sg sn fn wn pl f j m hi h
  exact ⟨q1, k, q2⟩
end PSIM

