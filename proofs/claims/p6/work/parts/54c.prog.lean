/-- one piece, then another: where the first fails it all fails -/
def thR (P : Nat × Nat → Prop) (Q : Nat → Nat × Nat → Prop) (r : Nat × Nat) : Prop := ∃ q, P q ∧ ((q.1 = 1 ∧ r = q) ∨ (¬ q.1 = 1 ∧ Q q.2 r))
def ndR (K nx : Nat → Nat) (t b : Nat) (r : Nat × Nat) : Prop := r = if K b = t then (0, nx b) else (1, b)
def cdR (K nx : Nat → Nat) (gh b : Nat) (r : Nat × Nat) : Prop := rdR K nx gh true b [] 0 r
def tmR (K nx : Nat → Nat) (b : Nat) (r : Nat × Nat) : Prop := r = trmG K nx 0 b
/-- as ndR, but it tells by 2 that it stood there -/
def ndV (K nx : Nat → Nat) (t b : Nat) (r : Nat × Nat) : Prop := r = if K b = t then (2, nx b) else (1, b)
def vrR (K nx : Nat → Nat) (b : Nat) (r : Nat × Nat) : Prop := (K b = 14 ∧ thR (tmR K nx (nx b)) (ndV K nx 15) r) ∨ (¬ K b = 14 ∧ ndR K nx 15 b r)
/-- a statement, up to what stands within it -/
def stR (K nx : Nat → Nat) (b : Nat) (r : Nat × Nat) : Prop :=
  (K b = 2 ∧ thR (ndR K nx 6 (nx b)) (tmR K nx) r) ∨ (K b = 7 ∧ r = (0, nx b)) ∨ (K b = 17 ∧ cdR K nx 0 (nx b) r) ∨ (K b = 123 ∧ thR (cdR K nx 1 (nx b)) (ndR K nx 125) r) ∨ (K b = 8 ∧ thR (cdR K nx 0 (nx b)) (ndR K nx 9) r) ∨ (K b = 12 ∧ thR (thR (thR (cdR K nx 0 (nx b)) (ndR K nx 13)) (cdR K nx 1)) (vrR K nx) r)
/-- it can't begin here -/
def stN (K : Nat → Nat) (b sn fn wn : Nat) : Prop := ¬ (K b = 2 ∨ K b = 7 ∨ K b = 17 ∨ K b = 123 ∨ K b = 8 ∨ K b = 12) ∨ sn = 20 ∨ (K b = 8 ∧ fn = 4) ∨ (K b = 12 ∧ wn = 4)
/-- how many conditions a simple statement makes -/
def wcl (x : Nat) : Nat := if x = 123 then 1 else 0
/-- a program: whether a statement is wanted, where, what is begun (2 if, 3 else, 5 while), how many statements, ifs, whiles, conditions there were -/
def pgP (K nx : Nat → Nat) : Nat → Bool → Nat → List Nat → Nat → Nat → Nat → Nat → Nat × Nat → Prop
  | 0, _, _, _, _, _, _, _, _ => False
  | k + 1, true, b, sg, sn, fn, wn, cl, r => (stN K b sn fn wn ∧ r = (1, b)) ∨ (¬ stN K b sn fn wn ∧ ∃ q, stR K nx b q ∧ ((q.1 = 1 ∧ r = q) ∨ (¬ q.1 = 1 ∧ ((K b = 8 ∧ pgP K nx k true q.2 (2 :: sg) (sn + 1) (fn + 1) wn cl r) ∨ (K b = 12 ∧ pgP K nx k true q.2 (5 :: sg) (sn + 1) fn (wn + 1) (cl + 2 + q.1 / 2) r) ∨ (¬ (K b = 8 ∨ K b = 12) ∧ pgP K nx k false q.2 sg (sn + 1) fn wn (cl + wcl (K b)) r)))))
  | k + 1, false, b, sg, sn, fn, wn, cl, r => (K b = 59 ∧ pgP K nx k true (nx b) sg sn fn wn cl r) ∨ (¬ K b = 59 ∧ ((sg = [] ∧ r = (if K b = 0 then (2 + cl, b) else (1, b))) ∨ (∃ x l, sg = x :: l ∧ ((x = 2 ∧ K b = 10 ∧ pgP K nx k true (nx b) (3 :: l) sn fn wn cl r) ∨ (((x = 3 ∧ K b = 11) ∨ (x = 5 ∧ K b = 16)) ∧ pgP K nx k false (nx b) l sn fn wn cl r) ∨ (¬ ((x = 2 ∧ K b = 10) ∨ (x = 3 ∧ K b = 11) ∨ (x = 5 ∧ K b = 16)) ∧ r = (1, b))))))
def pgR (K nx : Nat → Nat) (w : Bool) (b : Nat) (sg : List Nat) (sn fn wn cl : Nat) (r : Nat × Nat) : Prop := ∃ k, pgP K nx k w b sg sn fn wn cl r
section PGR
variable {K nx : Nat → Nat} {b b1 sn fn wn cl vf : Nat} {sg l : List Nat} {w : Bool} {r r2 q : Nat × Nat}
theorem thR.det {P : Nat × Nat → Prop} {Q : Nat → Nat × Nat → Prop} (h : thR P Q r) (h2 : thR P Q r2) (hP : ∀ x y, P x → P y → x = y) (hQ : ∀ b x y, Q b x → Q b y → x = y) : r = r2 := by
  obtain ⟨q, a1, a2⟩ := h
  obtain ⟨p, c1, c2⟩ := h2
  have e := hP _ _ a1 c1
  subst e
  rcases a2 with ⟨x1, x2⟩ | ⟨x1, x2⟩
  · rcases c2 with ⟨y1, y2⟩ | ⟨y1, y2⟩
    · rw [x2, y2]
    · exact absurd x1 y1
  · rcases c2 with ⟨y1, y2⟩ | ⟨y1, y2⟩
    · exact absurd y1 x1
    · exact hQ _ _ _ x2 y2
theorem ndR.det {t : Nat} (x y : Nat × Nat) (h : ndR K nx t b x) (h2 : ndR K nx t b y) : x = y := h.trans h2.symm
theorem ndV.det {t : Nat} (x y : Nat × Nat) (h : ndV K nx t b x) (h2 : ndV K nx t b y) : x = y := h.trans h2.symm
theorem cdR.det {gh : Nat} (x y : Nat × Nat) (h : cdR K nx gh b x) (h2 : cdR K nx gh b y) : x = y := rdR.det h h2
theorem tmR.det (x y : Nat × Nat) (h : tmR K nx b x) (h2 : tmR K nx b y) : x = y := h.trans h2.symm
theorem vrR.det (x y : Nat × Nat) (h : vrR K nx b x) (h2 : vrR K nx b y) : x = y := by
  rcases h with ⟨a, h⟩ | ⟨a, h⟩ <;> rcases h2 with ⟨c, h2⟩ | ⟨c, h2⟩
  · exact thR.det h h2 (fun x y => tmR.det x y) (fun _ x y => ndV.det x y)
  · exact absurd a c
  · exact absurd c a
  · exact ndR.det _ _ h h2
theorem stR.det (h : stR K nx b r) (h2 : stR K nx b r2) : r = r2 := by
  rcases h with ⟨a, h⟩ | ⟨a, h⟩ | ⟨a, h⟩ | ⟨a, h⟩ | ⟨a, h⟩ | ⟨a, h⟩ <;> rcases h2 with ⟨c, h2⟩ | ⟨c, h2⟩ | ⟨c, h2⟩ | ⟨c, h2⟩ | ⟨c, h2⟩ | ⟨c, h2⟩ <;> first
    | (exfalso; omega)
    | exact thR.det h h2 (fun x y => ndR.det x y) (fun _ x y => tmR.det x y)
    | exact h.trans h2.symm
    | exact cdR.det _ _ h h2
    | exact thR.det h h2 (fun x y => cdR.det x y) (fun _ x y => ndR.det x y)
    | exact thR.det h h2 (fun x y hx hy => thR.det hx hy (fun x y hx hy => thR.det hx hy (fun x y => cdR.det x y) (fun _ x y => ndR.det x y)) (fun _ x y => cdR.det x y)) (fun _ x y => vrR.det x y)
theorem pgP_det : ∀ (k j : Nat) (w : Bool) (b : Nat) (sg : List Nat) (sn fn wn cl : Nat) (r r2 : Nat × Nat), pgP K nx k w b sg sn fn wn cl r → pgP K nx j w b sg sn fn wn cl r2 → r = r2 := by
  intro k
  induction k with
  | zero => intro j w b sg sn fn wn cl r r2 h; exact h.elim
  | succ k ih =>
    intro j w b sg sn fn wn cl r r2 h h2
    cases j with
    | zero => exact h2.elim
    | succ j =>
      cases w with
      | true =>
        rcases h with ⟨a, h⟩ | ⟨a, q, hq, h⟩
        · rcases h2 with ⟨c, h2⟩ | ⟨c, p, hp, h2⟩
          · rw [h, h2]
          · exact absurd a c
        · rcases h2 with ⟨c, h2⟩ | ⟨c, p, hp, h2⟩
          · exact absurd c a
          · have e := hq.det hp
            subst e
            rcases h with ⟨x1, x2⟩ | ⟨x1, x2⟩
            · rcases h2 with ⟨y1, y2⟩ | ⟨y1, y2⟩
              · rw [x2, y2]
              · exact absurd x1 y1
            · rcases h2 with ⟨y1, y2⟩ | ⟨y1, y2⟩
              · exact absurd y1 x1
              · rcases x2 with ⟨u1, u2⟩ | ⟨u1, u2⟩ | ⟨u1, u2⟩ <;> rcases y2 with ⟨v1, v2⟩ | ⟨v1, v2⟩ | ⟨v1, v2⟩ <;> first
                  | (exfalso; omega)
                  | exact ih _ _ _ _ _ _ _ _ _ _ u2 v2
      | false =>
        rcases h with ⟨a, h⟩ | ⟨a, h⟩
        · rcases h2 with ⟨c, h2⟩ | ⟨c, h2⟩
          · exact ih _ _ _ _ _ _ _ _ _ _ h h2
          · exact absurd a c
        · rcases h2 with ⟨c, h2⟩ | ⟨c, h2⟩
          · exact absurd c a
          · rcases h with ⟨x1, x2⟩ | ⟨x, l, x1, x2⟩
            · rcases h2 with ⟨y1, y2⟩ | ⟨y, l2, y1, y2⟩
              · rw [x2, y2]
              · rw [x1] at y1; cases y1
            · rcases h2 with ⟨y1, y2⟩ | ⟨y, l2, y1, y2⟩
              · rw [y1] at x1; cases x1
              · rw [x1] at y1
                cases y1
                rcases x2 with ⟨u1, u2, u3⟩ | ⟨u1, u2⟩ | ⟨u1, u2⟩ <;> rcases y2 with ⟨v1, v2, v3⟩ | ⟨v1, v2⟩ | ⟨v1, v2⟩ <;> first
                  | (exfalso; omega)
                  | exact ih _ _ _ _ _ _ _ _ _ _ u3 v3
                  | exact ih _ _ _ _ _ _ _ _ _ _ u2 v2
                  | rw [u2, v2]
theorem pgR.det (h : pgR K nx w b sg sn fn wn cl r) (h2 : pgR K nx w b sg sn fn wn cl r2) : r = r2 := by
  obtain ⟨k, h⟩ := h
  obtain ⟨j, h2⟩ := h2
  exact pgP_det k j _ _ _ _ _ _ _ _ _ h h2
theorem pgR.no (h : stN K b sn fn wn) : pgR K nx true b sg sn fn wn cl (1, b) := ⟨1, Or.inl ⟨h, rfl⟩⟩
theorem pgR.bad (h : ¬ stN K b sn fn wn) (hq : stR K nx b (1, b1)) : pgR K nx true b sg sn fn wn cl (1, b1) := ⟨1, Or.inr ⟨h, _, hq, Or.inl ⟨rfl, rfl⟩⟩⟩
theorem pgR.ifs (h : ¬ stN K b sn fn wn) (hq : stR K nx b (0, b1)) (hk : K b = 8) (hr : pgR K nx true b1 (2 :: sg) (sn + 1) (fn + 1) wn cl r) : pgR K nx true b sg sn fn wn cl r := by
  obtain ⟨k, hr⟩ := hr
  exact ⟨k + 1, Or.inr ⟨h, _, hq, Or.inr ⟨show ¬ (0 : Nat) = 1 by decide, Or.inl ⟨hk, hr⟩⟩⟩⟩
theorem pgR.whl (h : ¬ stN K b sn fn wn) (hq : stR K nx b (vf, b1)) (hv : ¬ vf = 1) (hk : K b = 12) (hr : pgR K nx true b1 (5 :: sg) (sn + 1) fn (wn + 1) (cl + 2 + vf / 2) r) : pgR K nx true b sg sn fn wn cl r := by
  obtain ⟨k, hr⟩ := hr
  exact ⟨k + 1, Or.inr ⟨h, _, hq, Or.inr ⟨hv, Or.inr (Or.inl ⟨hk, hr⟩)⟩⟩⟩
theorem pgR.one (h : ¬ stN K b sn fn wn) (hq : stR K nx b (0, b1)) (hk : ¬ (K b = 8 ∨ K b = 12)) (hr : pgR K nx false b1 sg (sn + 1) fn wn (cl + wcl (K b)) r) : pgR K nx true b sg sn fn wn cl r := by
  obtain ⟨k, hr⟩ := hr
  exact ⟨k + 1, Or.inr ⟨h, _, hq, Or.inr ⟨show ¬ (0 : Nat) = 1 by decide, Or.inr (Or.inr ⟨hk, hr⟩)⟩⟩⟩
theorem pgR.semi (hk : K b = 59) (hr : pgR K nx true (nx b) sg sn fn wn cl r) : pgR K nx false b sg sn fn wn cl r := by
  obtain ⟨k, hr⟩ := hr
  exact ⟨k + 1, Or.inl ⟨hk, hr⟩⟩
theorem pgR.fin (hk : ¬ K b = 59) : pgR K nx false b [] sn fn wn cl (if K b = 0 then (2 + cl, b) else (1, b)) := ⟨1, Or.inr ⟨hk, Or.inl ⟨rfl, rfl⟩⟩⟩
theorem pgR.els (hk : K b = 10) (hr : pgR K nx true (nx b) (3 :: l) sn fn wn cl r) : pgR K nx false b (2 :: l) sn fn wn cl r := by
  obtain ⟨k, hr⟩ := hr
  exact ⟨k + 1, Or.inr ⟨by omega, Or.inr ⟨2, l, rfl, Or.inl ⟨rfl, hk, hr⟩⟩⟩⟩
theorem pgR.fis (hk : K b = 11) (hr : pgR K nx false (nx b) l sn fn wn cl r) : pgR K nx false b (3 :: l) sn fn wn cl r := by
  obtain ⟨k, hr⟩ := hr
  exact ⟨k + 1, Or.inr ⟨by omega, Or.inr ⟨3, l, rfl, Or.inr (Or.inl ⟨Or.inl ⟨rfl, hk⟩, hr⟩)⟩⟩⟩
theorem pgR.ods (hk : K b = 16) (hr : pgR K nx false (nx b) l sn fn wn cl r) : pgR K nx false b (5 :: l) sn fn wn cl r := by
  obtain ⟨k, hr⟩ := hr
  exact ⟨k + 1, Or.inr ⟨by omega, Or.inr ⟨5, l, rfl, Or.inr (Or.inl ⟨Or.inr ⟨rfl, hk⟩, hr⟩)⟩⟩⟩
theorem pgR.wrong {x : Nat} (hk : ¬ K b = 59) (h : ¬ ((x = 2 ∧ K b = 10) ∨ (x = 3 ∧ K b = 11) ∨ (x = 5 ∧ K b = 16))) : pgR K nx false b (x :: l) sn fn wn cl (1, b) := ⟨1, Or.inr ⟨hk, Or.inr ⟨x, l, rfl, Or.inr (Or.inr ⟨h, rfl⟩)⟩⟩⟩
end PGR
theorem thR.x {P : Nat × Nat → Prop} {Q : Nat → Nat × Nat → Prop} {f b : Nat} (h : P (f, b)) (hf : f = 1) : thR P Q (1, b) := by
  subst hf
  exact ⟨_, h, Or.inl ⟨rfl, rfl⟩⟩
theorem thR.i {P : Nat × Nat → Prop} {Q : Nat → Nat × Nat → Prop} {f b : Nat} {r : Nat × Nat} (h : P (f, b)) (hf : f = 0) (h2 : Q b r) : thR P Q r := by
  subst hf
  exact ⟨_, h, Or.inr ⟨show ¬ (0 : Nat) = 1 by decide, h2⟩⟩
section ND
variable {g : Nat → Nat} {n gh b en k v b1 e1 k1 v1 b2 e2 k2 v2 b3 t : Nat}
theorem ndR.no (h : ¬ kd g n b = t) : ndR (kd g n) (nxt g n) t b (1, b) := (if_neg h).symm
theorem ndR.yes (h : kd g n b = t) (h1 : nxt g n b = b1) : ndR (kd g n) (nxt g n) t b (0, b1) := by
  unfold ndR
  rw [if_pos h, h1]
theorem ndV.no (h : ¬ kd g n b = t) : ndV (kd g n) (nxt g n) t b (1, b) := (if_neg h).symm
theorem ndV.yes (h : kd g n b = t) (h1 : nxt g n b = b1) : ndV (kd g n) (nxt g n) t b (2, b1) := by
  unfold ndV
  rw [if_pos h, h1]
theorem kd_wd {s : Nat} (h : tkq g n b en k v) (h1 : 7 ≤ s) (h2 : s ≤ 17) : kd g n b = s ↔ k = s + 3 := by rw [h.sort]; exact cso_wd h1 h2
theorem kd_bec (h : tkq g n b en k v) : kd g n b = 6 ↔ k = 758 := by rw [h.sort]; exact cso_bec
theorem kd_var (h : tkq g n b en k v) : kd g n b = 2 ↔ (k = 2 ∧ v < 6) := by
  rw [h.sort]
  have := cso_nm (k := k) (v := v) (gh := 0)
  omega
theorem kd_sg {s : Nat} (h : tkq g n b en k v) (h1 : 36 ≤ s ∨ s = 33) (h2 : s < 60 ∨ 62 < s) (h3 : s < 128) : kd g n b = s ↔ k = 200 + s := by rw [h.sort]; exact cso_sg h1 h2 h3
/-- := and a term -/
theorem rs_x (h : tkq g n b en k v) (h1 : tkq g n b1 e1 k1 v1) (hb : b1 = nxB g n en) (hk : ¬ k1 = 758) : thR (ndR (kd g n) (nxt g n) 6 (nxt g n b)) (tmR (kd g n) (nxt g n)) (1, b1) := by
  rw [h.nx hb]
  exact thR.x (ndR.no (fun q => hk ((kd_bec h1).mp q))) rfl
theorem rs_t {f f2 : Nat} (h : tkq g n b en k v) (h1 : tkq g n b1 e1 k1 v1) (hb : b1 = nxB g n en) (hk : k1 = 758) (hb2 : b2 = nxB g n e1) (ht : trmG (kd g n) (nxt g n) 0 b2 = (f, b3)) (hf : f = f2) : thR (ndR (kd g n) (nxt g n) 6 (nxt g n b)) (tmR (kd g n) (nxt g n)) (f2, b3) := by
  rw [h.nx hb]
  subst hf
  exact thR.i (ndR.yes ((kd_bec h1).mpr hk) (h1.nx hb2)) rfl ht.symm
end ND
section PSIM
variable {K1 n1 K2 n2 ph : Nat → Nat} {cn : Nat}
theorem thR_sim {P1 P2 : Nat × Nat → Prop} {Q1 Q2 : Nat → Nat × Nat → Prop} (hP : ∀ f j, P1 (f, j) → j ≤ cn ∧ P2 (f, ph j)) (hQ : ∀ b f j, b ≤ cn → Q1 b (f, j) → j ≤ cn ∧ Q2 (ph b) (f, ph j)) {f j : Nat} (h : thR P1 Q1 (f, j)) : j ≤ cn ∧ thR P2 Q2 (f, ph j) := by
  obtain ⟨⟨f0, j0⟩, a, c⟩ := h
  obtain ⟨a1, a2⟩ := hP _ _ a
  rcases c with ⟨c1, c2⟩ | ⟨c1, c2⟩
  · obtain ⟨rfl, rfl⟩ := Prod.mk.inj c2
    exact ⟨a1, _, a2, Or.inl ⟨c1, rfl⟩⟩
  · obtain ⟨d1, d2⟩ := hQ _ _ _ a1 c2
    exact ⟨d1, _, a2, Or.inr ⟨c1, d2⟩⟩
theorem ndR_sim (hK : ∀ i, i ≤ cn → K2 (ph i) = K1 i) (hN : ∀ i, i < cn → n2 (ph i) = ph (n1 i)) (h1 : ∀ i, i < cn → n1 i ≤ cn) (h0 : ∀ i, i ≤ cn → K1 i ≠ 0 → i < cn) {t : Nat} (ht : t ≠ 0) (i f j : Nat) (hi : i ≤ cn) (h : ndR K1 n1 t i (f, j)) : j ≤ cn ∧ ndR K2 n2 t (ph i) (f, ph j) := by
  unfold ndR at h ⊢
  by_cases c : K1 i = t
  · have l1 : i < cn := h0 i hi (by omega)
    rw [if_pos c] at h
    obtain ⟨rfl, rfl⟩ := Prod.mk.inj h
    exact ⟨h1 i l1, by rw [hK i hi, if_pos c, hN i l1]⟩
  · rw [if_neg c] at h
    obtain ⟨rfl, rfl⟩ := Prod.mk.inj h
    exact ⟨hi, by rw [hK _ hi, if_neg c]⟩
theorem ndV_sim (hK : ∀ i, i ≤ cn → K2 (ph i) = K1 i) (hN : ∀ i, i < cn → n2 (ph i) = ph (n1 i)) (h1 : ∀ i, i < cn → n1 i ≤ cn) (h0 : ∀ i, i ≤ cn → K1 i ≠ 0 → i < cn) {t : Nat} (ht : t ≠ 0) (i f j : Nat) (hi : i ≤ cn) (h : ndV K1 n1 t i (f, j)) : j ≤ cn ∧ ndV K2 n2 t (ph i) (f, ph j) := by
  unfold ndV at h ⊢
  by_cases c : K1 i = t
  · have l1 : i < cn := h0 i hi (by omega)
    rw [if_pos c] at h
    obtain ⟨rfl, rfl⟩ := Prod.mk.inj h
    exact ⟨h1 i l1, by rw [hK i hi, if_pos c, hN i l1]⟩
  · rw [if_neg c] at h
    obtain ⟨rfl, rfl⟩ := Prod.mk.inj h
    exact ⟨hi, by rw [hK _ hi, if_neg c]⟩
theorem tmR_sim (hK : ∀ i, i ≤ cn → K2 (ph i) = K1 i) (hN : ∀ i, i < cn → n2 (ph i) = ph (n1 i)) (h1 : ∀ i, i < cn → n1 i ≤ cn) (h0 : ∀ i, i ≤ cn → K1 i ≠ 0 → i < cn) (i f j : Nat) (hi : i ≤ cn) (h : tmR K1 n1 i (f, j)) : j ≤ cn ∧ tmR K2 n2 (ph i) (f, ph j) := by
  unfold tmR at h ⊢
  obtain ⟨t1, t2⟩ := trmG_sim (gh := 0) hK hN h1 h0 hi
  rw [← h] at t1 t2
  exact ⟨t1, t2.symm⟩
theorem cdR_sim (hK : ∀ i, i ≤ cn → K2 (ph i) = K1 i) (hN : ∀ i, i < cn → n2 (ph i) = ph (n1 i)) (h1 : ∀ i, i < cn → n1 i ≤ cn) (h0 : ∀ i, i ≤ cn → K1 i ≠ 0 → i < cn) {gh : Nat} (i f j : Nat) (hi : i ≤ cn) (h : cdR K1 n1 gh i (f, j)) : j ≤ cn ∧ cdR K2 n2 gh (ph i) (f, ph j) := rdR_sim hK hN h1 h0 hi h
theorem vrR_sim (hK : ∀ i, i ≤ cn → K2 (ph i) = K1 i) (hN : ∀ i, i < cn → n2 (ph i) = ph (n1 i)) (h1 : ∀ i, i < cn → n1 i ≤ cn) (h0 : ∀ i, i ≤ cn → K1 i ≠ 0 → i < cn) (i f j : Nat) (hi : i ≤ cn) (h : vrR K1 n1 i (f, j)) : j ≤ cn ∧ vrR K2 n2 (ph i) (f, ph j) := by
  rcases h with ⟨c, h⟩ | ⟨c, h⟩
  · have l1 : i < cn := h0 i hi (by omega)
    obtain ⟨q1, q2⟩ := thR_sim (P2 := tmR K2 n2 (ph (n1 i))) (Q2 := ndV K2 n2 15) (ph := ph) (fun f j q => tmR_sim hK hN h1 h0 _ f j (h1 i l1) q) (fun b f j hb q => ndV_sim hK hN h1 h0 (by decide) b f j hb q) h
    exact ⟨q1, Or.inl ⟨(hK i hi).trans c, by rw [hN i l1]; exact q2⟩⟩
  · obtain ⟨q1, q2⟩ := ndR_sim hK hN h1 h0 (by decide) i f j hi h
    exact ⟨q1, Or.inr ⟨by rw [hK i hi]; exact c, q2⟩⟩
theorem stR_sim (hK : ∀ i, i ≤ cn → K2 (ph i) = K1 i) (hN : ∀ i, i < cn → n2 (ph i) = ph (n1 i)) (h1 : ∀ i, i < cn → n1 i ≤ cn) (h0 : ∀ i, i ≤ cn → K1 i ≠ 0 → i < cn) (i f j : Nat) (hi : i ≤ cn) (h : stR K1 n1 i (f, j)) : j ≤ cn ∧ stR K2 n2 (ph i) (f, ph j) := by
  have l1 : i < cn := h0 i hi (by
    rcases h with ⟨a, _⟩ | ⟨a, _⟩ | ⟨a, _⟩ | ⟨a, _⟩ | ⟨a, _⟩ | ⟨a, _⟩ <;> omega)
  have m1 := h1 i l1
  have hN1 := hN i l1
  have hK1 := hK i hi
  unfold stR
  rw [hN1, hK1]
  rcases h with ⟨a, h⟩ | ⟨a, h⟩ | ⟨a, h⟩ | ⟨a, h⟩ | ⟨a, h⟩ | ⟨a, h⟩
  · obtain ⟨q1, q2⟩ := thR_sim (P2 := ndR K2 n2 6 (ph (n1 i))) (Q2 := tmR K2 n2) (ph := ph) (fun f j q => ndR_sim hK hN h1 h0 (by decide) _ f j m1 q) (fun b f j hb q => tmR_sim hK hN h1 h0 b f j hb q) h
    exact ⟨q1, Or.inl ⟨a, q2⟩⟩
  · obtain ⟨rfl, rfl⟩ := Prod.mk.inj h
    exact ⟨m1, Or.inr (Or.inl ⟨a, rfl⟩)⟩
  · obtain ⟨q1, q2⟩ := cdR_sim hK hN h1 h0 _ f j m1 h
    exact ⟨q1, Or.inr (Or.inr (Or.inl ⟨a, q2⟩))⟩
  · obtain ⟨q1, q2⟩ := thR_sim (P2 := cdR K2 n2 1 (ph (n1 i))) (Q2 := ndR K2 n2 125) (ph := ph) (fun f j q => cdR_sim hK hN h1 h0 _ f j m1 q) (fun b f j hb q => ndR_sim hK hN h1 h0 (by decide) b f j hb q) h
    exact ⟨q1, Or.inr (Or.inr (Or.inr (Or.inl ⟨a, q2⟩)))⟩
  · obtain ⟨q1, q2⟩ := thR_sim (P2 := cdR K2 n2 0 (ph (n1 i))) (Q2 := ndR K2 n2 9) (ph := ph) (fun f j q => cdR_sim hK hN h1 h0 _ f j m1 q) (fun b f j hb q => ndR_sim hK hN h1 h0 (by decide) b f j hb q) h
    exact ⟨q1, Or.inr (Or.inr (Or.inr (Or.inr (Or.inl ⟨a, q2⟩))))⟩
  · obtain ⟨q1, q2⟩ := thR_sim (P2 := thR (thR (cdR K2 n2 0 (ph (n1 i))) (ndR K2 n2 13)) (cdR K2 n2 1)) (Q2 := vrR K2 n2) (ph := ph) (fun f j q => thR_sim (fun f j q => thR_sim (fun f j q => cdR_sim hK hN h1 h0 _ f j m1 q) (fun b f j hb q => ndR_sim hK hN h1 h0 (by decide) b f j hb q) q) (fun b f j hb q => cdR_sim hK hN h1 h0 b f j hb q) q) (fun b f j hb q => vrR_sim hK hN h1 h0 b f j hb q) h
    exact ⟨q1, Or.inr (Or.inr (Or.inr (Or.inr (Or.inr ⟨a, q2⟩))))⟩
theorem pgP_sim (hK : ∀ i, i ≤ cn → K2 (ph i) = K1 i) (hN : ∀ i, i < cn → n2 (ph i) = ph (n1 i)) (h1 : ∀ i, i < cn → n1 i ≤ cn) (h0 : ∀ i, i ≤ cn → K1 i ≠ 0 → i < cn) : ∀ (k : Nat) (w : Bool) (i : Nat) (sg : List Nat) (sn fn wn cl f j : Nat), i ≤ cn → pgP K1 n1 k w i sg sn fn wn cl (f, j) → j ≤ cn ∧ pgP K2 n2 k w (ph i) sg sn fn wn cl (f, ph j) := by
  intro k
  induction k with
  | zero => intro w i sg sn fn wn cl f j _ h; exact h.elim
  | succ k ih =>
    intro w i sg sn fn wn cl f j hi h
    have hK1 := hK i hi
    cases w with
    | true =>
      have hS : stN K2 (ph i) sn fn wn ↔ stN K1 i sn fn wn := by
        unfold stN
        rw [hK1]
      rcases h with ⟨a, h⟩ | ⟨a, ⟨f0, j0⟩, hq, h⟩
      · obtain ⟨rfl, rfl⟩ := Prod.mk.inj h
        exact ⟨hi, Or.inl ⟨hS.mpr a, rfl⟩⟩
      · obtain ⟨q1, q2⟩ := stR_sim hK hN h1 h0 i f0 j0 hi hq
        rcases h with ⟨x1, x2⟩ | ⟨x1, x2⟩
        · obtain ⟨rfl, rfl⟩ := Prod.mk.inj x2
          exact ⟨q1, Or.inr ⟨fun q => a (hS.mp q), _, q2, Or.inl ⟨x1, rfl⟩⟩⟩
        · rcases x2 with ⟨u1, u2⟩ | ⟨u1, u2⟩ | ⟨u1, u2⟩
          · obtain ⟨d1, d2⟩ := ih _ _ _ _ _ _ _ _ _ q1 u2
            exact ⟨d1, Or.inr ⟨fun q => a (hS.mp q), _, q2, Or.inr ⟨x1, Or.inl ⟨hK1.trans u1, d2⟩⟩⟩⟩
          · obtain ⟨d1, d2⟩ := ih _ _ _ _ _ _ _ _ _ q1 u2
            exact ⟨d1, Or.inr ⟨fun q => a (hS.mp q), _, q2, Or.inr ⟨x1, Or.inr (Or.inl ⟨hK1.trans u1, d2⟩)⟩⟩⟩
          · obtain ⟨d1, d2⟩ := ih _ _ _ _ _ _ _ _ _ q1 u2
            exact ⟨d1, Or.inr ⟨fun q => a (hS.mp q), _, q2, Or.inr ⟨x1, Or.inr (Or.inr ⟨by rw [hK1]; exact u1, by rw [hK1]; exact d2⟩)⟩⟩⟩
    | false =>
      rcases h with ⟨a, h⟩ | ⟨a, h⟩
      · have l1 : i < cn := h0 i hi (by omega)
        obtain ⟨d1, d2⟩ := ih _ _ _ _ _ _ _ _ _ (h1 i l1) h
        exact ⟨d1, Or.inl ⟨hK1.trans a, by rw [hN i l1]; exact d2⟩⟩
      · rcases h with ⟨x1, x2⟩ | ⟨x, l, x1, x2⟩
        · by_cases c : K1 i = 0
          · rw [if_pos c] at x2
            obtain ⟨rfl, rfl⟩ := Prod.mk.inj x2
            exact ⟨hi, Or.inr ⟨by rw [hK1]; exact a, Or.inl ⟨x1, by rw [hK1, if_pos c]⟩⟩⟩
          · rw [if_neg c] at x2
            obtain ⟨rfl, rfl⟩ := Prod.mk.inj x2
            exact ⟨hi, Or.inr ⟨by rw [hK1]; exact a, Or.inl ⟨x1, by rw [hK1, if_neg c]⟩⟩⟩
        · rcases x2 with ⟨u1, u2, u3⟩ | ⟨u1, u2⟩ | ⟨u1, u2⟩
          · have l1 : i < cn := h0 i hi (by omega)
            obtain ⟨d1, d2⟩ := ih _ _ _ _ _ _ _ _ _ (h1 i l1) u3
            exact ⟨d1, Or.inr ⟨by rw [hK1]; exact a, Or.inr ⟨x, l, x1, Or.inl ⟨u1, hK1.trans u2, by rw [hN i l1]; exact d2⟩⟩⟩⟩
          · have l1 : i < cn := h0 i hi (by omega)
            obtain ⟨d1, d2⟩ := ih _ _ _ _ _ _ _ _ _ (h1 i l1) u2
            exact ⟨d1, Or.inr ⟨by rw [hK1]; exact a, Or.inr ⟨x, l, x1, Or.inr (Or.inl ⟨by rw [hK1]; exact u1, by rw [hN i l1]; exact d2⟩)⟩⟩⟩
          · obtain ⟨rfl, rfl⟩ := Prod.mk.inj u2
            exact ⟨hi, Or.inr ⟨by rw [hK1]; exact a, Or.inr ⟨x, l, x1, Or.inr (Or.inr ⟨by rw [hK1]; exact u1, rfl⟩)⟩⟩⟩
theorem pgR_sim (hK : ∀ i, i ≤ cn → K2 (ph i) = K1 i) (hN : ∀ i, i < cn → n2 (ph i) = ph (n1 i)) (h1 : ∀ i, i < cn → n1 i ≤ cn) (h0 : ∀ i, i ≤ cn → K1 i ≠ 0 → i < cn) {w : Bool} {i : Nat} {sg : List Nat} {sn fn wn cl f j : Nat} (hi : i ≤ cn) (h : pgR K1 n1 w i sg sn fn wn cl (f, j)) : j ≤ cn ∧ pgR K2 n2 w (ph i) sg sn fn wn cl (f, ph j) := by
  obtain ⟨k, h⟩ := h
  obtain ⟨q1, q2⟩ := pgP_sim hK hN h1 h0 k w i sg sn fn wn cl f j hi h
  exact ⟨q1, k, q2⟩
end PSIM
