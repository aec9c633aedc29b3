/-- what stands on the stack of nots and parentheses, from its top -/
def stkl (st : Nat → Nat) : Nat → List Nat
  | 0 => []
  | k + 1 => if st k = 1 ∨ st k = 9 then st k :: stkl st k else stkl st k
theorem stkl_y {st : Nat → Nat} {k : Nat} (h : st k = 1 ∨ st k = 9) : stkl st (k + 1) = st k :: stkl st k := if_pos h
theorem stkl_n {st : Nat → Nat} {k : Nat} (h : ¬ (st k = 1 ∨ st k = 9)) : stkl st (k + 1) = stkl st k := if_neg h
theorem stkl_len {st : Nat → Nat} : ∀ k, (stkl st k).length = dpt st k
  | 0 => rfl
  | k + 1 => by
    by_cases h : st k = 1 ∨ st k = 9
    · rw [dpt_y h, stkl_y h, List.length_cons, stkl_len k]
    · rw [dpt_n h, stkl_n h, stkl_len k]
theorem stkl_congr {st st' : Nat → Nat} : ∀ k, (∀ j, j < k → st' j = st j) → stkl st' k = stkl st k
  | 0, _ => rfl
  | k + 1, h => by
    show (if st' k = 1 ∨ st' k = 9 then st' k :: stkl st' k else stkl st' k) = (if st k = 1 ∨ st k = 9 then st k :: stkl st k else stkl st k)
    rw [h k (Nat.lt_succ_self k), stkl_congr k (fun j hj => h j (Nat.lt_succ_of_lt hj))]
theorem ntop_congr {st st' : Nat → Nat} : ∀ k, (∀ j, j < k → st' j = st j) → ntop st' k = ntop st k
  | 0, _ => rfl
  | k + 1, h => by
    show (if st' k = 1 then ntop st' k + 1 else 0) = (if st k = 1 then ntop st k + 1 else 0)
    rw [h k (Nat.lt_succ_self k), ntop_congr k (fun j hj => h j (Nat.lt_succ_of_lt hj))]
theorem stkl_sup {st : Nat → Nat} {sd v : Nat} : stkl (sup st sd v) sd = stkl st sd := stkl_congr sd (fun j hj => sup_ne (by omega))
theorem stkl_p1 {st : Nat → Nat} {sd : Nat} : stkl (sup st sd 1) (sd + 1) = 1 :: stkl st sd := by rw [stkl_y (by rw [sup_eq]; exact Or.inl rfl), sup_eq, stkl_sup]
theorem stkl_p9 {st : Nat → Nat} {sd : Nat} : stkl (sup st sd 9) (sd + 1) = 9 :: stkl st sd := by rw [stkl_y (by rw [sup_eq]; exact Or.inr rfl), sup_eq, stkl_sup]
theorem stkl_op {st : Nat → Nat} {sd v : Nat} (hv : v = 2 ∨ v = 3) : stkl (sup st sd v) (sd + 1) = stkl st sd := by rw [stkl_n (by rw [sup_eq]; omega), stkl_sup]
theorem stkl_mem {st : Nat → Nat} : ∀ k, 9 ∈ stkl st k ↔ hpn st k = 1
  | 0 => ⟨fun h => absurd h (by simp [stkl]), fun h => absurd (show (0 : Nat) = 1 from h) (by decide)⟩
  | k + 1 => by
    have ih := stkl_mem (st := st) k
    by_cases h9 : st k = 9
    · rw [stkl_y (Or.inr h9), h9, show hpn st (k + 1) = 1 from if_pos h9]
      exact ⟨fun _ => rfl, fun _ => List.mem_cons_self⟩
    · rw [show hpn st (k + 1) = hpn st k from if_neg h9]
      by_cases h1 : st k = 1
      · rw [stkl_y (Or.inl h1), h1, ← ih]
        exact ⟨fun h => (List.mem_cons.mp h).resolve_left (by decide), fun h => List.mem_cons_of_mem _ h⟩
      · rw [stkl_n (by omega)]; exact ih
/-- a not stands right below what it is said of -/
def nst (st : Nat → Nat) (sd : Nat) : Prop := ∀ j, j + 1 < sd → st j = 1 → st (j + 1) = 1 ∨ st (j + 1) = 9
theorem nst_0 {st : Nat → Nat} : nst st 0 := fun j hj => absurd hj (Nat.not_lt_zero _)
theorem nst.dn {st : Nat → Nat} {sd sd' : Nat} (h : nst st sd) (hs : sd' ≤ sd) : nst st sd' := fun j hj => h j (by omega)
theorem nst.up {st : Nat → Nat} {sd v : Nat} (h : nst st sd) (hv : (v = 1 ∨ v = 9) ∨ (stkl st sd).head? ≠ some 1) : nst (sup st sd v) (sd + 1) := by
  intro j hj h1
  rw [sup_ne (show j ≠ sd by omega)] at h1
  by_cases e : j + 1 = sd
  · rw [e, sup_eq]
    rcases hv with hv | hv
    · exact hv
    · subst e
      rw [stkl_y (Or.inl h1), h1] at hv
      exact absurd rfl hv
  · rw [sup_ne e]; exact h j (by omega) h1
theorem pnt_stk {st : Nat → Nat} : ∀ sd, pnt (stkl st sd) = pnt (stkl st (sd - ntop st sd))
  | 0 => rfl
  | sd + 1 => by
    by_cases h : st sd = 1
    · have e : ntop st (sd + 1) = ntop st sd + 1 := if_pos h
      rw [stkl_y (Or.inl h), h, pnt_1, e, show sd + 1 - (ntop st sd + 1) = sd - ntop st sd by omega]
      exact pnt_stk sd
    · have e : ntop st (sd + 1) = 0 := if_neg h
      rw [e]; rfl
theorem stkl_hd {st : Nat → Nat} : ∀ k, (stkl st k).head? = some 1 → ∃ j, j < k ∧ st j = 1 ∧ ∀ i, j < i → i < k → ¬ (st i = 1 ∨ st i = 9)
  | 0, h => by cases h
  | k + 1, h => by
    by_cases c : st k = 1 ∨ st k = 9
    · rw [stkl_y c] at h
      exact ⟨k, Nat.lt_succ_self k, Option.some.inj h, fun i h1 h2 => absurd h1 (by omega)⟩
    · rw [stkl_n c] at h
      obtain ⟨j, h1, h2, h3⟩ := stkl_hd k h
      refine ⟨j, by omega, h2, fun i h4 h5 => ?_⟩
      by_cases e : i = k
      · rw [e]; exact c
      · exact h3 i h4 (by omega)
theorem ntop_top {st : Nat → Nat} : ∀ k, 0 < k - ntop st k → ¬ st (k - ntop st k - 1) = 1
  | 0, h => absurd h (by show ¬ 0 < 0 - 0; omega)
  | k + 1, h => by
    by_cases c : st k = 1
    · have e : ntop st (k + 1) = ntop st k + 1 := if_pos c
      rw [e, show k + 1 - (ntop st k + 1) = k - ntop st k by omega] at h ⊢
      exact ntop_top k h
    · have e : ntop st (k + 1) = 0 := if_neg c
      rw [e, Nat.sub_zero, Nat.add_sub_cancel]; exact c
theorem nst.head {st : Nat → Nat} {sd : Nat} (h : nst st sd) : (stkl st (sd - ntop st sd)).head? ≠ some 1 := by
  intro q
  obtain ⟨j, h1, h2, h3⟩ := stkl_hd _ q
  have ht := ntop_top (st := st) sd (by omega)
  by_cases e : j = sd - ntop st sd - 1
  · rw [e] at h2; exact ht h2
  · exact h3 (j + 1) (by omega) (by omega) (h j (by omega) h2)
theorem nst.pop {st : Nat → Nat} {sd : Nat} (h : nst st sd) : pnt (stkl st sd) = stkl st (sd - ntop st sd) := by rw [pnt_stk, pnt_id h.head]
/-- pops down to a parenthesis: nothing but operators goes -/
theorem stkl_dn {st : Nat → Nat} {sd : Nat} (h : (stkl st sd).head? ≠ some 1) (h0 : 0 < sd) (h9 : ¬ st (sd - 1) = 9) : stkl st (sd - 1) = stkl st sd := by
  obtain ⟨m, rfl⟩ : ∃ m, sd = m + 1 := ⟨sd - 1, by omega⟩
  rw [Nat.add_sub_cancel] at *
  by_cases h1 : st m = 1
  · rw [stkl_y (Or.inl h1), h1] at h
    exact absurd rfl h
  · rw [stkl_n (by omega)]
theorem stkl_cl {st : Nat → Nat} {sd : Nat} (h0 : 0 < sd) (h9 : st (sd - 1) = 9) : (stkl st sd).tail = stkl st (sd - 1) ∧ 9 ∈ stkl st sd := by
  obtain ⟨m, rfl⟩ : ∃ m, sd = m + 1 := ⟨sd - 1, by omega⟩
  rw [Nat.add_sub_cancel] at *
  rw [stkl_y (Or.inr h9), h9]
  exact ⟨rfl, List.mem_cons_self⟩
/-- a part is read: from here on as there -/
def rdS (g : Nat → Nat) (n gh b : Nat) (sg : List Nat) (a b1 : Nat) (st1 : Nat → Nat) (s1 a1 : Nat) : Prop := nst st1 s1 ∧ (stkl st1 s1).head? ≠ some 1 ∧ ∀ r, rdR (kd g n) (nxt g n) gh false b1 (stkl st1 s1) a1 r → rdR (kd g n) (nxt g n) gh true b sg a r
/-- nots and parentheses are read: a part is still wanted -/
def rdP (g : Nat → Nat) (n gh b : Nat) (sg : List Nat) (a b1 : Nat) (st1 : Nat → Nat) (s1 : Nat) : Prop := nst st1 s1 ∧ ∀ r, rdR (kd g n) (nxt g n) gh true b1 (stkl st1 s1) a r → rdR (kd g n) (nxt g n) gh true b sg a r
/-- it fails there -/
def rdX (g : Nat → Nat) (n gh b : Nat) (sg : List Nat) (a b1 : Nat) : Prop := rdR (kd g n) (nxt g n) gh true b sg a (1, b1)
/-- no more goes on behind the condition -/
def rdE (f mo k : Nat) (st1 : Nat → Nat) (s1 : Nat) : Prop := f = 1 ∨ mo = 1 ∨ ((k ≠ 241 ∨ hpn st1 s1 ≠ 1) ∧ k ≠ 238 ∧ k ≠ 324)
section RD
variable {g : Nat → Nat} {n gh b en k v b1 e1 k1 v1 b2 e2 k2 v2 a a1 : Nat} {sg sg1 : List Nat} {st1 : Nat → Nat} {s1 : Nat}
theorem kd_nt (h : tkq g n b en k v) : kd g n b = 33 ↔ k = 233 := by rw [h.sort]; exact cso_sg (by decide) (by decide) (by decide)
theorem kd_pa (h : tkq g n b en k v) : kd g n b = 40 ↔ k = 240 := by rw [h.sort]; exact cso_sg (by decide) (by decide) (by decide)
theorem kd_cl (h : tkq g n b en k v) : kd g n b = 41 ↔ k = 241 := by rw [h.sort]; exact cso_sg (by decide) (by decide) (by decide)
theorem kd_an (h : tkq g n b en k v) : kd g n b = 38 ↔ k = 238 := by rw [h.sort]; exact cso_sg (by decide) (by decide) (by decide)
theorem kd_or (h : tkq g n b en k v) : kd g n b = 124 ↔ k = 324 := by rw [h.sort]; exact cso_sg (by decide) (by decide) (by decide)
theorem kd_ao (h : tkq g n b en k v) : (kd g n b = 38 ∨ kd g n b = 124) ↔ (k = 238 ∨ k = 324) := by rw [kd_an h, kd_or h]
theorem kd_np (h : tkq g n b en k v) : (kd g n b = 33 ∨ kd g n b = 40) ↔ (k = 233 ∨ k = 240) := by rw [kd_nt h, kd_pa h]
theorem kd_end (h : tkq g n b en k v) : kd g n b = 0 ↔ k = 0 := by rw [h.sort]; exact cso_end
theorem kd_wy (h : tkq g n b en k v) : kd g n b = 5 ↔ ¬ wyK k = -1 := by
  rw [h.sort, cso_cmp]
  unfold wyK
  constructor
  · rintro (rfl | rfl | rfl | rfl | rfl | rfl) <;> decide
  · intro q
    (repeat' split at q) <;> first | omega | exact absurd rfl q
theorem rdP_0 {st : Nat → Nat} {sd : Nat} (h : nst st sd) : rdP g n gh b (stkl st sd) a b st sd := ⟨h, fun r q => q⟩
theorem rdP_nt (h : rdP g n gh b sg a b1 st1 s1) (hq : tkq g n b1 e1 k1 v1) (hk : k1 = 233) (hd : ¬ dpt st1 s1 = 10) (hb : b2 = nxB g n e1) : rdP g n gh b sg a b2 (sup st1 s1 1) (s1 + 1) :=
  ⟨h.1.up (Or.inl (Or.inl rfl)), fun r q => h.2 r (rdR.nt ((kd_nt hq).mpr hk) (by rw [stkl_len]; exact hd) (by rw [hq.nx hb, ← stkl_p1]; exact q))⟩
theorem rdP_pa (h : rdP g n gh b sg a b1 st1 s1) (hq : tkq g n b1 e1 k1 v1) (hk : k1 = 240) (hd : ¬ dpt st1 s1 = 10) (hb : b2 = nxB g n e1) : rdP g n gh b sg a b2 (sup st1 s1 9) (s1 + 1) :=
  ⟨h.1.up (Or.inl (Or.inr rfl)), fun r q => h.2 r (rdR.pa ((kd_pa hq).mpr hk) (by rw [stkl_len]; exact hd) (by rw [hq.nx hb, ← stkl_p9]; exact q))⟩
theorem rdP_dp (h : rdP g n gh b sg a b1 st1 s1) (hq : tkq g n b1 e1 k1 v1) (hk : k1 = 233 ∨ k1 = 240) (hd : dpt st1 s1 = 10) : rdX g n gh b sg a b1 := h.2 _ (rdR.dp ((kd_np hq).mpr hk) (by rw [stkl_len]; exact hd))
theorem rdP_fl (h : rdP g n gh b sg a b1 st1 s1) (hq : tkq g n b1 e1 k1 v1) (hk : ¬ (k1 = 233 ∨ k1 = 240)) (ha : a = 8) : rdX g n gh b sg a b1 := h.2 _ (rdR.fl (fun q => hk ((kd_np hq).mp q)) ha)
theorem rdP_ab {f : Nat} (h : rdP g n gh b sg a b1 st1 s1) (hq : tkq g n b1 e1 k1 v1) (hk : ¬ (k1 = 233 ∨ k1 = 240)) (ha : ¬ a = 8) (hm : atmG (kd g n) (nxt g n) gh b1 = (f, b2)) (hf : f = 1) : rdX g n gh b sg a b2 := by
  subst hf
  exact h.2 _ (rdR.ab (fun q => hk ((kd_np hq).mp q)) ha hm)
theorem rdP_at {f a2 : Nat} (h : rdP g n gh b sg a b1 st1 s1) (hq : tkq g n b1 e1 k1 v1) (hk : ¬ (k1 = 233 ∨ k1 = 240)) (ha : ¬ a = 8) (hm : atmG (kd g n) (nxt g n) gh b1 = (f, b2)) (hf : f = 0) (ha2 : a2 = a + 1) : rdS g n gh b sg a b2 st1 (s1 - ntop st1 s1) a2 := by
  subst hf
  subst ha2
  exact ⟨h.1.dn (by omega), h.1.head, fun r q => h.2 _ (rdR.atm (fun q => hk ((kd_np hq).mp q)) ha hm (by rw [h.1.pop]; exact q))⟩
/-- a parenthesis is shut: the operators above it went, it goes, and the nots ahead of it -/
theorem rdS_cl {s2 : Nat} (h : rdS g n gh b sg a b1 st1 s1 a1) (hq : tkq g n b1 e1 k1 v1) (hk : k1 = 241) (he : stkl st1 s2 = stkl st1 s1) (hs : s2 ≤ s1) (h0 : 0 < s2) (h9 : st1 (s2 - 1) = 9) (hb : b2 = nxB g n e1) : rdS g n gh b sg a b2 st1 (s2 - 1 - ntop st1 (s2 - 1)) a1 := by
  have hd : nst st1 (s2 - 1) := h.1.dn (by omega)
  obtain ⟨t1, t2⟩ := stkl_cl h0 h9
  exact ⟨hd.dn (by omega), hd.head, fun r q => h.2.2 r (rdR.cl ((kd_cl hq).mpr hk) (he ▸ t2) (by rw [hq.nx hb, ← he, t1, hd.pop]; exact q))⟩
theorem rdS_op {s2 v2 b3 : Nat} {st3 : Nat → Nat} {s3 a3 : Nat} (h : rdS g n gh b sg a b1 st1 s1 a1) (hq : tkq g n b1 e1 k1 v1) (hk : k1 = 238 ∨ k1 = 324) (he : stkl st1 s2 = stkl st1 s1) (hv : v2 = 2 ∨ v2 = 3) (hb : b2 = nxB g n e1) (hp : rdS g n gh b2 (stkl (sup st1 s2 v2) (s2 + 1)) a1 b3 st3 s3 a3) : rdS g n gh b sg a b3 st3 s3 a3 :=
  ⟨hp.1, hp.2.1, fun r q => h.2.2 r (rdR.op ((kd_ao hq).mpr hk) (by rw [hq.nx hb, ← he, ← stkl_op (v := v2) hv]; exact hp.2.2 r q))⟩
theorem rdS_ox {s2 v2 b3 : Nat} (h : rdS g n gh b sg a b1 st1 s1 a1) (hq : tkq g n b1 e1 k1 v1) (hk : k1 = 238 ∨ k1 = 324) (he : stkl st1 s2 = stkl st1 s1) (hv : v2 = 2 ∨ v2 = 3) (hb : b2 = nxB g n e1) (hp : rdX g n gh b2 (stkl (sup st1 s2 v2) (s2 + 1)) a1 b3) : rdX g n gh b sg a b3 :=
  h.2.2 _ (rdR.op ((kd_ao hq).mpr hk) (by rw [hq.nx hb, ← he, ← stkl_op (v := v2) hv]; exact hp))
theorem rdS_up {s2 v2 : Nat} (h : rdS g n gh b sg a b1 st1 s1 a1) (he : stkl st1 s2 = stkl st1 s1) (hs : s2 ≤ s1) : nst (sup st1 s2 v2) (s2 + 1) := (h.1.dn hs).up (Or.inr (by rw [he]; exact h.2.1))
theorem rdS_dn {s2 : Nat} (h : rdS g n gh b sg a b1 st1 s1 a1) (he : stkl st1 s2 = stkl st1 s1) (h0 : 0 < s2) (h9 : ¬ st1 (s2 - 1) = 9) : stkl st1 (s2 - 1) = stkl st1 s1 := (stkl_dn (by rw [he]; exact h.2.1) h0 h9).trans he
/-- the end of a condition -/
theorem rdS_fin {f : Nat} {mo : Nat} (h : rdS g n gh b sg a b1 st1 s1 a1) (hq : tkq g n b1 e1 k1 v1) (hE : rdE f mo k1 st1 s1) (hf : ¬ f = 1) (hm : ¬ mo = 1) (hp : ¬ hpn st1 s1 = 1) : rdR (kd g n) (nxt g n) gh true b sg a (0, b1) := by
  have h3 := (hE.resolve_left hf).resolve_left hm
  exact h.2.2 _ (rdR.fin (fun q => by have := (kd_ao hq).mp q; omega) (fun q => hp ((stkl_mem s1).mp q)))
theorem rdS_opn {f : Nat} {mo : Nat} (h : rdS g n gh b sg a b1 st1 s1 a1) (hq : tkq g n b1 e1 k1 v1) (hE : rdE f mo k1 st1 s1) (hf : ¬ f = 1) (hm : ¬ mo = 1) (hp : hpn st1 s1 = 1) : rdR (kd g n) (nxt g n) gh true b sg a (1, b1) := by
  have h3 := (hE.resolve_left hf).resolve_left hm
  exact h.2.2 _ (rdR.ub (fun q => by have := (kd_ao hq).mp q; omega) (fun q => by have := (kd_cl hq).mp q; omega) ((stkl_mem s1).mpr hp))
/-- what a text that is to be a condition is answered by -/
def ans (g : Nat → Nat) (n : Nat) (r : Nat × Nat) : Nat := if r.1 = 1 then r.2 + 1 else if kd g n r.2 = 0 then 0 else r.2 + 1
def ansC (g : Nat → Nat) (n x : Nat) : Prop := ∃ r, rdR (kd g n) (nxt g n) 0 true (nxB g n 0) [] 0 r ∧ x = ans g n r
theorem ansC.det {x y : Nat} (h : ansC g n x) (h2 : ansC g n y) : x = y := by
  obtain ⟨r, h, e⟩ := h
  obtain ⟨q, h2, e2⟩ := h2
  rw [e, e2, h.det h2]
theorem ans_x {f : Nat} (hb : b = nxB g n 0) (h : rdR (kd g n) (nxt g n) 0 true b [] 0 (f, b1)) (hf : f = 1) : ansC g n (b1 + 1) := ⟨_, hb ▸ h, by subst hf; exact (if_pos rfl).symm⟩
theorem ans_e {f : Nat} (hb : b = nxB g n 0) (h : rdR (kd g n) (nxt g n) 0 true b [] 0 (f, b1)) (hf : f = 0) (hq : tkq g n b1 e1 k1 v1) (hk : ¬ k1 = 0) : ansC g n (b1 + 1) := ⟨_, hb ▸ h, by subst hf; unfold ans; rw [if_neg (show ¬ (0 : Nat) = 1 by decide), if_neg (fun q => hk ((kd_end hq).mp q))]⟩
theorem ans_0 {f : Nat} (hb : b = nxB g n 0) (h : rdR (kd g n) (nxt g n) 0 true b [] 0 (f, b1)) (hf : f = 0) (hq : tkq g n b1 e1 k1 v1) (hk : k1 = 0) : ansC g n 0 := ⟨_, hb ▸ h, by subst hf; unfold ans; rw [if_neg (show ¬ (0 : Nat) = 1 by decide), if_pos ((kd_end hq).mpr hk)]⟩
end RD
