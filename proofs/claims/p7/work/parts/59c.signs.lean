theorem tkq.val {g : Nat → Nat} {n b en k v : Nat} (h : tkq g n b en k v) (hk : k = 2 ∨ k = 3) : kv g n b = v := by
  obtain ⟨_, h2, _, h4⟩ := h
  unfold kv kvo
  rw [← h2, ← h4.resolve_left (fun q => q hk)]
  (repeat rw [if_neg (by omega)])
theorem tkq.cmp {g : Nat → Nat} {n b en k v : Nat} (h : tkq g n b en k v) : kv g n b = kvo k (tkV g n b 0) := by
  unfold kv
  rw [← h.2.1]
/-- a name, as it is kept -/
def nmI (x : Int32) : Nat := if x = -1 then 10 else x.toBitVec.toNat
theorem nmI_m : nmI (-1) = 10 := if_pos rfl
theorem nmI_n {v : Nat} (h : v < 10) : nmI (nI v) = v := (by decide +kernel : ∀ v, v < 10 → nmI (nI v) = v) v h
/-- a comparison: the reference's code into the other -/
def wcd (w : Int32) : Nat := if w = 0 then 0 else if w = 1 then 2 else if w = 2 then 4 else if w = 3 then 5 else if w = 4 then 1 else 3
theorem wcd_k {k v : Nat} (h : ¬ wyK k = -1) : wcd (wyK k) = kvo k v := by
  unfold wyK at h ⊢
  unfold kvo
  by_cases e1 : k = 260
  · subst e1; rfl
  · by_cases e2 : k = 760
    · subst e2; rfl
    · by_cases e3 : k = 261
      · subst e3; rfl
      · by_cases e4 : k = 235
        · subst e4; rfl
        · by_cases e5 : k = 762
          · subst e5; rfl
          · by_cases e6 : k = 262
            · subst e6; rfl
            · rw [if_neg e1, if_neg e2, if_neg e3, if_neg e4, if_neg e5, if_neg e6] at h
              exact absurd rfl h
/-- a comparison that there is; a term beside one that there is not is none -/
def cok8 (w : Int32) : Prop := w = 0 ∨ w = 1 ∨ w = 2 ∨ w = 3 ∨ w = 4 ∨ w = 5
def tm48 (w x y : Int32) : Nat × Int32 := if w = 0 ∨ w = 1 ∨ w = 2 ∨ w = 3 ∨ w = 4 ∨ w = 5 then (nmI x, y) else (99, 0)
theorem tm48_y {w x y : Int32} (h : cok8 w) : tm48 w x y = (nmI x, y) := if_pos h
theorem tm48_n {w x y : Int32} (h : ¬ cok8 w) : tm48 w x y = (99, 0) := if_neg h
theorem wyK_ok {k : Nat} (h : ¬ wyK k = -1) : cok8 (wyK k) := by
  unfold wyK at h ⊢
  unfold cok8
  by_cases e1 : k = 260
  · subst e1; exact Or.inl rfl
  · by_cases e2 : k = 760
    · subst e2; exact Or.inr (Or.inl rfl)
    · by_cases e3 : k = 261
      · subst e3; exact Or.inr (Or.inr (Or.inl rfl))
      · by_cases e4 : k = 235
        · subst e4; exact Or.inr (Or.inr (Or.inr (Or.inl rfl)))
        · by_cases e5 : k = 762
          · subst e5; exact Or.inr (Or.inr (Or.inr (Or.inr (Or.inl rfl))))
          · by_cases e6 : k = 262
            · subst e6; exact Or.inr (Or.inr (Or.inr (Or.inr (Or.inr rfl))))
            · rw [if_neg e1, if_neg e2, if_neg e3, if_neg e4, if_neg e5, if_neg e6] at h
              exact absurd rfl h
/-- the sign at place o1 of a row of signs -/
def dec (F : Nat → Int32) (o1 : Nat) : sgT := if F o1 = 0 then (wcd (F (o1 + 3)), (nmI (F (o1 + 1)), F (o1 + 2)), tm48 (F (o1 + 3)) (F (o1 + 4)) (F (o1 + 5))) else if F o1 = 1 then opS 1 else if F o1 = 2 then opS 2 else opS 3
def sgl (F : Nat → Int32) (b q : Nat) : List sgT := slf (fun k => dec F (b + 6 * k)) 0 q
/-- what stands on the stack, from its top -/
def stl (st : Nat → Nat) : Nat → List Nat
  | 0 => []
  | k + 1 => st k :: stl st k
theorem dec_congr {F F' : Nat → Int32} {a a' : Nat} (h : ∀ j, j < 6 → F' (a' + j) = F (a + j)) : dec F' a' = dec F a := by
  have h0 : F' a' = F a := h 0 (by decide)
  unfold dec
  rw [h0, h 1 (by decide), h 2 (by decide), h 3 (by decide), h 4 (by decide), h 5 (by decide)]
section SGL
variable {F F' : Nat → Int32} {b b' q : Nat} {st st' : Nat → Nat}
theorem sgl_len : (sgl F b q).length = q := slf_len q
theorem sgl_congr (h : ∀ j, j < 6 * q → F' (b' + j) = F (b + j)) : sgl F' b' q = sgl F b q := slf_congr q (fun k hk => by
  show dec F' (b' + 6 * (0 + k)) = dec F (b + 6 * (0 + k))
  exact dec_congr (fun j hj => by
    have := h (6 * (0 + k) + j) (by omega)
    rw [← Nat.add_assoc, ← Nat.add_assoc] at this
    exact this))
theorem sgl_snoc : sgl F b (q + 1) = sgl F b q ++ [dec F (b + 6 * q)] := by
  show slf (fun k => dec F (b + 6 * k)) 0 q ++ [dec F (b + 6 * (0 + q))] = _
  rw [Nat.zero_add]; rfl
theorem sgl_add {m : Nat} : sgl F b (q + m) = sgl F b q ++ sgl F (b + 6 * q) m := by
  unfold sgl
  rw [slf_add]
  congr 1
  exact slf_congr m (fun j _ => by
    show dec F (b + 6 * (0 + q + j)) = dec F (b + 6 * q + 6 * (0 + j))
    rw [show b + 6 * (0 + q + j) = b + 6 * q + 6 * (0 + j) by omega])
theorem dec_o {x : Nat} {o1 : Nat} (h : x = 1 ∨ x = 2 ∨ x = 3) (e : F o1 = nI x) : dec F o1 = opS x := by
  unfold dec
  rw [e]
  rcases h with rfl | rfl | rfl <;> rfl
theorem sgl_emit {x : Nat} (h : x = 1 ∨ x = 2 ∨ x = 3) : sgl (upd F (6 * q) (nI x)) 0 (q + 1) = sgl F 0 q ++ [opS x] := by
  rw [sgl_snoc, Nat.zero_add, dec_o h upd_eq, sgl_congr (F := F) (fun j hj => by rw [upd_ne (by omega)])]
theorem sgl_enF : ∀ k, sgl (enF F q k) 0 (q + k) = sgl F 0 q ++ List.replicate k (opS 1)
  | 0 => (List.append_nil _).symm
  | k + 1 => by
    show sgl (upd (enF F q k) (6 * (q + k)) (nI 1)) 0 (q + k + 1) = _
    rw [sgl_emit (Or.inl rfl), sgl_enF k, List.replicate_succ', List.append_assoc]
theorem stl_congr : ∀ k, (∀ j, j < k → st' j = st j) → stl st' k = stl st k
  | 0, _ => rfl
  | k + 1, h => by
    show st' k :: stl st' k = st k :: stl st k
    rw [h k (Nat.lt_succ_self k), stl_congr k (fun j hj => h j (Nat.lt_succ_of_lt hj))]
theorem stl_push {sd v : Nat} : stl (sup st sd v) (sd + 1) = v :: stl st sd := by
  show sup st sd v sd :: stl (sup st sd v) sd = _
  rw [sup_eq, stl_congr sd (fun j hj => sup_ne (by omega))]
theorem stl_pop {sd : Nat} (h : 0 < sd) : stl st sd = st (sd - 1) :: stl st (sd - 1) := by
  obtain ⟨m, rfl⟩ : ∃ m, sd = m + 1 := ⟨sd - 1, by omega⟩
  rfl
theorem stl_nts : ∀ sd, nts (stl st sd) = List.replicate (ntop st sd) (opS 1)
  | 0 => rfl
  | sd + 1 => by
    show nts (st sd :: stl st sd) = List.replicate (if st sd = 1 then ntop st sd + 1 else 0) (opS 1)
    by_cases h : st sd = 1
    · rw [h, nts_1, if_pos rfl, List.replicate_succ, stl_nts sd]
    · rw [nts_n h, if_neg h]; rfl
theorem stl_pnt : ∀ sd, pnt (stl st sd) = stl st (sd - ntop st sd)
  | 0 => rfl
  | sd + 1 => by
    by_cases h : st sd = 1
    · have e : ntop st (sd + 1) = ntop st sd + 1 := if_pos h
      show pnt (st sd :: stl st sd) = _
      rw [h, pnt_1, e, show sd + 1 - (ntop st sd + 1) = sd - ntop st sd by omega]
      exact stl_pnt sd
    · have e : ntop st (sd + 1) = 0 := if_neg h
      rw [e]
      exact if_neg h
theorem stl_dpw : ∀ sd, dpw (stl st sd) = dpt st sd
  | 0 => rfl
  | sd + 1 => by
    show dpw (stl st sd) + (if st sd = 1 ∨ st sd = 9 then 1 else 0) = dpt st sd + (if st sd = 1 ∨ st sd = 9 then 1 else 0)
    rw [stl_dpw sd]
theorem stl_mem : ∀ sd, 9 ∈ stl st sd ↔ hpn st sd = 1
  | 0 => ⟨fun h => absurd h (by simp [stl]), fun h => absurd (show (0 : Nat) = 1 from h) (by decide)⟩
  | sd + 1 => by
    have ih := stl_mem sd
    by_cases h9 : st sd = 9
    · rw [show hpn st (sd + 1) = 1 from if_pos h9]
      exact ⟨fun _ => rfl, fun _ => by show 9 ∈ st sd :: stl st sd; rw [h9]; exact List.mem_cons_self⟩
    · rw [show hpn st (sd + 1) = hpn st sd from if_neg h9, ← ih]
      exact mem9_o h9
end SGL
/-- a term that was read -/
def tmQ (x y : Int32) (t : Nat × Int32) : Prop := nmI x = t.1 ∧ y = t.2
section TRV
variable {g : Nat → Nat} {n gh b en k v b1 e1 k1 v1 b2 e2 k2 v2 b3 : Nat} {x : Int32}
theorem trv_a (h : tkq g n b en k v) (hk : k = 2 ∧ (v < 6 ∨ gh = 1)) (h1 : tkq g n b1 e1 k1 v1) (hb : b1 = nxB g n en) (hn : ¬ (k1 = 243 ∨ k1 = 245)) : tmQ (nI v) 0 (trmV (kd g n) (nxt g n) (kv g n) gh b) := by
  have s43 : ¬ kd g n b1 = 43 := by rw [h1.sort]; exact fun q => hn (Or.inl ((cso_sg (by decide) (by decide) (by decide)).mp q))
  have s45 : ¬ kd g n b1 = 45 := by rw [h1.sort]; exact fun q => hn (Or.inr ((cso_sg (by decide) (by decide) (by decide)).mp q))
  unfold trmV
  rw [h.sort, if_pos (cso_nm.mpr hk), h.nx hb, if_neg s43, if_neg s45, h.val (Or.inl hk.1)]
  exact ⟨nmI_n (h.lt hk.1), rfl⟩
theorem trv_p (h : tkq g n b en k v) (hk : k = 2 ∧ (v < 6 ∨ gh = 1)) (h1 : tkq g n b1 e1 k1 v1) (hb : b1 = nxB g n en) (hn : k1 = 243) (h2 : tkq g n b2 e2 k2 v2) (hb2 : b2 = nxB g n e1) (h3 : k2 = 3) (hx : x = nI v2) : tmQ (nI v) x (trmV (kd g n) (nxt g n) (kv g n) gh b) := by
  have s43 : kd g n b1 = 43 := by rw [h1.sort]; exact (cso_sg (by decide) (by decide) (by decide)).mpr hn
  unfold trmV
  rw [h.sort, if_pos (cso_nm.mpr hk), h.nx hb, if_pos s43, h.val (Or.inl hk.1), h1.nx hb2, h2.val (Or.inr h3)]
  exact ⟨nmI_n (h.lt hk.1), hx⟩
theorem trv_m (h : tkq g n b en k v) (hk : k = 2 ∧ (v < 6 ∨ gh = 1)) (h1 : tkq g n b1 e1 k1 v1) (hb : b1 = nxB g n en) (hn : k1 = 245) (h2 : tkq g n b2 e2 k2 v2) (hb2 : b2 = nxB g n e1) (h3 : k2 = 3) (hx : x = -nI v2) : tmQ (nI v) x (trmV (kd g n) (nxt g n) (kv g n) gh b) := by
  have s45 : kd g n b1 = 45 := by rw [h1.sort]; exact (cso_sg (by decide) (by decide) (by decide)).mpr hn
  unfold trmV
  rw [h.sort, if_pos (cso_nm.mpr hk), h.nx hb, if_neg (show ¬ kd g n b1 = 43 by omega), if_pos s45, h.val (Or.inl hk.1), h1.nx hb2, h2.val (Or.inr h3)]
  exact ⟨nmI_n (h.lt hk.1), hx⟩
theorem trv_d (h : tkq g n b en k v) (hk : ¬ (k = 2 ∧ (v < 6 ∨ gh = 1))) (hm : k = 245) (h1 : tkq g n b1 e1 k1 v1) (hb : b1 = nxB g n en) (h3 : k1 = 3) (hx : x = -nI v1) : tmQ (-1) x (trmV (kd g n) (nxt g n) (kv g n) gh b) := by
  unfold trmV
  rw [h.sort, if_neg (fun q => hk (cso_nm.mp q)), if_pos ((cso_sg (by decide) (by decide) (by decide)).mpr hm), h.nx hb, h1.val (Or.inr h3)]
  exact ⟨nmI_m, hx⟩
theorem trv_f (h : tkq g n b en k v) (hk : ¬ (k = 2 ∧ (v < 6 ∨ gh = 1))) (hm : ¬ k = 245) (h3 : k = 3) (hx : x = nI v) : tmQ (-1) x (trmV (kd g n) (nxt g n) (kv g n) gh b) := by
  unfold trmV
  rw [h.sort, if_neg (fun q => hk (cso_nm.mp q)), if_neg (fun q => hm ((cso_sg (by decide) (by decide) (by decide)).mp q)), h.val (Or.inr h3)]
  exact ⟨nmI_m, hx⟩
end TRV
section ATV
variable {g : Nat → Nat} {n gh b b1 e1 k1 v1 b2 f : Nat} {F f0 : Nat → Int32} {o1 : Nat} {x1 y1 x2 y2 : Int32}
theorem atv (h1 : tmQ x1 y1 (trmV (kd g n) (nxt g n) (kv g n) gh b)) (ht : trmG (kd g n) (nxt g n) gh b = (f, b1)) (hq : tkq g n b1 e1 k1 v1) (hw : ¬ wyK k1 = -1) (hb : b2 = nxB g n e1) (h2 : tmQ x2 y2 (trmV (kd g n) (nxt g n) (kv g n) gh b2)) :
    dec (upd (upd (upd (upd (upd (upd f0 o1 0) (o1 + 1) x1) (o1 + 2) y1) (o1 + 3) (wyK k1)) (o1 + 4) x2) (o1 + 5) y2) o1 = atmV (kd g n) (nxt g n) (kv g n) gh b := by
  obtain ⟨a1, a2⟩ := h1
  obtain ⟨c1, c2⟩ := h2
  unfold dec atmV
  rw [ht]
  show _ = (kv g n b1, trmV (kd g n) (nxt g n) (kv g n) gh b, trmV (kd g n) (nxt g n) (kv g n) gh (nxt g n b1))
  rw [hq.nx hb, hq.cmp, ← wcd_k hw]
  generalize trmV (kd g n) (nxt g n) (kv g n) gh b = t1 at *
  generalize trmV (kd g n) (nxt g n) (kv g n) gh b2 = t2 at *
  obtain ⟨t11, t12⟩ := t1
  obtain ⟨t21, t22⟩ := t2
  simp only at a1 a2 c1 c2
  subst a1 a2 c1 c2
  have e0 : (upd (upd (upd (upd (upd (upd f0 o1 0) (o1 + 1) x1) (o1 + 2) y1) (o1 + 3) (wyK k1)) (o1 + 4) x2) (o1 + 5) y2) o1 = 0 := by simp [upd]
  rw [e0, if_pos rfl]
  simp [upd, tm48_y (wyK_ok hw)]
end ATV
/-- nots and parentheses are read: a part is still wanted -/
def rgP (g : Nat → Nat) (n gh b : Nat) (sg : List Nat) (ou : List sgT) (a b1 : Nat) (st1 : Nat → Nat) (s1 : Nat) : Prop := ∀ r, rgR (kd g n) (nxt g n) (kv g n) gh true b1 (stl st1 s1) ou a r → rgR (kd g n) (nxt g n) (kv g n) gh true b sg ou a r
/-- a part is read: from here on as there -/
def rgS (g : Nat → Nat) (n gh b : Nat) (sg : List Nat) (ou : List sgT) (a b1 : Nat) (st1 : Nat → Nat) (s1 : Nat) (F1 : Nat → Int32) (q1 a1 : Nat) : Prop := ∀ r, rgR (kd g n) (nxt g n) (kv g n) gh false b1 (stl st1 s1) (sgl F1 0 q1) a1 r → rgR (kd g n) (nxt g n) (kv g n) gh true b sg ou a r
/-- it fails there -/
def rgX (g : Nat → Nat) (n gh b : Nat) (sg : List Nat) (ou : List sgT) (a b1 : Nat) : Prop := rgR (kd g n) (nxt g n) (kv g n) gh true b sg ou a (1, b1, [])
/-- what the stack still gives out: to a parenthesis; for a sign -/
def em9 (st1 : Nat → Nat) (F1 : Nat → Int32) (q1 s1 : Nat) (F2 : Nat → Int32) (q2 s2 : Nat) : Prop := sgl F2 0 q2 ++ up9 (stl st1 s2) = sgl F1 0 q1 ++ up9 (stl st1 s1) ∧ af9 (stl st1 s2) = af9 (stl st1 s1)
def emO (p : Nat) (st1 : Nat → Nat) (F1 : Nat → Int32) (q1 s1 : Nat) (F2 : Nat → Int32) (q2 s2 : Nat) : Prop := sgl F2 0 q2 ++ tkO p (stl st1 s2) = sgl F1 0 q1 ++ tkO p (stl st1 s1) ∧ drO p (stl st1 s2) = drO p (stl st1 s1)
/-- which signs go ahead of a sign -/
def pO (k : Nat) : Nat := if k = 238 then 2 else 3
def emE (v : Nat) (st1 : Nat → Nat) (F1 : Nat → Int32) (q1 s1 : Nat) (F2 : Nat → Int32) (q2 s2 : Nat) : Prop := sgl F2 0 q2 = sgl F1 0 q1 ++ tkO v (stl st1 s1) ∧ stl st1 s2 = drO v (stl st1 s1)
/-- its signs, where it did not fail -/
def sg9 (f : Nat) (F : Nat → Int32) (q : Nat) : List sgT := if f = 1 then [] else sgl F 0 q
theorem sg9_0 {f q : Nat} {F : Nat → Int32} (h : f = 0) : sg9 f F q = sgl F 0 q := if_neg (by omega)
section RG
variable {g : Nat → Nat} {n gh b en k v b1 e1 k1 v1 b2 e2 k2 v2 a a1 : Nat} {sg : List Nat} {ou : List sgT} {st1 : Nat → Nat} {s1 s2 q1 q2 p : Nat} {F1 F2 : Nat → Int32}
theorem rgP_0 : rgP g n gh b (stl st1 s1) ou a b st1 s1 := fun r q => q
theorem rgP_nt (h : rgP g n gh b sg ou a b1 st1 s1) (hq : tkq g n b1 e1 k1 v1) (hk : k1 = 233) (hd : ¬ dpt st1 s1 = 10) (hb : b2 = nxB g n e1) : rgP g n gh b sg ou a b2 (sup st1 s1 1) (s1 + 1) :=
  fun r q => h r (rgR.nt ((kd_nt hq).mpr hk) (by rw [stl_dpw]; exact hd) (by rw [hq.nx hb, ← stl_push]; exact q))
theorem rgP_pa (h : rgP g n gh b sg ou a b1 st1 s1) (hq : tkq g n b1 e1 k1 v1) (hk : k1 = 240) (hd : ¬ dpt st1 s1 = 10) (hb : b2 = nxB g n e1) : rgP g n gh b sg ou a b2 (sup st1 s1 9) (s1 + 1) :=
  fun r q => h r (rgR.pa ((kd_pa hq).mpr hk) (by rw [stl_dpw]; exact hd) (by rw [hq.nx hb, ← stl_push]; exact q))
theorem rgP_dp (h : rgP g n gh b sg ou a b1 st1 s1) (hq : tkq g n b1 e1 k1 v1) (hk : k1 = 233 ∨ k1 = 240) (hd : dpt st1 s1 = 10) : rgX g n gh b sg ou a b1 := h _ (rgR.dp ((kd_np hq).mpr hk) (by rw [stl_dpw]; exact hd))
theorem rgP_fl (h : rgP g n gh b sg ou a b1 st1 s1) (hq : tkq g n b1 e1 k1 v1) (hk : ¬ (k1 = 233 ∨ k1 = 240)) (ha : a = 8) : rgX g n gh b sg ou a b1 := h _ (rgR.fl (fun q => hk ((kd_np hq).mp q)) ha)
theorem rgP_ab {f : Nat} (h : rgP g n gh b sg ou a b1 st1 s1) (hq : tkq g n b1 e1 k1 v1) (hk : ¬ (k1 = 233 ∨ k1 = 240)) (ha : ¬ a = 8) (hm : atmG (kd g n) (nxt g n) gh b1 = (f, b2)) (hf : f = 1) : rgX g n gh b sg ou a b2 := by
  subst hf
  exact h _ (rgR.ab (fun q => hk ((kd_np hq).mp q)) ha hm)
theorem rgP_at {f a2 q3 : Nat} {f0 F3 : Nat → Int32} {q0 : Nat} (h : rgP g n gh b sg (sgl f0 0 q0) a b1 st1 s1) (hq : tkq g n b1 e1 k1 v1) (hk : ¬ (k1 = 233 ∨ k1 = 240)) (ha : ¬ a = 8) (hm : atmG (kd g n) (nxt g n) gh b1 = (f, b2)) (hf : f = 0) (ha2 : a2 = a + 1) (h3 : q3 = q0 + 1) (h4 : ∀ j, j < 6 * q0 → F3 j = f0 j) (h5 : dec F3 (6 * q0) = atmV (kd g n) (nxt g n) (kv g n) gh b1) : rgS g n gh b sg (sgl f0 0 q0) a b2 st1 (s1 - ntop st1 s1) (enF F3 q3 (ntop st1 s1)) (q3 + ntop st1 s1) a2 := by
  subst hf
  subst ha2
  subst h3
  intro r q
  refine h _ (rgR.atm (fun q => hk ((kd_np hq).mp q)) ha hm ?_)
  have e : sgl F3 0 (q0 + 1) = sgl f0 0 q0 ++ [atmV (kd g n) (nxt g n) (kv g n) gh b1] := by
    rw [sgl_snoc, Nat.zero_add, h5, sgl_congr (F := f0) (fun j hj => by rw [Nat.zero_add]; exact h4 j hj)]
  rw [sgl_enF, e, ← stl_nts, ← stl_pnt] at q
  exact q
theorem em9_0 : em9 st1 F1 q1 s1 F1 q1 s1 := ⟨rfl, rfl⟩
theorem emO_0 : emO p st1 F1 q1 s1 F1 q1 s1 := ⟨rfl, rfl⟩
theorem em9_s (h : em9 st1 F1 q1 s1 F2 q2 s2) (h0 : 0 < s2) (hs : st1 (s2 - 1) = 1 ∨ st1 (s2 - 1) = 2 ∨ st1 (s2 - 1) = 3) : em9 st1 F1 q1 s1 (upd F2 (6 * q2) (nI (st1 (s2 - 1)))) (q2 + 1) (s2 - 1) := by
  obtain ⟨h1, h2⟩ := h
  have n9 : ¬ st1 (s2 - 1) = 9 := by omega
  rw [stl_pop h0, up9_o n9] at h1
  rw [stl_pop h0, af9_o n9] at h2
  refine ⟨?_, h2⟩
  rw [sgl_emit hs, ← h1, List.append_assoc]; rfl
theorem emO_s (h : emO p st1 F1 q1 s1 F2 q2 s2) (h0 : 0 < s2) (hp : st1 (s2 - 1) = 2 ∨ st1 (s2 - 1) = p) (hs : st1 (s2 - 1) = 1 ∨ st1 (s2 - 1) = 2 ∨ st1 (s2 - 1) = 3) : emO p st1 F1 q1 s1 (upd F2 (6 * q2) (nI (st1 (s2 - 1)))) (q2 + 1) (s2 - 1) := by
  obtain ⟨h1, h2⟩ := h
  rw [stl_pop h0, tkO_y hp] at h1
  rw [stl_pop h0, drO_y hp] at h2
  refine ⟨?_, h2⟩
  rw [sgl_emit hs, ← h1, List.append_assoc]; rfl
theorem emE_v {v v2 : Nat} (h : emE v st1 F1 q1 s1 F2 q2 s2) (e : v = v2) : emE v2 st1 F1 q1 s1 F2 q2 s2 := e ▸ h
theorem emO_e (h : emO p st1 F1 q1 s1 F2 q2 s2) (hp : ¬ (0 < s2 ∧ (st1 (s2 - 1) = 2 ∨ st1 (s2 - 1) = p))) : emE p st1 F1 q1 s1 F2 q2 s2 := by
  obtain ⟨h1, h2⟩ := h
  by_cases h0 : 0 < s2
  · have hn : ¬ (st1 (s2 - 1) = 2 ∨ st1 (s2 - 1) = p) := fun q => hp ⟨h0, q⟩
    rw [stl_pop h0, tkO_n hn, List.append_nil] at h1
    rw [stl_pop h0, drO_n hn, ← stl_pop h0] at h2
    exact ⟨h1, h2⟩
  · have e : s2 = 0 := by omega
    subst e
    have h1' : sgl F2 0 q2 ++ [] = sgl F1 0 q1 ++ tkO p (stl st1 s1) := h1
    rw [List.append_nil] at h1'
    exact ⟨h1', h2⟩
/-- a parenthesis is shut: the operators above it went, it goes, and the nots ahead of it -/
theorem rgS_cl (h : rgS g n gh b sg ou a b1 st1 s1 F1 q1 a1) (hq : tkq g n b1 e1 k1 v1) (hk : k1 = 241) (he : em9 st1 F1 q1 s1 F2 q2 s2) (h0 : 0 < s2) (h9 : st1 (s2 - 1) = 9) (hp : hpn st1 s1 = 1) (hb : b2 = nxB g n e1) : rgS g n gh b sg ou a b2 st1 (s2 - 1 - ntop st1 (s2 - 1)) (enF F2 q2 (ntop st1 (s2 - 1))) (q2 + ntop st1 (s2 - 1)) a1 := by
  obtain ⟨e1, e2⟩ := he
  rw [stl_pop h0, h9, up9_9, List.append_nil] at e1
  rw [stl_pop h0, h9, af9_9] at e2
  intro r q
  refine h r (rgR.cl ((kd_cl hq).mpr hk) ((stl_mem s1).mpr hp) ?_)
  rw [sgl_enF, e1, ← stl_nts, ← stl_pnt, e2] at q
  rw [hq.nx hb]
  exact q
theorem rgS_op {v3 b3 : Nat} {st3 : Nat → Nat} {s3 a3 q3 : Nat} {F3 : Nat → Int32} (h : rgS g n gh b sg ou a b1 st1 s1 F1 q1 a1) (hq : tkq g n b1 e1 k1 v1) (hk : (k1 = 238 ∧ v3 = 2) ∨ (k1 = 324 ∧ v3 = 3)) (he : emE v3 st1 F1 q1 s1 F2 q2 s2) (hb : b2 = nxB g n e1) (hp : rgS g n gh b2 (stl (sup st1 s2 v3) (s2 + 1)) (sgl F2 0 q2) a1 b3 st3 s3 F3 q3 a3) : rgS g n gh b sg ou a b3 st3 s3 F3 q3 a3 := by
  intro r q
  have hr := hp r q
  rw [stl_push, he.1, he.2, ← hq.nx hb] at hr
  rcases hk with ⟨c1, rfl⟩ | ⟨c1, rfl⟩
  · exact h r (rgR.an ((kd_an hq).mpr c1) hr)
  · exact h r (rgR.or ((kd_or hq).mpr c1) hr)
theorem rgS_ox {v3 b3 : Nat} (h : rgS g n gh b sg ou a b1 st1 s1 F1 q1 a1) (hq : tkq g n b1 e1 k1 v1) (hk : (k1 = 238 ∧ v3 = 2) ∨ (k1 = 324 ∧ v3 = 3)) (he : emE v3 st1 F1 q1 s1 F2 q2 s2) (hb : b2 = nxB g n e1) (hp : rgX g n gh b2 (stl (sup st1 s2 v3) (s2 + 1)) (sgl F2 0 q2) a1 b3) : rgX g n gh b sg ou a b3 := by
  have hr : rgR (kd g n) (nxt g n) (kv g n) gh true b2 (stl (sup st1 s2 v3) (s2 + 1)) (sgl F2 0 q2) a1 (1, b3, []) := hp
  rw [stl_push, he.1, he.2, ← hq.nx hb] at hr
  rcases hk with ⟨c1, rfl⟩ | ⟨c1, rfl⟩
  · exact h _ (rgR.an ((kd_an hq).mpr c1) hr)
  · exact h _ (rgR.or ((kd_or hq).mpr c1) hr)
/-- the end of a condition -/
theorem rgS_fin {f mo : Nat} (h : rgS g n gh b sg ou a b1 st1 s1 F1 q1 a1) (hq : tkq g n b1 e1 k1 v1) (hE : rdE f mo k1 st1 s1) (hf : ¬ f = 1) (hm : ¬ mo = 1) (hp : ¬ hpn st1 s1 = 1) (he : em9 st1 F1 q1 s1 F2 q2 s2) (h0 : s2 = 0) : rgR (kd g n) (nxt g n) (kv g n) gh true b sg ou a (0, b1, sgl F2 0 q2) := by
  have h3 := (hE.resolve_left hf).resolve_left hm
  subst h0
  have e1 : sgl F2 0 q2 ++ [] = sgl F1 0 q1 ++ up9 (stl st1 s1) := he.1
  rw [List.append_nil] at e1
  rw [e1]
  exact h _ (rgR.fin (fun q => by have := (kd_ao hq).mp q; omega) (fun q => hp ((stl_mem s1).mp q)))
theorem rgS_opn {f mo : Nat} (h : rgS g n gh b sg ou a b1 st1 s1 F1 q1 a1) (hq : tkq g n b1 e1 k1 v1) (hE : rdE f mo k1 st1 s1) (hf : ¬ f = 1) (hm : ¬ mo = 1) (hp : hpn st1 s1 = 1) : rgX g n gh b sg ou a b1 := by
  have h3 := (hE.resolve_left hf).resolve_left hm
  exact h _ (rgR.ub (fun q => by have := (kd_ao hq).mp q; omega) (fun q => by have := (kd_cl hq).mp q; omega) ((stl_mem s1).mpr hp))
theorem cn9_x (h : rgX g n gh b sg ou a b1) : rgR (kd g n) (nxt g n) (kv g n) gh true b sg ou a (1, b1, sg9 1 F1 q1) := by
  rw [show sg9 1 F1 q1 = [] from if_pos rfl]; exact h
theorem cn9_y (h : rgR (kd g n) (nxt g n) (kv g n) gh true b sg ou a (0, b1, sgl F1 0 q1)) : rgR (kd g n) (nxt g n) (kv g n) gh true b sg ou a (0, b1, sg9 0 F1 q1) := by
  rw [show sg9 0 F1 q1 = sgl F1 0 q1 from if_neg (by decide)]; exact h
end RG
/-- what a text that is to be a condition is answered by, and its signs where that is 0 -/
def ansL (g : Nat → Nat) (n x : Nat) (m : List sgT) : Prop := ∃ r, rgR (kd g n) (nxt g n) (kv g n) 0 true (nxB g n 0) [] [] 0 r ∧ x = ans g n (r.1, r.2.1) ∧ (x = 0 → r.2.2 = m)
section ANL
variable {g : Nat → Nat} {n b b1 e1 k1 v1 f : Nat} {m m2 : List sgT}
theorem ansL.det {x y : Nat} (h : ansL g n x m) (h2 : ansL g n y m2) : x = y ∧ (x = 0 → m = m2) := by
  obtain ⟨r, h, e, c⟩ := h
  obtain ⟨q, h2, e2, c2⟩ := h2
  have eq := h.det h2
  subst eq
  have exy : x = y := e.trans e2.symm
  exact ⟨exy, fun h0 => (c h0).symm.trans (c2 (exy.symm.trans h0))⟩
theorem anl_x (hb : b = nxB g n 0) (h : rgR (kd g n) (nxt g n) (kv g n) 0 true b [] [] 0 (f, b1, m)) (hf : f = 1) : ansL g n (b1 + 1) m2 := ⟨_, hb ▸ h, by subst hf; exact (if_pos rfl).symm, fun q => absurd q (by omega)⟩
theorem anl_e (hb : b = nxB g n 0) (h : rgR (kd g n) (nxt g n) (kv g n) 0 true b [] [] 0 (f, b1, m)) (hf : f = 0) (hq : tkq g n b1 e1 k1 v1) (hk : ¬ k1 = 0) : ansL g n (b1 + 1) m2 := ⟨_, hb ▸ h, by subst hf; unfold ans; rw [if_neg (show ¬ (0 : Nat) = 1 by decide), if_neg (fun q => hk ((kd_end hq).mp q))], fun q => absurd q (by omega)⟩
theorem anl_0 (hb : b = nxB g n 0) (h : rgR (kd g n) (nxt g n) (kv g n) 0 true b [] [] 0 (f, b1, m)) (hf : f = 0) (hq : tkq g n b1 e1 k1 v1) (hk : k1 = 0) : ansL g n 0 m := ⟨_, hb ▸ h, by subst hf; unfold ans; rw [if_neg (show ¬ (0 : Nat) = 1 by decide), if_pos ((kd_end hq).mpr hk)], fun _ => rfl⟩
end ANL
