theorem cdq {K nx V : Nat → Nat} {gh b f f2 b1 : Nat} {m : List sgT} (h : rgR K nx V gh true b [] [] 0 (f, b1, m)) (hf : f = f2) : cdR K nx V gh b (f2, b1) := by
  subst hf
  exact ⟨m, h⟩
/-- a while's head -/
def wlR (g : Nat → Nat) (n b : Nat) (r : Nat × Nat) : Prop := thR (thR (thR (cdR (kd g n) (nxt g n) (kv g n) 0 (nxt g n b)) (ndR (kd g n) (nxt g n) 13)) (cdR (kd g n) (nxt g n) (kv g n) 1)) (vrR (kd g n) (nxt g n)) r
section WL
variable {g : Nat → Nat} {n b en k v b1 c1 e1 k1 v1 c2 c3 e3 k3 v3 c4 c5 e5 k5 v5 c6 f f2 f5 : Nat}
theorem w_a1 (hq0 : tkq g n b en k v) (hb0 : b1 = nxB g n en) (h : cdR (kd g n) (nxt g n) (kv g n) 0 b1 (f, c1)) (hf : f = 1) : wlR g n b (1, c1) := by
  rw [← hq0.nx hb0] at h
  exact thR.x (thR.x (thR.x h hf) rfl) rfl
theorem w_a2 (hq0 : tkq g n b en k v) (hb0 : b1 = nxB g n en) (h : cdR (kd g n) (nxt g n) (kv g n) 0 b1 (f, c1)) (hf : f = 0) (hq : tkq g n c1 e1 k1 v1) (hk : ¬ k1 = 16) : wlR g n b (1, c1) := by
  rw [← hq0.nx hb0] at h
  exact thR.x (thR.x (thR.i h hf (ndR.no (fun q => hk ((kd_wd hq (by decide) (by decide)).mp q)))) rfl) rfl
theorem w_2 (hq0 : tkq g n b en k v) (hb0 : b1 = nxB g n en) (h : cdR (kd g n) (nxt g n) (kv g n) 0 b1 (f, c1)) (hf : f = 0) (hq : tkq g n c1 e1 k1 v1) (hk : k1 = 16) (hb : c2 = nxB g n e1) (h2 : cdR (kd g n) (nxt g n) (kv g n) 1 c2 (f2, c3)) : thR (thR (cdR (kd g n) (nxt g n) (kv g n) 0 (nxt g n b)) (ndR (kd g n) (nxt g n) 13)) (cdR (kd g n) (nxt g n) (kv g n) 1) (f2, c3) := by
  rw [← hq0.nx hb0] at h
  exact thR.i (thR.i h hf (ndR.yes ((kd_wd hq (by decide) (by decide)).mpr hk) (hq.nx hb))) rfl h2
theorem vn_x (hq : tkq g n c3 e3 k3 v3) (hk : ¬ k3 = 17) (hd : ¬ k3 = 18) : vrR (kd g n) (nxt g n) c3 (1, c3) := Or.inr ⟨fun q => hk ((kd_wd hq (by decide) (by decide)).mp q), ndR.no (fun q => hd ((kd_wd hq (by decide) (by decide)).mp q))⟩
theorem vn_y (hq : tkq g n c3 e3 k3 v3) (hk : ¬ k3 = 17) (hd : k3 = 18) (hb : c4 = nxB g n e3) : vrR (kd g n) (nxt g n) c3 (0, c4) := Or.inr ⟨fun q => hk ((kd_wd hq (by decide) (by decide)).mp q), ndR.yes ((kd_wd hq (by decide) (by decide)).mpr hd) (hq.nx hb)⟩
theorem vv_x (hq : tkq g n c3 e3 k3 v3) (hk : k3 = 17) (hb : c4 = nxB g n e3) (ht : trmG (kd g n) (nxt g n) 0 c4 = (f5, c5)) (hf : f5 = 1) : vrR (kd g n) (nxt g n) c3 (1, c5) := by
  refine Or.inl ⟨(kd_wd hq (by decide) (by decide)).mpr hk, ?_⟩
  rw [hq.nx hb]
  exact thR.x ht.symm hf
theorem vv_n (hq : tkq g n c3 e3 k3 v3) (hk : k3 = 17) (hb : c4 = nxB g n e3) (ht : trmG (kd g n) (nxt g n) 0 c4 = (f5, c5)) (hf : f5 = 0) (hq5 : tkq g n c5 e5 k5 v5) (hd : ¬ k5 = 18) : vrR (kd g n) (nxt g n) c3 (1, c5) := by
  refine Or.inl ⟨(kd_wd hq (by decide) (by decide)).mpr hk, ?_⟩
  rw [hq.nx hb]
  exact thR.i ht.symm hf (ndV.no (fun q => hd ((kd_wd hq5 (by decide) (by decide)).mp q)))
theorem vv_y (hq : tkq g n c3 e3 k3 v3) (hk : k3 = 17) (hb : c4 = nxB g n e3) (ht : trmG (kd g n) (nxt g n) 0 c4 = (f5, c5)) (hf : f5 = 0) (hq5 : tkq g n c5 e5 k5 v5) (hd : k5 = 18) (hb6 : c6 = nxB g n e5) : vrR (kd g n) (nxt g n) c3 (2, c6) := by
  refine Or.inl ⟨(kd_wd hq (by decide) (by decide)).mpr hk, ?_⟩
  rw [hq.nx hb]
  exact thR.i ht.symm hf (ndV.yes ((kd_wd hq5 (by decide) (by decide)).mpr hd) (hq5.nx hb6))
end WL
/-- 1 where it fails; else 2 with a variant, 0 without -/
def vfl (f : Nat) (v : Int32) : Nat := if f = 1 then 1 else if v = 0 then 0 else 2
/-- how many conditions an item makes -/
def wit (o : Nat) (v : Int32) : Nat := if o = 5 then (if v = 0 then 2 else 3) else if o = 8 then 1 else 0
theorem wit_0 {o : Nat} {v : Int32} (h5 : ¬ o = 5) (h8 : ¬ o = 8) : wit o v = 0 := by
  unfold wit
  rw [if_neg h5, if_neg h8]
theorem wit_8 {o : Nat} {v : Int32} (h : o = 8) : wit o v = 1 := by
  unfold wit
  rw [if_neg (by omega), if_pos h]
theorem wit_5 {v : Int32} (h : v = 0) : wit 5 v = 2 := by
  unfold wit
  rw [if_pos rfl, if_pos h]
theorem wit_5n {v : Int32} (h : ¬ v = 0) : wit 5 v = 3 := by
  unfold wit
  rw [if_pos rfl, if_neg h]
section VF
variable {g : Nat → Nat} {n b c f : Nat} {v : Int32}
theorem wl_1 (h : wlR g n b (1, c)) : wlR g n b (vfl 1 v, c) := by
  rw [show vfl 1 v = 1 from if_pos rfl]; exact h
theorem wl_0 (hv : v = 0) (h : wlR g n b (0, c)) : wlR g n b (vfl 0 v, c) := by
  rw [show vfl 0 v = 0 by unfold vfl; rw [if_neg (by decide), if_pos hv]]; exact h
theorem wl_2 (hv : ¬ v = 0) (h : wlR g n b (2, c)) : wlR g n b (vfl 0 v, c) := by
  rw [show vfl 0 v = 2 by unfold vfl; rw [if_neg (by decide), if_neg hv]]; exact h
theorem vfl_1 (h : f = 1) : vfl f v = 1 := if_pos h
theorem vfl_n (h : f = 0) : ¬ vfl f v = 1 := by
  subst h
  unfold vfl
  rw [if_neg (by decide)]
  split <;> decide
theorem vfl_w (h : f = 0) : 2 + vfl f v / 2 = wit 5 v := by
  subst h
  unfold vfl wit
  rw [if_neg (by decide), if_pos rfl]
  split <;> rfl
end VF
/-- how many conditions items make -/
def cnw (op : Nat → Nat) (vr : Nat → Int32) (B : Nat) : Nat → Nat
  | 0 => 0
  | k + 1 => cnw op vr B k + wit (op (B + k)) (vr (B + k))
section CNW
variable {op op' : Nat → Nat} {vr vr' : Nat → Int32} {B : Nat}
theorem cnw_congr : ∀ (k : Nat), (∀ j, j < k → op' (B + j) = op (B + j) ∧ vr' (B + j) = vr (B + j)) → cnw op' vr' B k = cnw op vr B k
  | 0, _ => rfl
  | k + 1, h => by
    show cnw op' vr' B k + wit (op' (B + k)) (vr' (B + k)) = cnw op vr B k + wit (op (B + k)) (vr (B + k))
    rw [cnw_congr k (fun j hj => h j (Nat.lt_succ_of_lt hj)), (h k (Nat.lt_succ_self k)).1, (h k (Nat.lt_succ_self k)).2]
/-- an item more -/
theorem cnw_one {k k' I w : Nat} (ho : fr1 I op op') (hv : fr1 I vr vr') (hI : I = B + k) (hk : k' = k + 1) (hw : wit (op' I) (vr' I) = w) : cnw op' vr' B k' = cnw op vr B k + w := by
  subst hk
  subst hI
  show cnw op' vr' B k + wit (op' (B + k)) (vr' (B + k)) = _
  rw [hw, cnw_congr k (fun j hj => ⟨ho _ (by omega), hv _ (by omega)⟩)]
theorem cnw_s0 {k : Nat} (h5 : ¬ op (B + k) = 5) (h8 : ¬ op (B + k) = 8) : cnw op vr B (k + 1) = cnw op vr B k := by
  have h := wit_0 (v := vr (B + k)) h5 h8
  show cnw op vr B k + wit (op (B + k)) (vr (B + k)) = cnw op vr B k
  omega
theorem cnw_s8 {k : Nat} (h8 : op (B + k) = 8) : cnw op vr B (k + 1) = cnw op vr B k + 1 := by
  have h := wit_8 (v := vr (B + k)) h8
  show cnw op vr B k + wit (op (B + k)) (vr (B + k)) = cnw op vr B k + 1
  omega
theorem cnw_s5 {k : Nat} (h5 : op (B + k) = 5) : cnw op vr B (k + 1) = cnw op vr B k + wit 5 (vr (B + k)) := by
  show cnw op vr B k + wit (op (B + k)) (vr (B + k)) = _
  rw [h5]
theorem cnw_fr {hf k k' : Nat} (hhf : hf ≤ 1) (hk : k ≤ 40) (ho : frb (1 - hf) op op') (hv : frb (1 - hf) vr vr') (e : k' = k) : cnw op' vr' (40 * hf) k' = cnw op vr (40 * hf) k := by
  subst e
  exact cnw_congr _ (fun j hj => ⟨ho _ (by omega), hv _ (by omega)⟩)
end CNW
/-- what is begun: the sort of each, from the last on -/
def okl (op opn : Nat → Nat) : Nat → List Nat
  | 0 => []
  | k + 1 => op (opn k) :: okl op opn k
theorem okl_congr {op op' opn opn' : Nat → Nat} : ∀ k, (∀ j, j < k → op' (opn' j) = op (opn j)) → okl op' opn' k = okl op opn k
  | 0, _ => rfl
  | k + 1, h => by
    show op' (opn' k) :: okl op' opn' k = op (opn k) :: okl op opn k
    rw [h k (Nat.lt_succ_self k), okl_congr k (fun j hj => h j (Nat.lt_succ_of_lt hj))]
theorem okl_one {op opn : Nat → Nat} {d I c : Nat} (h : ∀ j, j < d → opn j < I) : okl (sup op I c) opn d = okl op opn d := okl_congr d (fun j hj => sup_ne (by have := h j hj; omega))
theorem okl_push {op opn : Nat → Nat} {d I c : Nat} (h : ∀ j, j < d → opn j < I) : okl (sup op I c) (sup opn d I) (d + 1) = c :: okl op opn d := by
  show sup op I c (sup opn d I d) :: okl (sup op I c) (sup opn d I) d = _
  rw [sup_eq, sup_eq, okl_congr (op := op) (opn := opn) d (fun j hj => by rw [sup_ne (show j ≠ d by omega)]; exact sup_ne (by have := h j hj; omega))]
theorem okl_else {op opn : Nat → Nat} {d I c : Nat} (h0 : 0 < d) (h : ∀ j, j < d → opn j < I) : okl (sup op I c) (sup opn (d - 1) I) d = c :: okl op opn (d - 1) := by
  obtain ⟨m, rfl⟩ : ∃ m, d = m + 1 := ⟨d - 1, by omega⟩
  rw [Nat.add_sub_cancel]
  exact okl_push (fun j hj => h j (by omega))
theorem okl_top {op opn : Nat → Nat} {d : Nat} (h0 : 0 < d) : okl op opn d = op (opn (d - 1)) :: okl op opn (d - 1) := by
  obtain ⟨m, rfl⟩ : ∃ m, d = m + 1 := ⟨d - 1, by omega⟩
  rfl
/-- a statement is read: from here on as there (m: 1 when another is wanted at once) -/
def pgS (g : Nat → Nat) (n b : Nat) (sg : List itT) (sn fn wn : Nat) (pl : List itT) (m b1 : Nat) (sg1 : List itT) (sn1 fn1 wn1 : Nat) (pl1 : List itT) : Prop := ∀ r, pgR (kd g n) (nxt g n) (kv g n) (m == 1) b1 sg1 sn1 fn1 wn1 pl1 r → pgR (kd g n) (nxt g n) (kv g n) true b sg sn fn wn pl r
def pgX (g : Nat → Nat) (n b : Nat) (sg : List itT) (sn fn wn : Nat) (pl : List itT) (b1 : Nat) : Prop := pgR (kd g n) (nxt g n) (kv g n) true b sg sn fn wn pl (1, b1, [])
/-- behind a statement -/
def pgB (g : Nat → Nat) (n b : Nat) (sg : List itT) (pl : List itT) (b1 : Nat) (sg1 : List itT) (sn fn wn : Nat) (pl1 : List itT) : Prop := ∀ r, pgR (kd g n) (nxt g n) (kv g n) false b1 sg1 sn fn wn pl1 r → pgR (kd g n) (nxt g n) (kv g n) false b sg sn fn wn pl r
def pgY (g : Nat → Nat) (n b : Nat) (sg : List itT) (sn fn wn : Nat) (pl : List itT) (b1 : Nat) : Prop := pgR (kd g n) (nxt g n) (kv g n) false b sg sn fn wn pl (1, b1, [])
def pgV (g : Nat → Nat) (n b : Nat) (sg : List itT) (sn fn wn : Nat) (pl : List itT) (m b1 : Nat) (sg1 : List itT) (pl1 : List itT) : Prop := (m = 1 ∧ ∀ r, pgR (kd g n) (nxt g n) (kv g n) true b1 sg1 sn fn wn pl1 r → pgR (kd g n) (nxt g n) (kv g n) false b sg sn fn wn pl r) ∨ (m = 0 ∧ pgR (kd g n) (nxt g n) (kv g n) false b sg sn fn wn pl (2, b1, pl1))
/-- the program as far as it is read -/
def pgW (g : Nat → Nat) (n b : Nat) (m b1 : Nat) (sg1 : List itT) (sn1 fn1 wn1 : Nat) (pl1 : List itT) : Prop := (m = 1 ∧ ∀ r, pgR (kd g n) (nxt g n) (kv g n) true b1 sg1 sn1 fn1 wn1 pl1 r → pgR (kd g n) (nxt g n) (kv g n) true b [] 0 0 0 [] r) ∨ (m = 0 ∧ pgR (kd g n) (nxt g n) (kv g n) true b [] 0 0 0 [] (2, b1, pl1))
/-- what program answers, and its items where that is 0 -/
def ansP (g : Nat → Nat) (n x : Nat) (pl : List itT) : Prop := ∃ r, pgR (kd g n) (nxt g n) (kv g n) true (nxB g n 0) [] 0 0 0 [] r ∧ (x = if r.1 = 1 then r.2.1 + 1 else 0) ∧ (r.1 = 1 ∨ (r.1 = 2 ∧ r.2.2 = pl))
theorem ansP.det {g : Nat → Nat} {n x y : Nat} {c d : List itT} (h : ansP g n x c) (h2 : ansP g n y d) : x = y ∧ (x = 0 → c = d) := by
  obtain ⟨r, h, e, f⟩ := h
  obtain ⟨q, h2, e2, f2⟩ := h2
  have eq := h.det h2
  subst eq
  refine ⟨e.trans e2.symm, fun h0 => ?_⟩
  rcases f with f | f
  · rw [if_pos f] at e; omega
  · rcases f2 with f2 | f2
    · rw [if_pos f2] at e; omega
    · exact f.2.symm.trans f2.2
