/-- the bytes that are written: the first n of a row -/
def lsi (f : Nat → Int32) : Nat → List Int32
  | 0 => []
  | n + 1 => lsi f n ++ [f n]
theorem lsi_congr {f f' : Nat → Int32} : ∀ n, (∀ j, j < n → f' j = f j) → lsi f' n = lsi f n
  | 0, _ => rfl
  | n + 1, h => by
    show lsi f' n ++ [f' n] = lsi f n ++ [f n]
    rw [lsi_congr n (fun j hj => h j (by omega)), h n (Nat.lt_succ_self n)]
theorem lsi_upd {f : Nat → Int32} {n : Nat} {x : Int32} : lsi (upd f n x) (n + 1) = lsi f n ++ [x] := by
  show lsi (upd f n x) n ++ [upd f n x n] = _
  rw [upd_eq, lsi_congr n (fun j hj => upd_ne (by omega))]
theorem lsi_len {f : Nat → Int32} : ∀ n, (lsi f n).length = n
  | 0 => rfl
  | n + 1 => by
    show (lsi f n ++ [f n]).length = n + 1
    rw [List.length_append, lsi_len n]; rfl
theorem lsi_same {f g : Nat → Int32} : ∀ n, lsi f n = lsi g n → ∀ j, j < n → f j = g j
  | 0, _, j, hj => absurd hj (Nat.not_lt_zero _)
  | n + 1, h, j, hj => by
    obtain ⟨a, b⟩ := List.append_inj (show lsi f n ++ [f n] = lsi g n ++ [g n] from h) (by rw [lsi_len, lsi_len])
    by_cases e : j = n
    · subst e
      exact (List.cons.inj b).1
    · exact lsi_same n a j (by omega)
theorem lsi_inj {f g : Nat → Int32} {n m : Nat} (h : lsi f n = lsi g m) : n = m ∧ ∀ j, j < n → f j = g j := by
  have e : n = m := by
    have := congrArg List.length h
    rw [lsi_len, lsi_len] at this
    exact this
  subst e
  exact ⟨rfl, lsi_same n h⟩
/-- a number's d last digits -/
def dgs (v : Nat) : Nat → List Int32
  | 0 => []
  | d + 1 => nI (48 + v / 10 ^ d % 10) :: dgs v d
def ndg (v : Nat) : Nat := if v < 10 then 1 else if v < 100 then 2 else if v < 1000 then 3 else if v < 10000 then 4 else if v < 100000 then 5 else if v < 1000000 then 6 else 7
theorem ndg_of {v d : Nat} (h : v < 10000000) (h1 : 1 ≤ d) (hd : d = 1 ∨ pwo d ≤ v) (hu : v < 10 * pwo d) : ndg v = d := by
  obtain ⟨k, rfl⟩ : ∃ k, d = k + 1 := ⟨d - 1, by omega⟩
  have e : pwo (k + 1) = 10 ^ k := rfl
  rw [e] at hd hu
  have h6 : k ≤ 6 := by
    rcases Nat.lt_or_ge 6 k with q | q
    · have h7 := Nat.pow_le_pow_right (n := 10) (by decide) (show 7 ≤ k from q)
      rw [show (10 : Nat) ^ 7 = 10000000 from rfl] at h7
      omega
    · exact q
  have hk : k = 0 ∨ k = 1 ∨ k = 2 ∨ k = 3 ∨ k = 4 ∨ k = 5 ∨ k = 6 := by omega
  unfold ndg
  rcases hk with rfl | rfl | rfl | rfl | rfl | rfl | rfl
  · rw [show (10 : Nat) ^ 0 = 1 from rfl] at hd hu
    rw [if_pos (by omega)]
  · rw [show (10 : Nat) ^ 1 = 10 from rfl] at hd hu
    rw [if_neg (by omega), if_pos (by omega)]
  · rw [show (10 : Nat) ^ 2 = 100 from rfl] at hd hu
    rw [if_neg (by omega), if_neg (by omega), if_pos (by omega)]
  · rw [show (10 : Nat) ^ 3 = 1000 from rfl] at hd hu
    rw [if_neg (by omega), if_neg (by omega), if_neg (by omega), if_pos (by omega)]
  · rw [show (10 : Nat) ^ 4 = 10000 from rfl] at hd hu
    rw [if_neg (by omega), if_neg (by omega), if_neg (by omega), if_neg (by omega), if_pos (by omega)]
  · rw [show (10 : Nat) ^ 5 = 100000 from rfl] at hd hu
    rw [if_neg (by omega), if_neg (by omega), if_neg (by omega), if_neg (by omega), if_neg (by omega), if_pos (by omega)]
  · rw [show (10 : Nat) ^ 6 = 1000000 from rfl] at hd hu
    rw [if_neg (by omega), if_neg (by omega), if_neg (by omega), if_neg (by omega), if_neg (by omega), if_neg (by omega)]
/-- a number: whether a sign is put ahead, its digits -/
def abI (x : Int32) : Nat := x.toInt.natAbs
def nuT (x : Int32) : List Int32 := dgs (abI x) (ndg (abI x))
def sgT9 (x : Int32) : List Int32 := if x < 0 then [45] else []
/-- a term, as it is written -/
def trT (t : Nat × Int32) : List Int32 := if t.1 = 10 then sgT9 t.2 ++ nuT t.2 else [nI (if t.1 < 6 then 97 + t.1 else 113 + t.1)] ++ (if t.2 = 0 then [] else (if 0 < t.2 then [43] else []) ++ (sgT9 t.2 ++ nuT t.2))
def cmT (c : Nat) : List Int32 := if c = 0 then [60] else if c = 1 then [62, 61] else if c = 2 then [60, 61] else if c = 3 then [62] else if c = 4 then [61] else [35]
def atT (s : sgT) : List Int32 := trT s.2.1 ++ cmT s.1 ++ trT s.2.2
/-- the formula that ends at k, as it is written -/
def ftF (l : List sgT) : Nat → Nat → List Int32
  | 0, _ => []
  | f + 1, k => if (ath l k).1 < 6 ∨ k = 0 then atT (ath l k) else if (ath l k).1 = 6 then 33 :: ftF l f (k - 1) else 40 :: (ftF l f (k - 1 - szl l (k - 1)) ++ ((if (ath l k).1 = 7 then 38 else 124) :: (ftF l f (k - 1) ++ [41])))
def ftx (l : List sgT) (k : Nat) : List Int32 := ftF l (k + 1) k
theorem ftF_eq {l : List sgT} : ∀ (f f' k : Nat), k < f → k < f' → ftF l f' k = ftF l f k
  | 0, _, _, h, _ => absurd h (Nat.not_lt_zero _)
  | _ + 1, 0, _, _, h => absurd h (Nat.not_lt_zero _)
  | f + 1, f' + 1, k, h1, h2 => by
    show (if (ath l k).1 < 6 ∨ k = 0 then atT (ath l k) else if (ath l k).1 = 6 then 33 :: ftF l f' (k - 1) else 40 :: (ftF l f' (k - 1 - szl l (k - 1)) ++ ((if (ath l k).1 = 7 then 38 else 124) :: (ftF l f' (k - 1) ++ [41])))) = (if (ath l k).1 < 6 ∨ k = 0 then atT (ath l k) else if (ath l k).1 = 6 then 33 :: ftF l f (k - 1) else 40 :: (ftF l f (k - 1 - szl l (k - 1)) ++ ((if (ath l k).1 = 7 then 38 else 124) :: (ftF l f (k - 1) ++ [41]))))
    by_cases e1 : (ath l k).1 < 6 ∨ k = 0
    · rw [if_pos e1, if_pos e1]
    · rw [if_neg e1, if_neg e1, ftF_eq f f' (k - 1) (by omega) (by omega), ftF_eq f f' (k - 1 - szl l (k - 1)) (by omega) (by omega)]
section FTX
variable {l : List sgT} {k : Nat}
theorem ftx_a (h : (ath l k).1 < 6) : ftx l k = atT (ath l k) := if_pos (Or.inl h)
theorem ftx_n (h : (ath l k).1 = 6) (hk : 1 ≤ k) : ftx l k = 33 :: ftx l (k - 1) := by
  have e : ftx l k = 33 :: ftF l k (k - 1) := (if_neg (by omega)).trans (if_pos h)
  rw [e, ftF_eq (k - 1 + 1) k (k - 1) (by omega) (by omega)]; rfl
theorem ftx_b (h : 7 ≤ (ath l k).1) (hk : 1 ≤ k) : ftx l k = 40 :: (ftx l (k - 1 - szl l (k - 1)) ++ ((if (ath l k).1 = 7 then 38 else 124) :: (ftx l (k - 1) ++ [41]))) := by
  have e : ftx l k = 40 :: (ftF l k (k - 1 - szl l (k - 1)) ++ ((if (ath l k).1 = 7 then 38 else 124) :: (ftF l k (k - 1) ++ [41]))) := (if_neg (by omega)).trans (if_neg (by omega))
  rw [e, ftF_eq (k - 1 + 1) k (k - 1) (by omega) (by omega), ftF_eq (k - 1 - szl l (k - 1) + 1) k (k - 1 - szl l (k - 1)) (by omega) (by omega)]; rfl
end FTX
/-- what still waits to be written: a byte (below 0) or a part, the last one first -/
def wtl (l : List sgT) (pz : Nat → Int32) : Nat → List Int32
  | 0 => []
  | n + 1 => (if pz n < 0 then [-pz n] else ftx l (pz n).toNatClampNeg) ++ wtl l pz n
section WTL
variable {l : List sgT} {pz pz' : Nat → Int32} {n v : Nat} {x y z w : Int32}
theorem wtl_congr : ∀ n, (∀ i, i < n → pz' i = pz i) → wtl l pz' n = wtl l pz n
  | 0, _ => rfl
  | n + 1, h => by
    show (if pz' n < 0 then [-pz' n] else ftx l (pz' n).toNatClampNeg) ++ wtl l pz' n = (if pz n < 0 then [-pz n] else ftx l (pz n).toNatClampNeg) ++ wtl l pz n
    rw [wtl_congr n (fun i hi => h i (by omega)), h n (by omega)]
theorem wtl_c (h : pz n < 0) : wtl l pz (n + 1) = -pz n :: wtl l pz n := by
  show (if pz n < 0 then [-pz n] else ftx l (pz n).toNatClampNeg) ++ wtl l pz n = _
  rw [if_pos h]; rfl
theorem wtl_n (h : pz n = nI v) (hv : v < 2 ^ 31) : wtl l pz (n + 1) = ftx l v ++ wtl l pz n := by
  show (if pz n < 0 then [-pz n] else ftx l (pz n).toNatClampNeg) ++ wtl l pz n = _
  rw [h, if_neg (nI_pos hv), nI_clamp hv]
theorem wtl_pn (hv : v < 2 ^ 31) : wtl l (upd pz n (nI v)) (n + 1) = ftx l v ++ wtl l pz n := by
  rw [wtl_n upd_eq hv, wtl_congr n (fun i hi => upd_ne (by omega))]
theorem wtl_pc (hx : x < 0) : wtl l (upd pz n x) (n + 1) = -x :: wtl l pz n := by
  rw [wtl_c (by rw [upd_eq]; exact hx), upd_eq, wtl_congr n (fun i hi => upd_ne (by omega))]
theorem wtl_p4 {v9 : Nat} (hx : x < 0) (hv : v < 2 ^ 31) (hy : y < 0) (hw : v9 < 2 ^ 31) : wtl l (upd (upd (upd (upd pz n x) (n + 1) (nI v)) (n + 2) y) (n + 3) (nI v9)) (n + 4) = ftx l v9 ++ (-y :: (ftx l v ++ (-x :: wtl l pz n))) := by
  rw [wtl_pn hw, wtl_pc hy, wtl_pn hv, wtl_pc hx]
end WTL
section DGR
variable {x1 z z1 z2 z3 : Int32} {v d : Nat}
theorem dg_ge (e : z = x1 / nI (pwo d)) (h : ¬ z < 10) (ex : x1 = nI v) (hv : v < 10000000) (h1 : 1 ≤ d) (hp : pwo d ≤ 1000000000) : 10 * pwo d ≤ v := by
  have hq := pwo_pos h1
  rw [ex, pk_div (by omega) (by omega) (by omega)] at e
  have hb : v / pwo d ≤ v := Nat.div_le_self _ _
  have hh : 10 ≤ v / pwo d := by
    rcases Nat.lt_or_ge (v / pwo d) 10 with q | q
    · exfalso
      apply h
      rw [e, show (10 : Int32) = nI 10 from rfl, Int32.lt_iff_toInt_lt, nI_toInt (by omega), nI_toInt (by omega)]
      omega
    · exact q
  exact (Nat.le_div_iff_mul_le hq).mp hh
theorem dg_lt (e : z = x1 / nI (pwo d)) (h : z < 10) (ex : x1 = nI v) (hv : v < 10000000) (h1 : 1 ≤ d) (hp : pwo d ≤ 1000000000) : v < 10 * pwo d := by
  have hq := pwo_pos h1
  rw [ex, pk_div (by omega) (by omega) (by omega)] at e
  have hb : v / pwo d ≤ v := Nat.div_le_self _ _
  rw [e, show (10 : Int32) = nI 10 from rfl, Int32.lt_iff_toInt_lt, nI_toInt (by omega), nI_toInt (by omega)] at h
  exact (Nat.div_lt_iff_lt_mul hq).mp (by omega)
theorem dg_by (e1 : z1 = x1 / nI (pwo (d + 1))) (e2 : z2 = z1 - z1 / 10 * 10) (e3 : z3 = 48 + z2) (ex : x1 = nI v) (hv : v < 10000000) (hp : pwo (d + 1) ≤ 1000000000) : z3 = nI (48 + v / 10 ^ d % 10) := by
  have hq := pwo_pos (k := d + 1) (by omega)
  rw [ex, pk_div (by omega) (by omega) (by omega)] at e1
  have hb : v / pwo (d + 1) ≤ v := Nat.div_le_self _ _
  rw [e1, show (10 : Int32) = nI 10 from rfl, pk_rem (by omega) (by omega) (by omega)] at e2
  rw [e3, e2, show (48 : Int32) = nI 48 from rfl, nI_add]; rfl
end DGR
theorem pwo_z {d : Nat} (h : pwo d = 0) : d = 0 := by
  rcases Nat.eq_zero_or_pos d with q | q
  · exact q
  · have := pwo_pos q
    omega
/-- a number that is put: what stands there then -/
def pnQ (x1 : Int32) (ot : Nat → Int32) (os : Nat) (ot1 : Nat → Int32) (os1 : Nat) : Prop := ∀ v, v < 10000000 → x1 = nI v → lsi ot1 os1 = lsi ot os ++ dgs v (ndg v)
def pnI (x1 : Int32) (d : Nat) : Prop := ∀ v, v < 10000000 → x1 = nI v → d = 1 ∨ pwo d ≤ v
def pnJ (x1 : Int32) (ot : Nat → Int32) (os : Nat) (ot1 : Nat → Int32) (os1 d : Nat) : Prop := ∀ v, v < 10000000 → x1 = nI v → lsi ot1 os1 ++ dgs v d = lsi ot os ++ dgs v (ndg v)
section PNQ
variable {x1 z z1 z2 z3 : Int32} {d os os1 : Nat} {ot ot1 : Nat → Int32}
theorem pnI_0 : pnI x1 1 := fun _ _ _ => Or.inl rfl
theorem pnI_s (e : z = x1 / nI (pwo d)) (h : ¬ z < 10) (h1 : 1 ≤ d) (hp : pwo d ≤ 1000000000) : pnI x1 (d + 1) := fun v hv ex => Or.inr (by
  have := dg_ge e h ex hv h1 hp
  rw [← pwo_mul h1]; exact this)
theorem pnJ_0 (hi : pnI x1 d) (e : z = x1 / nI (pwo d)) (h : z < 10) (h1 : 1 ≤ d) (hp : pwo d ≤ 1000000000) : pnJ x1 ot os ot os d := fun v hv ex => by
  rw [ndg_of hv h1 (hi v hv ex) (dg_lt e h ex hv h1 hp)]
theorem pnJ_s (hj : pnJ x1 ot os ot1 os1 (d + 1)) (e1 : z1 = x1 / nI (pwo (d + 1))) (e2 : z2 = z1 - z1 / 10 * 10) (e3 : z3 = 48 + z2) (hp : pwo (d + 1) ≤ 1000000000) : pnJ x1 ot os (upd ot1 os1 z3) (os1 + 1) d := fun v hv ex => by
  rw [← hj v hv ex, lsi_upd, List.append_assoc, dg_by e1 e2 e3 ex hv hp]; rfl
theorem pnJ_e (hj : pnJ x1 ot os ot1 os1 d) (hd : d = 0) : pnQ x1 ot os ot1 os1 := fun v hv ex => by
  rw [← hj v hv ex, hd]
  exact (List.append_nil _).symm
end PNQ
theorem le_no {x y : Int32} (h : x ≤ y) (q : y < x) : False := by
  rw [Int32.le_iff_toInt_le] at h
  rw [Int32.lt_iff_toInt_lt] at q
  omega
theorem sgT9_y {x : Int32} (h : x < 0) : sgT9 x = [45] := if_pos h
theorem sgT9_n {x : Int32} (h : 0 ≤ x) : sgT9 x = [] := if_neg (fun q => le_no h q)
theorem abI_n {x : Int32} (h : 0 ≤ x) : x = nI (abI x) := by
  rw [Int32.le_iff_toInt_le, show (0 : Int32).toInt = 0 by decide] at h
  have h1 := Int32.toInt_lt x
  apply Int32.toInt_inj.mp
  unfold abI
  rw [nI_toInt (by omega)]
  omega
theorem abI_m {x : Int32} (h : x < 0) (hb : abI x < 10000000) : -x = nI (abI x) := by
  rw [Int32.lt_iff_toInt_lt, show (0 : Int32).toInt = 0 by decide] at h
  unfold abI at hb
  apply Int32.toInt_inj.mp
  unfold abI
  rw [Int32.toInt_neg, nI_toInt (by omega), Int.bmod_eq_of_le (by omega) (by omega)]
  omega
/-- a term that is put -/
def ptQ (t : Nat × Int32) (ot : Nat → Int32) (os : Nat) (ot1 : Nat → Int32) (os1 : Nat) : Prop := abI t.2 < 10000000 → lsi ot1 os1 = lsi ot os ++ trT t
/-- the number that is put for x2 -/
def nbq (x2 x : Int32) : Prop := (x = x2 ∧ 0 ≤ x2) ∨ (x = -x2 ∧ x2 < 0)
def nmT (y : Nat) : List Int32 := [nI (if y < 6 then 97 + y else 113 + y)]
def plT (x : Int32) : List Int32 := if 0 < x then [43] else []
section PTQ
variable {x x2 : Int32} {y os os1 os2 os3 os4 : Nat} {ot ot1 ot2 ot3 ot4 : Nat → Int32}
theorem nbq.v (h : nbq x2 x) (hb : abI x2 < 10000000) : x = nI (abI x2) := by
  rcases h with ⟨e, h⟩ | ⟨e, h⟩
  · rw [e]; exact abI_n h
  · rw [e]; exact abI_m h hb
theorem nmT_l (h : y < 6) : nmT y = [nI (97 + y)] := by
  unfold nmT
  rw [if_pos h]
theorem nmT_g (h : 6 ≤ y) : nmT y = [nI (119 + y - 6)] := by
  unfold nmT
  rw [if_neg (by omega), show 113 + y = 119 + y - 6 by omega]
theorem plT_y (h : 0 < x2) : plT x2 = [43] := if_pos h
theorem plT_n (h : x2 ≤ 0) : plT x2 = [] := if_neg (fun q => le_no h q)
theorem pt_m (h3 : lsi ot3 os3 = lsi ot os ++ sgT9 x2) (hN : pnQ x ot3 os3 ot4 os4) (hx : nbq x2 x) : ptQ (nmI (-1), x2) ot os ot4 os4 := by
  intro hb
  have hb' : abI x2 < 10000000 := hb
  have et : trT (10, x2) = sgT9 x2 ++ nuT x2 := if_pos rfl
  rw [hN _ hb' (hx.v hb'), h3, nmI_m, et, List.append_assoc]; rfl
theorem pt_n (hy : y < 10) (h3 : lsi ot3 os3 = lsi ot os ++ nmT y ++ plT x2 ++ sgT9 x2) (hN : pnQ x ot3 os3 ot4 os4) (hx : nbq x2 x) (h0 : ¬ x2 = 0) : ptQ (nmI (nI y), x2) ot os ot4 os4 := by
  intro hb
  have hb' : abI x2 < 10000000 := hb
  have et : trT (y, x2) = nmT y ++ (plT x2 ++ (sgT9 x2 ++ nuT x2)) := (if_neg (show ¬ y = 10 by omega)).trans (congrArg (fun q => nmT y ++ q) (if_neg h0))
  rw [hN _ hb' (hx.v hb'), h3, nmI_n hy, et]
  simp only [List.append_assoc]; rfl
theorem pt_z (hy : y < 10) (h3 : lsi ot3 os3 = lsi ot os ++ nmT y ++ plT x2 ++ sgT9 x2) (h0 : x2 = 0) : ptQ (nmI (nI y), x2) ot os ot3 os3 := by
  intro _
  subst h0
  have et : trT (y, 0) = nmT y ++ [] := (if_neg (show ¬ y = 10 by omega)).trans (congrArg (fun q => nmT y ++ q) (if_pos rfl))
  have e1 : plT 0 = [] := if_neg (by decide)
  have e2 : sgT9 0 = [] := if_neg (by decide)
  rw [h3, nmI_n hy, et, e1, e2, List.append_nil, List.append_nil, List.append_nil]
end PTQ
/-- a comparison, as it is put -/
def cm1 (w : Int32) : Int32 := if w = 0 ∨ w = 1 then 60 else if w = 2 then 61 else if w = 3 then 35 else 62
def cm2 (w : Int32) : List Int32 := if w = 1 ∨ w = 4 then [61] else []
section CMW
variable {w : Int32}
theorem cm1_a (h : w = 0) : cm1 w = 60 := if_pos (Or.inl h)
theorem cm1_b (h : w = 1) : cm1 w = 60 := if_pos (Or.inr h)
theorem cm1_c (h0 : ¬ w = 0) (h1 : ¬ w = 1) (h : w = 2) : cm1 w = 61 := (if_neg (fun q => q.elim h0 h1)).trans (if_pos h)
theorem cm1_d (h0 : ¬ w = 0) (h1 : ¬ w = 1) (h2 : ¬ w = 2) (h : w = 3) : cm1 w = 35 := (if_neg (fun q => q.elim h0 h1)).trans ((if_neg h2).trans (if_pos h))
theorem cm1_e (h0 : ¬ w = 0) (h1 : ¬ w = 1) (h2 : ¬ w = 2) (h3 : ¬ w = 3) : cm1 w = 62 := (if_neg (fun q => q.elim h0 h1)).trans ((if_neg h2).trans (if_neg h3))
theorem cm2_a (h : w = 1) : cm2 w = [61] := if_pos (Or.inl h)
theorem cm2_b (h : w = 4) : cm2 w = [61] := if_pos (Or.inr h)
theorem cm2_n (h1 : ¬ w = 1) (h : ¬ w = 4) : cm2 w = [] := if_neg (fun q => q.elim h1 h)
theorem cm_w : cmT (wcd w) = cm1 w :: cm2 w := by
  unfold wcd
  by_cases c0 : w = 0
  · subst c0; rfl
  · by_cases c1 : w = 1
    · subst c1; rfl
    · by_cases c2 : w = 2
      · subst c2; rfl
      · by_cases c3 : w = 3
        · subst c3; rfl
        · by_cases c4 : w = 4
          · subst c4; rfl
          · rw [if_neg c0, if_neg c1, if_neg c2, if_neg c3, if_neg c4, cm1_e c0 c1 c2 c3, cm2_n c1 c4]; rfl
end CMW
/-- the atom at p1 -/
def adc (kp : Nat → Int32) (p1 : Nat) : sgT := (wcd (kp (p1 + 3)), (nmI (kp (p1 + 1)), kp (p1 + 2)), (nmI (kp (p1 + 4)), kp (p1 + 5)))
theorem dec_adc {kp : Nat → Int32} {p1 : Nat} (h : kp p1 = 0) (hc : cok8 (kp (p1 + 3))) : dec kp p1 = adc kp p1 := (if_pos h).trans (by rw [tm48_y hc]; rfl)
theorem dec_cok {kp : Nat → Int32} {p1 N : Nat} (h : kp p1 = 0) (hb : tmb N (dec kp p1).2.2) (hN : N < 1000000000) : cok8 (kp (p1 + 3)) := Classical.byContradiction (fun hn => by
  have e : (dec kp p1).2.2 = (99, 0) := (congrArg (fun q : sgT => q.2.2) (if_pos h)).trans (tm48_n hn)
  rw [e] at hb
  have h9 : (99 : Nat) ≤ 10 := hb.1
  omega)
def paQ (s : sgT) (ot : Nat → Int32) (os : Nat) (ot1 : Nat → Int32) (os1 : Nat) : Prop := abI s.2.1.2 < 10000000 → abI s.2.2.2 < 10000000 → lsi ot1 os1 = lsi ot os ++ atT s
section PAQ
variable {w : Int32} {os os1 os2 os3 os4 : Nat} {ot ot1 ot2 ot3 ot4 : Nat → Int32} {a b : Nat × Int32}
theorem pa_e (h3 : lsi ot3 os3 = lsi ot os ++ trT a ++ [cm1 w] ++ cm2 w) (h4 : lsi ot4 os4 = lsi ot3 os3 ++ trT b) : lsi ot4 os4 = lsi ot os ++ atT (wcd w, a, b) := by
  have et : atT (wcd w, a, b) = trT a ++ (cm1 w :: cm2 w) ++ trT b := by
    show trT a ++ cmT (wcd w) ++ trT b = _
    rw [cm_w]
  rw [h4, h3, et]
  simp only [List.append_assoc]; rfl
end PAQ
