/-- nodes that are read, sign by sign -/
def nlq (fo fl fr : Nat → Int32) (z : Nat) (L : List sgT) : Prop := ndl fo fl fr L ∧ L.length = z ∧ wfl L ∧ nbl 1023 L
def prx (L L2 : List sgT) : Prop := ∃ N, L2 = L ++ N
theorem prx.rf {L : List sgT} : prx L L := ⟨[], (List.append_nil _).symm⟩
theorem prx.tr {L L2 L3 : List sgT} (h : prx L L2) (h2 : prx L2 L3) : prx L L3 := by
  obtain ⟨N, rfl⟩ := h
  obtain ⟨K, rfl⟩ := h2
  exact ⟨N ++ K, by rw [List.append_assoc]⟩
/-- statements a .. b with their items -/
def bk9 (a b : Nat) (kd ow sb f1 f2 te kp nm : Nat → Nat) (tm : Nat → Int32) (L : List sgT) (w ls : Nat) (pl pl2 : List itT) : Prop := ∃ (IT : Nat → itT) (X Y : Nat → List itT) (M : List itT), blk a b kd ow sb f1 f2 IT X Y w ls M ∧ pl2 = pl ++ M ∧ ∀ i, a ≤ i → i < b → itm L kd te kp nm tm i (IT i)
section BK9
variable {a b c s w ls ls1 ls2 : Nat} {kd ow sb f1 f2 te kp nm kd' ow' sb' f1' f2' te' kp' nm' : Nat → Nat} {tm tm' : Nat → Int32} {L L' : List sgT} {pl pl1 pl2 pl3 pl5 : List itT} {it : itT}
/-- rows that are alike from a to b -/
def smf (a b : Nat) (kd ow sb f1 f2 te kp nm kd' ow' sb' f1' f2' te' kp' nm' : Nat → Nat) (tm tm' : Nat → Int32) : Prop := ∀ i, a ≤ i → i < b → kd' i = kd i ∧ ow' i = ow i ∧ sb' i = sb i ∧ f1' i = f1 i ∧ f2' i = f2 i ∧ te' i = te i ∧ kp' i = kp i ∧ nm' i = nm i ∧ tm' i = tm i
theorem bk9.fr (h : bk9 a b kd ow sb f1 f2 te kp nm tm L w ls pl pl2) (e : smf a b kd ow sb f1 f2 te kp nm kd' ow' sb' f1' f2' te' kp' nm' tm tm') (hw : wfl L) (hL : prx L L') : bk9 a b kd' ow' sb' f1' f2' te' kp' nm' tm' L' w ls pl pl2 := by
  obtain ⟨N, rfl⟩ := hL
  obtain ⟨IT, X, Y, M, h1, h2, h3⟩ := h
  refine ⟨IT, X, Y, M, h1.fr (fun j p q => ?_), h2, fun i p q => ?_⟩
  · obtain ⟨x1, x2, x3, x4, x5, _⟩ := e j p q
    exact ⟨x1, x2, x3, x4, x5⟩
  · obtain ⟨x1, _, _, _, _, x6, x7, x8, x9⟩ := e i p q
    exact (h3 i p q).up hw x1 x6 x7 x8 x9
theorem bk9_one (hk : kd s = 2 ∨ kd s = 7 ∨ kd s = 17 ∨ kd s = 123) (hi : it.1 = knI (kd s)) (hs : sb s = 4294967295) (ho : ow s = w) (hm : itm L kd te kp nm tm s it) : bk9 s (s + 1) kd ow sb f1 f2 te kp nm tm L w s pl (pl ++ [it]) := ⟨_, _, _, _, blk_one hk hi hs ho, rfl, fun i p q => by rw [show i = s by omega]; exact hm⟩
theorem bk9.seq (h : bk9 a b kd ow sb f1 f2 te kp nm tm L w ls pl pl1) (h2 : bk9 b c kd' ow' sb' f1' f2' te' kp' nm' tm' L' w b pl1 pl2) (e : smf a b kd ow sb f1 f2 te kp nm kd' ow' sb' f1' f2' te' kp' nm' tm tm') (hw : wfl L) (hL : prx L L') (h4 : b < 4294967295) : bk9 a c kd' ow' (sup sb' ls b) f1' f2' te' kp' nm' tm' L' w b pl pl2 := by
  obtain ⟨N, rfl⟩ := hL
  obtain ⟨IT1, X1, Y1, M1, p1, p2, p3⟩ := h
  obtain ⟨IT2, X2, Y2, M2, q1, q2, q3⟩ := h2
  refine ⟨_, _, _, _, p1.seq q1 (fun j p q => ?_) h4, by rw [q2, p2, List.append_assoc], fun i p q => ?_⟩
  · obtain ⟨x1, x2, x3, x4, x5, _⟩ := e j p q
    exact ⟨x1, x2, x3, x4, x5⟩
  · show itm (L ++ N) kd' te' kp' nm' tm' i (if i < b then IT1 i else IT2 i)
    by_cases hb : i < b
    · obtain ⟨x1, _, _, _, _, x6, x7, x8, x9⟩ := e i p hb
      rw [if_pos hb]
      exact (p3 i p hb).up hw x1 x6 x7 x8 x9
    · rw [if_neg hb]
      exact q3 i (by omega) q
theorem bk9_br (h1 : bk9 (s + 1) b kd ow sb f1 f2 te kp nm tm L s ls1 (pl ++ [it]) pl3) (h2 : bk9 b c kd ow sb f1 f2 te kp nm tm L s ls2 (pl3 ++ [it3]) pl5) (hk : kd s = 8) (hf1 : f1 s = s + 1) (hf2 : f2 s = b) (hs : sb s = 4294967295) (ho : ow s = w) (hi : it.1 = 2) (hm : itm L kd te kp nm tm s it) : bk9 s c kd ow sb f1 f2 te kp nm tm L w s pl (pl5 ++ [it4]) := by
  obtain ⟨IT1, X1, Y1, M1, p1, p2, p3⟩ := h1
  obtain ⟨IT2, X2, Y2, M2, q1, q2, q3⟩ := h2
  refine ⟨_, _, _, _, blk_br p1 q1 hk hf1 hf2 hs ho hi, ?_, fun i p q => ?_⟩
  · rw [q2, p2]
    simp only [List.append_assoc, List.cons_append, List.nil_append]
  · show itm L kd te kp nm tm i (if i = s then it else if i < b then IT1 i else IT2 i)
    by_cases e : i = s
    · rw [if_pos e, e]; exact hm
    · rw [if_neg e]
      by_cases hb : i < b
      · rw [if_pos hb]; exact p3 i (by omega) hb
      · rw [if_neg hb]; exact q3 i (by omega) q
theorem bk9_lp (h1 : bk9 (s + 1) b kd ow sb f1 f2 te kp nm tm L s ls1 (pl ++ [it]) pl3) (hk : kd s = 12) (hf1 : f1 s = s + 1) (hs : sb s = 4294967295) (ho : ow s = w) (hi : it.1 = 5) (hm : itm L kd te kp nm tm s it) : bk9 s b kd ow sb f1 f2 te kp nm tm L w s pl (pl3 ++ [odI it]) := by
  obtain ⟨IT1, X1, Y1, M1, p1, p2, p3⟩ := h1
  refine ⟨_, _, _, _, blk_lp p1 hk hf1 hs ho hi, ?_, fun i p q => ?_⟩
  · rw [p2]
    simp only [List.append_assoc, List.cons_append, List.nil_append]
  · show itm L kd te kp nm tm i (if i = s then it else IT1 i)
    by_cases e : i = s
    · rw [if_pos e, e]; exact hm
    · rw [if_neg e]; exact p3 i (by omega) q
/-- how many whiles have a variant -/
theorem vct_x {x : itT} (h : ¬ (x.1 = 5 ∧ 6 ≤ x.2.2.1)) : vct [x] = 0 := by
  show vct [] + _ = 0
  rw [if_neg h]; rfl
theorem vct_y {x : itT} (h : x.1 = 5 ∧ 6 ≤ x.2.2.1) : vct [x] = 1 := by
  show vct [] + _ = 1
  rw [if_pos h]; rfl
end BK9
/-- a condition that was read onto L -/
theorem cnd_itm {L m : List sgT} {z : Nat} (hL : L.length = z) (hm : cmpl 18 m) : z + m.length - 1 < (L ++ m).length ∧ sub9 (L ++ m) (z + m.length - 1) = m := by
  have h1 := hm.1
  have e := sub9_m (x := L) (y := []) hm
  rw [List.append_nil, hL] at e
  exact ⟨by rw [List.length_append, hL]; omega, e⟩
theorem nlq.app {fo fl fr : Nat → Int32} {z : Nat} {L m : List sgT} (h : nlq fo fl fr z L) {fo' fl' fr' : Nat → Int32} (h2 : ndl fo' fl' fr' (L ++ m)) (hm : cmpl 18 m) (hn : nbl 1023 m) : nlq fo' fl' fr' (z + m.length) (L ++ m) := ⟨h2, by rw [List.length_append, h.2.1], h.2.2.1.app hm, h.2.2.2.app hn⟩
theorem smf_of {a b n : Nat} {kd ow sb f1 f2 ts kp nm en kc kd' ow' sb' f1' f2' ts' kp' nm' en' kc' : Nat → Nat} {tm tm' : Nat → Int32} (h : sam n kd ow sb f1 f2 ts kp nm en kc kd' ow' sb' f1' f2' ts' kp' nm' en' kc' tm tm') (hb : b ≤ n) : smf a b kd ow sb f1 f2 ts kp nm kd' ow' sb' f1' f2' ts' kp' nm' tm tm' := fun i _ hi => by
  obtain ⟨x1, x2, x3, x4, x5, x6, x7, x8, _, _, x11⟩ := h i (by omega)
  exact ⟨x1, x2, x3, x4, x5, x6, x7, x8, x11⟩
/-- an assignment's term -/
def asV (tk : Nat → Nat) (tf ta tf2 : Nat) (x : Int32) : Prop := tf = 4294967295 → tf2 = 4294967295 → ck tk ta = 6 ∧ (trmG (ck tk) nxs 0 (ta + 1)).1 ≠ 1 ∧ x = tmI (trmV (ck tk) nxs (cv tk) 0 (ta + 1)) ∧ tmb 1023 (trmV (ck tk) nxs (cv tk) 0 (ta + 1))
section ITX
variable {tk : Nat → Nat} {tf ta cn n1 m1 t2 a2 t3 a3 x s z9 : Nat} {kd te kp nm : Nat → Nat} {tm : Nat → Int32} {L0 L m m9 : List sgT} {t9 : Nat × Int32}
theorem as_v (hkz : tkz tk cn) (hr : rst tk tf n1 m1 ta cn) (h : ndS tf ta n1 6 t2 a2) (h3 : ctS tk 0 t2 a2 t3 a3) (hv : ctV tk 0 t2 a2 t3 x) (ha : a2 ≤ cn) : asV tk tf ta t3 (nI x) := by
  intro hok h9
  have c2 : t2 = 4294967295 := by
    by_cases q : t2 = 4294967295
    · exact q
    · exact absurd ((h3.1 q).1.symm.trans h9) q
  have k6 : n1 = 6 := by
    by_cases q : n1 = 6
    · exact q
    · exact absurd c2 (ftf_1 ((h.2 hok).2 q).1)
  have e2 := ((h.2 hok).1 k6).2
  have g := h3.2 c2
  have v := hv c2 h9
  rw [e2] at g v
  rw [e2] at ha
  exact ⟨(hr.ck hok).trans k6, by rw [g, h9]; exact (show ¬ ftf 4294967295 = 1 by decide), v, trb hkz ha⟩
theorem sub9_prx {k : Nat} (hw : wfl L0) (hp : prx L0 L) (hk : k < L0.length) : k < L.length ∧ sub9 L k = sub9 L0 k := by
  obtain ⟨N, rfl⟩ := hp
  exact ⟨by rw [List.length_append]; omega, sub9_app hw hk⟩
/-- where a condition that was read ends -/
theorem cnd_at (hL : L0.length = z9) (hm : cmpl 18 m) (hw : wfl (L0 ++ m)) (hp : prx (L0 ++ m) L) {k : Nat} (hk : k + 1 = z9 + m.length) : k < L.length ∧ sub9 L k = m := by
  obtain ⟨a1, a2⟩ := cnd_itm hL hm
  rw [show z9 + m.length - 1 = k by omega] at a1 a2
  obtain ⟨b1, b2⟩ := sub9_prx hw hp a1
  exact ⟨b1, b2.trans a2⟩
theorem itm_if (hm : cmpl 18 m) (hn : nbl 1023 m) (ht : te s < L.length ∧ sub9 L (te s) = m) (hk : kd s = 8) : itm L kd te kp nm tm s (2, s + 1, 0, (0, 0), m, []) := ⟨rfl, fun q => by omega, fun _ => ⟨ht.1, ht.2, hm, hn⟩, fun q => by omega⟩
theorem itm_tc {o : Nat} (hm : cmpl 18 m) (hn : nbl 1023 m) (ht : te s < L.length ∧ sub9 L (te s) = m) (hk : kd s = 17 ∨ kd s = 123) : itm L kd te kp nm tm s (o, s + 1, 0, (0, 0), m, []) := ⟨rfl, fun q => by omega, fun _ => ⟨ht.1, ht.2, hm, hn⟩, fun q => by omega⟩
theorem itm_sk (hk : kd s = 7) : itm L kd te kp nm tm s (1, s + 1, 0, (0, 0), [], []) := ⟨rfl, fun q => by omega, fun q => by omega, fun q => by omega⟩
theorem itm_as {v : Nat} (hk : kd s = 2) (hn : nm s = v) (ht : tm s = tmI t9) (hb : tmb 1023 t9) : itm L kd te kp nm tm s (0, s + 1, v, t9, [], []) := ⟨rfl, fun _ => ⟨hn, ht, hb⟩, fun q => by omega, fun q => by omega⟩
theorem itm_wh {g : Nat} (hm : cmpl 18 m) (hn : nbl 1023 m) (ht : te s < L.length ∧ sub9 L (te s) = m) (hm9 : cmpl 18 m9) (hn9 : nbl 1023 m9) (ht9 : kp s < L.length ∧ sub9 L (kp s) = m9) (hk : kd s = 12) (hv : (nm s = 4294967295 ∧ g = 0) ∨ (6 ≤ nm s ∧ nm s < 10 ∧ g = nm s ∧ tm s = tmI t9 ∧ tmb 1023 t9)) : itm L kd te kp nm tm s (5, s + 1, g, t9, m, m9) := ⟨rfl, fun q => by omega, fun _ => ⟨ht.1, ht.2, hm, hn⟩, fun _ => ⟨ht9.1, ht9.2, hm9, hn9, hv⟩⟩
end ITX
theorem vct_n {x : itT} (h : ¬ x.1 = 5) : vct [x] = 0 := vct_x (fun q => h q.1)
theorem wgh_6 {pl : List itT} : 6 ≤ wgh 2 pl := by
  have e : wgh 2 pl = 6 + vct pl := if_pos rfl
  omega
theorem wgh_0 {pl : List itT} : wgh 0 pl = 0 := if_neg (by decide)
theorem wgh_v {pl : List itT} {va : Nat} (h : va = vct pl) : wgh 2 pl = 6 + va := by
  rw [h]
  exact if_pos rfl
theorem gI_n {sn : Nat} {pl : List itT} {x : itT} (h : ¬ x.1 = 5) : gI sn pl x = (x.1, sn + 1, x.2.2.1, x.2.2.2) := by
  unfold gI
  rw [if_neg (fun q => h q.1)]
section ICX
variable {tk : Nat → Nat} {ta am t1 a1 t2 a2 : Nat} {x : Int32} {m : List sgT}
theorem ia_set (hk : ck tk ta = 2) (hv : cv tk ta = am) (ep : a1 = ta + 1) (h : asV tk t1 a1 t2 x) (q1 : t1 = 4294967295) (q : t2 = 4294967295) : itc (ck tk) nxs (cv tk) ta (0, 0, am, trmV (ck tk) nxs (cv tk) 0 (a1 + 1), [], []) := by
  obtain ⟨b1, b2, b3, _⟩ := h q1 q
  subst ep
  exact Or.inl ⟨hk, b1, b2, by rw [← hv]; rfl⟩
theorem ia_skp (hk : ck tk ta = 7) : itc (ck tk) nxs (cv tk) ta (1, 0, 0, (0, 0), [], []) := Or.inr (Or.inl ⟨hk, rfl⟩)
theorem ia_cd {gh : Nat} (ep : a1 = ta + 1) (h : cng tk gh t1 a1 m t2 a2) (q1 : t1 = 4294967295) (q : t2 = 4294967295) : cdI (ck tk) nxs (cv tk) gh (nxs ta) a2 m := by
  have h1 := (h.2 q1).1
  rw [if_pos q, q, ep] at h1
  exact h1
theorem ia_asr (hk : ck tk ta = 17) (ep : a1 = ta + 1) (h : cng tk 0 t1 a1 m t2 a2) (q1 : t1 = 4294967295) (q : t2 = 4294967295) : itc (ck tk) nxs (cv tk) ta (7, 0, 0, (0, 0), m, []) := Or.inr (Or.inr (Or.inr (Or.inr (Or.inl ⟨hk, _, _, ia_cd ep h q1 q, rfl⟩))))
theorem ia_cut (hk : ck tk ta = 123) (ep : a1 = ta + 1) (h : cng tk 1 t1 a1 m t2 a2) (q1 : t1 = 4294967295) (q : t2 = 4294967295) : itc (ck tk) nxs (cv tk) ta (8, 0, 0, (0, 0), m, []) := Or.inr (Or.inr (Or.inr (Or.inr (Or.inr ⟨hk, _, _, ia_cd ep h q1 q, rfl⟩))))
end ICX
/-- short names (the rows of claims are called ck, co there) -/
abbrev cku (tk : Nat → Nat) (i : Nat) : Nat := ck tk i
abbrev tmu (tk : Nat → Nat) (i : Nat) : Nat × Int32 := trmV (ck tk) nxs (cv tk) 0 i
abbrev icu (tk : Nat → Nat) (i : Nat) (it : itT) : Prop := itc (ck tk) nxs (cv tk) i it
/-- the claims: their kinds, their statements' numbers -/
def cll (k o : Nat → Nat) : Nat → List (Nat × Nat)
  | 0 => []
  | c + 1 => cll k o c ++ [(k c, (o c + 1) % 4294967296)]
def clx (x : itT) : List (Nat × Nat) := if x.1 = 8 then [(4, x.2.1)] else if x.1 = 5 then [(1, x.2.1), (2, x.2.1)] ++ (if x.2.2.1 < 6 then [] else [(3, x.2.1)]) else []
def cln : List itT → List (Nat × Nat)
  | [] => []
  | x :: l => clx x ++ cln l
section CLL
variable {k o k' o' : Nat → Nat} {c u q s g : Nat} {l : List (Nat × Nat)} {pl : List itT} {po : List sgT} {x : itT} {t9 : Nat × Int32} {m m9 : List sgT}
theorem cll_congr : ∀ c, (∀ j, j < c → k' j = k j ∧ o' j = o j) → cll k' o' c = cll k o c
  | 0, _ => rfl
  | c + 1, h => by
    show cll k' o' c ++ [(k' c, (o' c + 1) % 4294967296)] = cll k o c ++ [(k c, (o c + 1) % 4294967296)]
    rw [cll_congr c (fun j hj => h j (by omega)), (h c (Nat.lt_succ_self c)).1, (h c (Nat.lt_succ_self c)).2]
theorem cll_add (h : cll k o c = l) (hx : (k' = k ∧ o' = o ∧ u = c ∧ 29 ≤ c) ∨ (k' = sup k c q ∧ o' = sup o c s ∧ u = c + 1 ∧ c < 29)) (hc : c < 29) (hs : s < 100) : cll k' o' u = l ++ [(q, s + 1)] := by
  rcases hx with ⟨_, _, _, e⟩ | ⟨e1, e2, e3, _⟩
  · omega
  · subst e1; subst e2; subst e3
    show cll (sup k c q) (sup o c s) c ++ [(sup k c q c, (sup o c s c + 1) % 4294967296)] = _
    rw [sup_eq, sup_eq, cll_congr (k := k) (o := o) c (fun j hj => ⟨sup_ne (by omega), sup_ne (by omega)⟩), h, show (s + 1) % 4294967296 = s + 1 by omega]
theorem cll_0 (h1 : k 0 = 0) (h2 : o 0 = 4294967295) : cll k o 1 = (0, 0) :: cln [] := by
  show [] ++ [(k 0, (o 0 + 1) % 4294967296)] = [(0, 0)]
  rw [h1, h2]; rfl
theorem cln_app : ∀ (l m : List itT), cln (l ++ m) = cln l ++ cln m
  | [], _ => rfl
  | x :: l, m => by
    show clx x ++ cln (l ++ m) = clx x ++ cln l ++ cln m
    rw [cln_app l m, List.append_assoc]
theorem cln_n (h : ¬ x.1 = 5) (h8 : ¬ x.1 = 8) : cln [x] = [] := by
  show clx x ++ [] = []
  unfold clx
  rw [if_neg h8, if_neg h]; rfl
theorem cq_n (h : l = (0, 0) :: cln pl) (h5 : ¬ x.1 = 5) (h8 : ¬ x.1 = 8) : l = (0, 0) :: cln (pl ++ [x]) := by
  rw [cln_app, cln_n h5 h8, List.append_nil]; exact h
theorem cq_8 (h : l = (0, 0) :: cln pl ++ [(4, s)]) : l = (0, 0) :: cln (pl ++ [(8, s, 0, (0, 0), m, [])]) := by
  rw [cln_app, h]; rfl
theorem cq_5 (h : l = (0, 0) :: cln pl ++ [(1, s)] ++ [(2, s)]) (hg : g < 6) : l = (0, 0) :: cln (pl ++ [(5, s, g, t9, m, m9)]) := by
  have e : cln [((5, s, g, t9, m, m9) : itT)] = [(1, s), (2, s)] := by
    show clx (5, s, g, t9, m, m9) ++ [] = _
    unfold clx
    rw [if_neg (show ¬ (5 : Nat) = 8 by decide), if_pos rfl, if_pos hg]; rfl
  rw [cln_app, h, e, List.append_assoc]; rfl
theorem cq_5v (h : l = (0, 0) :: cln pl ++ [(1, s)] ++ [(2, s)] ++ [(3, s)]) (hg : 6 ≤ g) : l = (0, 0) :: cln (pl ++ [(5, s, g, t9, m, m9)]) := by
  have e : cln [((5, s, g, t9, m, m9) : itT)] = [(1, s), (2, s), (3, s)] := by
    show clx (5, s, g, t9, m, m9) ++ [] = _
    unfold clx
    rw [if_neg (show ¬ (5 : Nat) = 8 by decide), if_pos rfl, if_neg (show ¬ g < 6 by omega)]; rfl
  rw [cln_app, h, e, List.append_assoc, List.append_assoc]; rfl
theorem wkC_cl {S : List (List sgT)} : (wkC x S).map (fun c => (c.1, c.2.1)) = clx x := by
  unfold wkC clx
  by_cases c8 : x.1 = 8
  · rw [if_pos c8, if_pos c8]; rfl
  · rw [if_neg c8, if_neg c8]
    by_cases c5 : x.1 = 5
    · rw [if_pos c5, if_pos c5]
      by_cases c6 : x.2.2.1 < 6
      · rw [if_pos c6, if_pos c6]; rfl
      · rw [if_neg c6, if_neg c6]; rfl
    · rw [if_neg c5, if_neg c5]; rfl
theorem gCd_cl : ∀ l : List itT, (gCd po l).map (fun c => (c.1, c.2.1)) = cln l
  | [] => rfl
  | x :: l => by
    show (wkC x (fSt po l) ++ gCd po l).map _ = clx x ++ cln l
    rw [List.map_append, wkC_cl, gCd_cl l]
end CLL
theorem nlq_0 {fo fl fr : Nat → Int32} : nlq fo fl fr 0 [] := ⟨ndl_0, rfl, wfl_0, nbl_0⟩
/-- a program that was read, with its items -/
def pgQ (fo fl fr : Nat → Int32) (z n cl : Nat) (kd ow sb f1 f2 te kp nm k o : Nat → Nat) (tm : Nat → Int32) (L : List sgT) (pl : List itT) : Prop := nlq fo fl fr z L ∧ (∃ ls, bk9 0 n kd ow sb f1 f2 te kp nm tm L 4294967295 ls [] pl) ∧ cll k o cl = (0, 0) :: cln pl
