/-- a packed term -/
def tmI (t : Nat × Int32) : Int32 := nI (16 * i2n t.2 + t.1)
theorem tmI_pack {x : Int32} {b : Nat} (hb : b < 16) : (x <<< (nI 4 &&& 31)) ||| nI b = tmI (b, x) := by
  unfold tmI
  rw [← nI_i2n x, nb_shl (by decide), nb_or3 (k := 4) (by omega) (by omega), nI_i2n]
  congr 1
  show i2n x * 2 ^ 4 + b = 16 * i2n x + b
  omega
theorem nI_congr {a b : Nat} (h : a % 4294967296 = b % 4294967296) : nI a = nI b := by
  apply Int32.toBitVec_inj.mp
  rw [nb_tb, nb_tb]
  apply BitVec.eq_of_toNat_eq
  rw [BitVec.toNat_ofNat, BitVec.toNat_ofNat]
  exact h
theorem i2n_tm {t : Nat × Int32} : i2n (tmI t) = (16 * i2n t.2 + t.1) % 4294967296 := by
  unfold tmI i2n
  rw [nb_tb, BitVec.toNat_ofNat]
theorem tmI_nm {t : Nat × Int32} (h : t.1 < 16) : tmI t &&& 15 = nI t.1 := by
  rw [and15, i2n_tm]
  congr 1
  omega
theorem i2n_m16 (x : Int32) : i2n (x &&& (-16)) = i2n x - i2n x % 16 := by
  have h1 := m16 x
  have h2 : i2n (x &&& (-16)) + i2n x % 16 = i2n x := by
    have e1 : i2n (x &&& (-16)) ||| i2n (x &&& 15) = i2n x := by
      rw [i2n_and, i2n_and, show i2n (-16) = 4294967280 by decide, show i2n (15 : Int32) = 15 by decide, ← Nat.and_or_distrib_left, show (4294967280 : Nat) ||| 15 = 2 ^ 32 - 1 by decide, Nat.and_two_pow_sub_one_eq_mod]
      exact Nat.mod_eq_of_lt (i2n_lt x)
    have e2 : i2n (x &&& 15) = i2n x % 16 := by
      rw [and15]
      unfold i2n
      rw [nb_tb, BitVec.toNat_ofNat]
      omega
    rw [e2] at e1
    obtain ⟨d, hd⟩ : ∃ d, i2n (x &&& (-16)) = 2 ^ 4 * d := ⟨i2n (x &&& (-16)) / 16, by omega⟩
    rw [hd] at e1 ⊢
    rw [← Nat.two_pow_add_eq_or_of_lt (show i2n x % 16 < 2 ^ 4 by omega)] at e1
    exact e1
  omega
/-- a term in the place of another's name -/
theorem tmI_put {s t : Nat × Int32} (h : t.1 < 16) : tmI s + (tmI t &&& (-16)) = tmI (s.1, s.2 + t.2) := by
  rw [← nI_i2n (tmI t &&& (-16)), i2n_m16, i2n_tm]
  show nI (16 * i2n s.2 + s.1) + nI _ = nI (16 * i2n (s.2 + t.2) + s.1)
  rw [nI_add, i2n_add]
  apply nI_congr
  have h1 := i2n_lt s.2
  have h2 := i2n_lt t.2
  omega
/-- node k of a row of nodes is sign s; its parts lie right ahead of it -/
def nde (x y z : Int32) (s : sgT) (k q : Nat) : Prop := x = nI s.1 ∧ (s.1 < 6 → y = tmI s.2.1 ∧ z = tmI s.2.2) ∧ (6 = s.1 → y = nI (k - 1)) ∧ (7 ≤ s.1 → y = nI (k - 1 - q) ∧ z = nI (k - 1))
def ndl (fo fl fr : Nat → Int32) (l : List sgT) : Prop := ∀ k, k < l.length → nde (fo k) (fl k) (fr k) (ath l k) k (szl l (k - 1))
section NDL
variable {fo fo' fl fl' fr fr' : Nat → Int32} {l m m1 m2 : List sgT} {x1 x2 x3 : Int32} {s : sgT} {n d d1 d2 a b : Nat}
theorem ndl_0 : ndl fo fl fr [] := fun k hk => absurd hk (Nat.not_lt_zero _)
theorem ndl.add (h : ndl fo fl fr l) (hn : l.length = n) (w : nad fo fo' fl fl' fr fr' n x1 x2 x3) (hs : nde (byv x1) x2 x3 s n (szl l (n - 1))) : ndl fo' fl' fr' (l ++ [s]) := by
  subst hn
  obtain ⟨w1, w2, w3, w4⟩ := w
  intro k hk
  rw [List.length_append] at hk
  have hk' : k < l.length + 1 := hk
  by_cases e : k = l.length
  · subst e
    rw [w2, w3, w4, ath_e]
    by_cases h0 : l.length = 0
    · rw [h0] at hs ⊢
      have hz : l = [] := List.eq_nil_of_length_eq_zero h0
      subst hz
      obtain ⟨a1, a2, a3, a4⟩ := hs
      refine ⟨a1, a2, a3, fun q => ?_⟩
      have := a4 q
      exact ⟨by rw [this.1]; congr 1; omega, this.2⟩
    · rw [szl_l (by omega)]; exact hs
  · obtain ⟨b1, b2, b3⟩ := w1 k (by omega)
    rw [b1, b2, b3, ath_l (by omega)]
    by_cases h0 : k = 0
    · subst h0
      obtain ⟨a1, a2, a3, a4⟩ := h 0 (by omega)
      refine ⟨a1, a2, a3, fun q => ?_⟩
      have := a4 q
      exact ⟨by rw [this.1]; congr 1; omega, this.2⟩
    · rw [szl_l (by omega)]; exact h k (by omega)
theorem ndl.same (h : ndl fo fl fr l) (hs : ∀ j, j < l.length → fo' j = fo j ∧ fl' j = fl j ∧ fr' j = fr j) : ndl fo' fl' fr' l := fun k hk => by
  obtain ⟨a1, a2, a3⟩ := hs k hk
  rw [a1, a2, a3]; exact h k hk
theorem ndl_at (h : ndl fo fl fr l) (hn : l.length = n) (w : nad fo fo' fl fl' fr fr' n (nI s.1) x2 x3) (h6 : s.1 < 6) (h2 : x2 = tmI s.2.1) (h3 : x3 = tmI s.2.2) : ndl fo' fl' fr' (l ++ [s]) := h.add hn w ⟨byv_nat (by omega), fun _ => ⟨h2, h3⟩, fun q => by omega, fun q => by omega⟩
theorem ndl_nt (h : ndl fo fl fr l) (hn : l.length = n) (ha : a + 1 = n) (w : nad fo fo' fl fl' fr fr' n 6 (nI a) x3) : ndl fo' fl' fr' (l ++ [opS 1]) := h.add hn w ⟨byv_nat (v := 6) (by omega), fun q => absurd q (by decide), fun _ => by rw [show a = n - 1 by omega], fun q => absurd q (by decide)⟩
theorem ndl_bi {o : Nat} (ho : o = 2 ∨ o = 3) (h : ndl fo fl fr (l ++ m1 ++ m2)) (h2 : cmpl d m2) (hn : (l ++ m1 ++ m2).length = n) (ha : a + 1 = l.length + m1.length) (hb : b + 1 = n) (w : nad fo fo' fl fl' fr fr' n (nI (o + 5)) (nI a) (nI b)) : ndl fo' fl' fr' (l ++ (m1 ++ m2 ++ [opS o])) := by
  have e : l ++ (m1 ++ m2 ++ [opS o]) = (l ++ m1 ++ m2) ++ [opS o] := by simp only [List.append_assoc]
  rw [e]
  have hl : (l ++ m1 ++ m2).length = l.length + m1.length + m2.length := by rw [List.length_append, List.length_append]
  have hm := h2.1
  have hz : szl (l ++ m1 ++ m2) (n - 1) = m2.length := by
    have := (h2.2 (l ++ m1)).2.1
    rw [List.length_append] at this
    rw [show n - 1 = l.length + m1.length + m2.length - 1 by omega]; exact this
  refine h.add hn w ⟨byv_nat (by omega), fun q => absurd (show o + 5 < 6 from q) (by omega), fun q => absurd (show 6 = o + 5 from q) (by omega), fun _ => ⟨?_, by rw [show b = n - 1 by omega]⟩⟩
  rw [hz, show a = n - 1 - m2.length by omega]
end NDL
/-- a condition's nodes -/
def ndw (fo fl fr : Nat → Int32) (n : Nat) (m : List sgT) : Prop := ndl fo fl fr m ∧ m.length = n ∧ cmpl 18 m ∧ nbl 1023 m
def cv (tk : Nat → Nat) : Nat → Nat := fun i => tk i / 128 % 1024
def sgi (mi a : Nat) : Int32 := if mi = 1 then -nI a else nI a
section CV
variable {tk : Nat → Nat} {gh tf ta nx am cn b1 tf1 ta1 n1 am1 tf2 ta2 n2 am2 tf3 ta3 n3 am3 tf4 ta4 mi x : Nat}
theorem rst.cv (h : rst tk tf nx am ta cn) (hf : tf = 4294967295) : cv tk ta = am := by
  rcases h with h | h
  · exact h.2.2.2.symm
  · exact absurd h.1 (by omega)
def nmq (tk : Nat → Nat) (gh ta : Nat) : Prop := ck tk ta = 2 ∨ (gh = 1 ∧ ck tk ta = 3)
/-- the term's name -/
def tAV (tk : Nat → Nat) (gh tf ta b1 : Nat) : Prop := tf = 4294967295 → (nmq tk gh ta → b1 = cv tk ta) ∧ (¬ nmq tk gh ta → b1 = 10)
def tCV (tk : Nat → Nat) (gh tf ta b1 mi ta2 : Nat) : Prop := tf = 4294967295 → ck tk ta2 = 4 → trmV (ck tk) nxs (cv tk) gh ta = (b1, sgi mi (cv tk ta2))
def tDV (tk : Nat → Nat) (gh tf ta b1 mi am3 n3 : Nat) : Prop := tf = 4294967295 → n3 = 4 → trmV (ck tk) nxs (cv tk) gh ta = (b1, sgi mi am3)
/-- a term's value -/
def ctV (tk : Nat → Nat) (gh tf ta tf2 x : Nat) : Prop := tf = 4294967295 → tf2 = 4294967295 → nI x = tmI (trmV (ck tk) nxs (cv tk) gh ta)
theorem tAV_0 (hr : rst tk tf nx am ta cn) (h : ¬ (nx = 2 ∨ (gh = 1 ∧ nx = 3))) : tAV tk gh tf ta 10 := fun q => ⟨fun c => absurd (show nx = 2 ∨ (gh = 1 ∧ nx = 3) by unfold nmq at c; rw [hr.ck q] at c; exact c) h, fun _ => rfl⟩
theorem tAV_1 (hr : rst tk tf nx am ta cn) (h : nx = 2 ∨ (gh = 1 ∧ nx = 3)) : tAV tk gh tf ta am := fun q => ⟨fun _ => (hr.cv q).symm, fun c => absurd (show nmq tk gh ta by unfold nmq; rw [hr.ck q]; exact h) c⟩
theorem tCV_p (hA : tA tk gh tf ta b1 tf1 ta1) (hV : tAV tk gh tf ta b1) (hr1 : rst tk tf1 n1 am1 ta1 cn) (hp : n1 = 45 ∨ (n1 = 43 ∧ b1 ≠ 10)) (h0 : mi = 0 ∨ n1 = 45) (h1 : mi = 1 ∨ ¬ n1 = 45) (e1 : okf tf1 (ta2 = ta1 + 1)) : tCV tk gh tf ta b1 mi ta2 := by
  intro hok h4
  have hok1 : tf1 = 4294967295 := (hr1.go (by omega) (by omega)).1
  have e3 := e1 hok1
  have k1 := hr1.ck hok1
  obtain ⟨v1, v2⟩ := hV hok
  rcases hA with ⟨a1, a2, a3, a4⟩ | ⟨a1, a2, a3, a4, a5, a6⟩
  · have hm : mi = 1 := by omega
    rw [a3] at k1 e3
    unfold trmV
    rw [if_neg (a4 hok), k1, if_pos (by omega), e3, a1, hm]; rfl
  · rw [a4] at k1 e3
    unfold trmV
    rw [if_pos a5, show nxs ta = ta + 1 from rfl, k1, ← v1 a5]
    by_cases c : n1 = 45
    · have hm : mi = 1 := by omega
      rw [if_neg (by omega), if_pos c, e3, hm]; rfl
    · have hm : mi = 0 := by omega
      rw [if_pos (by omega), e3, hm]; rfl
theorem tCV_n (hA : tA tk gh tf ta b1 tf1 ta1) (hV : tAV tk gh tf ta b1) (hr1 : rst tk tf1 n1 am1 ta1 cn) (hp : ¬ (n1 = 45 ∨ (n1 = 43 ∧ b1 ≠ 10))) (h0 : mi = 0 ∨ n1 = 45) : tCV tk gh tf ta b1 mi ta1 := by
  intro hok h4
  rcases hA with ⟨a1, a2, a3, a4⟩ | ⟨a1, a2, a3, a4, a5, a6⟩
  · have k1 := hr1.ck (a2.trans hok)
    have hm : mi = 0 := by omega
    rw [a3] at k1 h4 ⊢
    unfold trmV
    rw [if_neg (a4 hok), if_neg (by omega), a1, hm]; rfl
  · have k1 := hr1.ck a3
    rw [a4] at k1
    rw [k1] at a6
    exact absurd (show n1 = 45 ∨ (n1 = 43 ∧ b1 ≠ 10) by omega) hp
theorem tDV_y (hC : tCV tk gh tf ta b1 mi ta2) (hr : rst tk tf2 n2 am2 ta2 cn) : tDV tk gh tf ta b1 mi am2 n2 := by
  intro hok h4
  have h2 := (hr.go (by omega) (by omega)).1
  have := hC hok ((hr.ck h2).trans h4)
  rw [hr.cv h2] at this
  exact this
theorem tDV_n (h : n3 = 1) : tDV tk gh tf ta b1 mi am3 n3 := fun _ q => by omega
theorem ctV_f (hD : tD tk gh tf ta tf3 ta3 n3) (hV : tDV tk gh tf ta b1 mi am3 n3) (e2 : tf4 = tf3) (hx : nI x = tmI (b1, sgi mi am3)) : ctV tk gh tf ta tf4 x := by
  intro hok h4
  by_cases c : n3 = 4
  · rw [hV hok c]; exact hx
  · exact absurd (e2.symm.trans h4) (ftf_1 ((hD.2 hok).2 c).1)
theorem ctV_a (hok : tf = 4294967295) (hr : rst tk tf nx am ta cn) (hn : nx = 2 ∨ (gh = 1 ∧ nx = 3)) (hr1 : rst tk tf1 n1 am1 ta1 cn) (e1 : okf tf (ta1 = ta + 1)) (e2 : tf1 = tf) (hs : ¬ (n1 = 43 ∨ n1 = 45)) (hx : nI x = tmI (am, 0)) : ctV tk gh tf ta tf1 x := by
  intro _ _
  have e3 := e1 hok
  have h1 := hr1.ck (e2.trans hok)
  rw [e3] at h1
  unfold trmV
  rw [hr.ck hok, if_pos hn, show nxs ta = ta + 1 from rfl, h1, if_neg (by omega), if_neg (by omega), hr.cv hok]
  exact hx
theorem ca_nd {fo fo' fl fl' fr fr' : Nat → Int32} {l : List sgT} {n x1 x3 : Nat} (h1 : ctS tk gh tf ta tf1 ta1) (v1 : ctV tk gh tf ta tf1 x1) (hr1 : rst tk tf1 n1 am1 ta1 cn) (h2 : ndS tf1 ta1 n1 5 tf2 ta2) (h3 : ctS tk gh tf2 ta2 tf3 ta3) (v3 : ctV tk gh tf2 ta2 tf3 x3) (hq : tf3 = 4294967295) (hl : ndl fo fl fr l) (hn : l.length = n) (w : nad fo fo' fl fl' fr fr' n (nI am1) (nI x1) (nI x3)) (h6 : am1 < 6) : ndl fo' fl' fr' (l ++ [atmV (ck tk) nxs (cv tk) gh ta]) := by
  have c2 : tf2 = 4294967295 := by
    by_cases q : tf2 = 4294967295
    · exact q
    · exact absurd ((h3.1 q).1.symm.trans hq) q
  have c1 : tf1 = 4294967295 := by
    by_cases q : tf1 = 4294967295
    · exact q
    · exact absurd ((h2.1 q).1.symm.trans c2) q
  have c0 : tf = 4294967295 := by
    by_cases q : tf = 4294967295
    · exact q
    · exact absurd ((h1.1 q).1.symm.trans c1) q
  have k5 : n1 = 5 := by
    by_cases q : n1 = 5
    · exact q
    · exact absurd c2 (ftf_1 ((h2.2 c1).2 q).1)
  have e2 : ta2 = ta1 + 1 := ((h2.2 c1).1 k5).2
  have et : (trmG (ck tk) nxs gh ta).2 = ta1 := by rw [h1.2 c0]
  have ev := hr1.cv c1
  have e1 : (atmV (ck tk) nxs (cv tk) gh ta).1 = am1 := by
    show cv tk (trmG (ck tk) nxs gh ta).2 = am1
    rw [et, ev]
  refine ndl_at hl hn (by rw [e1]; exact w) (by rw [e1]; exact h6) (v1 c0 c1) ?_
  rw [v3 c2 hq, e2]
  show _ = tmI (trmV (ck tk) nxs (cv tk) gh (nxs (trmG (ck tk) nxs gh ta).2))
  rw [et]; rfl
/-- names and numbers of what is read -/
theorem trb {b : Nat} (hz : tkz tk cn) (hb : b ≤ cn) : tmb 1023 (trmV (ck tk) nxs (cv tk) gh b) := by
  have hc : ∀ i, cv tk i < 1024 := fun i => Nat.mod_lt _ (by decide)
  have e1 : ∀ i, (nI (cv tk i)).toInt = (cv tk i : Int) := fun i => nI_toInt (by have := hc i; omega)
  have e2 : ∀ i, (-nI (cv tk i)).toInt = -(cv tk i : Int) := fun i => by
    rw [Int32.toInt_neg, e1 i, Int.bmod_eq_of_le (by have := hc i; omega) (by have := hc i; omega)]
  have e0 : (0 : Int32).toInt = 0 := by decide
  have hp : ∀ i, (-(1023 : Nat) : Int) ≤ (nI (cv tk i)).toInt ∧ (nI (cv tk i)).toInt ≤ (1023 : Nat) := fun i => by rw [e1 i]; have := hc i; omega
  have hm : ∀ i, (-(1023 : Nat) : Int) ≤ (-nI (cv tk i)).toInt ∧ (-nI (cv tk i)).toInt ≤ (1023 : Nat) := fun i => by rw [e2 i]; have := hc i; omega
  unfold trmV
  by_cases c1 : ck tk b = 2 ∨ (gh = 1 ∧ ck tk b = 3)
  · have hv : cv tk b ≤ 10 := by
      obtain ⟨_, z2, z3, _⟩ := hz.2.2 b hb
      rcases c1 with c | c
      · have h9 : cv tk b < 6 := z2 c
        omega
      · have h9 : cv tk b < 10 := z3 c.2
        omega
    rw [if_pos c1]
    split
    · exact ⟨hv, hp _⟩
    · split
      · exact ⟨hv, hm _⟩
      · exact ⟨hv, by rw [e0]; omega, by rw [e0]; omega⟩
  · rw [if_neg c1]
    split
    · exact ⟨Nat.le_refl _, hm _⟩
    · exact ⟨Nat.le_refl _, hp _⟩
end CV
/-- a part, or parts with signs between: from here on as there, with m behind what was given out -/
def cpg (tk : Nat → Nat) (gh tf ta a : Nat) (sg : List Nat) (m : List sgT) (tf2 ta2 a2 : Nat) : Prop := (¬ tf = 4294967295 → tf2 = tf ∧ ta2 = ta) ∧ (tf = 4294967295 → (¬ tf2 = 4294967295 → ∀ ou, rgR (ck tk) nxs (cv tk) gh true ta sg ou a (1, ta2, [])) ∧ (tf2 = 4294967295 → a + 1 ≤ a2 ∧ cmpl (10 - dpw sg + (a2 - a)) m ∧ nbl 1023 m ∧ ∀ ou r, rgR (ck tk) nxs (cv tk) gh false ta2 (pnt sg) (ou ++ m ++ nts sg) a2 r → rgR (ck tk) nxs (cv tk) gh true ta sg ou a r))
section CG
variable {tk : Nat → Nat} {gh tf ta nx am cn tf1 ta1 n1 am1 tf2 ta2 n2 am2 tf3 ta3 n3 a a1 a2 a3 : Nat} {sg : List Nat} {m m1 m2 : List sgT}
theorem cpg.ge (h : cpg tk gh tf ta a sg m tf2 ta2 a2) (hf : tf = 4294967295) (hq : tf2 = 4294967295) : a + 1 ≤ a2 := ((h.2 hf).2 hq).1
theorem cpg.cm (h : cpg tk gh tf ta a sg m tf2 ta2 a2) (hf : tf = 4294967295) (hq : tf2 = 4294967295) : cmpl (10 - dpw sg + (a2 - a)) m := ((h.2 hf).2 hq).2.1
theorem cpg.nb (h : cpg tk gh tf ta a sg m tf2 ta2 a2) (hf : tf = 4294967295) (hq : tf2 = 4294967295) : nbl 1023 m := ((h.2 hf).2 hq).2.2.1
theorem atb (hz : tkz tk cn) {b : Nat} (hb : b ≤ cn) (h : (atmG (ck tk) nxs gh b).1 = 0) : nbl 1023 [atmV (ck tk) nxs (cv tk) gh b] ∧ (atmV (ck tk) nxs (cv tk) gh b).1 < 6 := by
  have h0 : ∀ i, i ≤ cn → ck tk i ≠ 0 → i < cn := fun i hi hk => by
    rcases Nat.eq_or_lt_of_le hi with e | e
    · subst e; exact absurd hz.2.1 hk
    · exact e
  have ht := (trmG_sim (K1 := ck tk) (n1 := nxs) (K2 := ck tk) (n2 := nxs) (ph := fun i => i) (gh := gh) (cn := cn) (fun _ _ => rfl) (fun _ _ => rfl) (fun i hi => hi) h0 hb).1
  have h5 : ck tk (trmG (ck tk) nxs gh b).2 = 5 := by
    unfold atmG at h
    by_cases c1 : (trmG (ck tk) nxs gh b).1 = 1
    · rw [if_pos c1] at h; omega
    · rw [if_neg c1] at h
      by_cases c2 : ck tk (trmG (ck tk) nxs gh b).2 = 5
      · exact c2
      · rw [if_neg c2] at h; exact absurd h (show ¬ (1 : Nat) = 0 by decide)
  have h6 : (atmV (ck tk) nxs (cv tk) gh b).1 < 6 := (hz.2.2 _ ht).2.2.2 h5
  exact ⟨nbl_1 ⟨by omega, fun _ => ⟨trb hz hb, trb hz (h0 _ ht (by omega))⟩⟩, h6⟩
theorem cpg_atom (hz : tkz tk cn) (hta : ta ≤ cn) (hr : rst tk tf nx am ta cn) (hk : ¬ (nx = 33 ∨ nx = 40)) (h : caS tk gh tf ta a tf2 ta2 a2) : cpg tk gh tf ta a sg [atmV (ck tk) nxs (cv tk) gh ta] tf2 ta2 a2 := by
  refine ⟨h.1, fun hok => ?_⟩
  have hc := hr.ck hok
  have hk2 : ¬ (ck tk ta = 33 ∨ ck tk ta = 40) := by rw [hc]; exact hk
  by_cases h8 : a = 8
  · obtain ⟨c1, c2⟩ := (h.2 hok).1 h8
    refine ⟨fun _ ou => ?_, fun q => absurd q (ftf_1 c1)⟩
    rw [c2]; exact rgR.fl hk2 h8
  · obtain ⟨c1, c2⟩ := (h.2 hok).2 h8
    refine ⟨fun q ou => ?_, fun q => ?_⟩
    · rw [ftf_n q] at c2
      exact rgR.ab hk2 h8 c2
    · rw [q] at c2
      have c3 : atmG (ck tk) nxs gh ta = (0, ta2) := c2
      obtain ⟨b1, b2⟩ := atb (gh := gh) hz hta (by rw [c3])
      refine ⟨by omega, (cmpl_a b2).up (by omega), b1, fun ou r hr2 => ?_⟩
      exact rgR.atm hk2 h8 c3 (by rw [← c1]; exact hr2)
theorem cpg_ref (hr : rst tk tf nx am ta cn) (hk : nx = 33 ∨ nx = 40) (hl : dpw sg = 10) (e1 : ta2 = ta) (e2 : tf2 < 2 ^ 31) (e3 : stq tf tf2 tf) : cpg tk gh tf ta a sg m tf2 ta2 a2 := by
  refine ⟨fun q => ⟨e3.res q, e1⟩, fun hok => ⟨fun _ ou => ?_, fun q => by omega⟩⟩
  rw [e1]
  exact rgR.dp (by rw [hr.ck hok]; exact hk) hl
theorem cpg_not (hok : tf = 4294967295) (hr : rst tk tf nx am ta cn) (hk : nx = 33) (hl : dpw sg < 10) (ep : ta1 = ta + 1) (et : tf1 = tf) (h : cpg tk gh tf1 ta1 a (1 :: sg) m tf2 ta2 a2) : cpg tk gh tf ta a sg (m ++ [opS 1]) tf2 ta2 a2 := by
  have hc := (hr.ck hok).trans hk
  obtain ⟨c1, c2⟩ := h.2 (et.trans hok)
  have hl2 : dpw sg ≠ 10 := by omega
  refine ⟨fun q => absurd hok q, fun _ => ⟨fun q ou => ?_, fun q => ?_⟩⟩
  · have := c1 q ou
    rw [ep] at this
    exact rgR.nt hc hl2 this
  · obtain ⟨g1, g2, g3, g4⟩ := c2 q
    rw [dpw_1] at g2
    refine ⟨g1, (cmpl_n g2 rfl).up (by omega), g3.app (nbl_o (by decide) (by decide)), fun ou r hr2 => ?_⟩
    have := g4 ou r (by rw [pnt_1, nts_1]; rw [← List.append_assoc, List.append_assoc] at hr2; exact hr2)
    rw [ep] at this
    exact rgR.nt hc hl2 this
theorem cpg_par (hok : tf = 4294967295) (hr : rst tk tf nx am ta cn) (hk : nx = 40) (hl : dpw sg < 10) (ep : ta1 = ta + 1) (et : tf1 = tf) (h : cpg tk gh tf1 ta1 a (9 :: sg) m tf2 ta2 a2) (ho : okf tf2 (¬ n2 = 38 ∧ ¬ n2 = 124)) (hr2 : rst tk tf2 n2 am2 ta2 cn) (hn : ndS tf2 ta2 n2 41 tf3 ta3) : cpg tk gh tf ta a sg m tf3 ta3 a2 := by
  have hc := (hr.ck hok).trans hk
  have hl2 : dpw sg ≠ 10 := by omega
  obtain ⟨c1, c2⟩ := h.2 (et.trans hok)
  rw [ep] at c1 c2
  by_cases q2 : tf2 = 4294967295
  · have hk2 := hr2.ck q2
    obtain ⟨o1, o2⟩ := ho q2
    obtain ⟨g1, g2, g3, g4⟩ := c2 q2
    rw [pnt_9, nts_9] at g4
    rw [dpw_9] at g2
    have hao : ¬ (ck tk ta2 = 38 ∨ ck tk ta2 = 124) := by rw [hk2]; omega
    by_cases q41 : n2 = 41
    · obtain ⟨d1, d2⟩ := (hn.2 q2).1 q41
      refine ⟨fun q => absurd hok q, fun _ => ⟨fun q => absurd d1 q, fun _ => ⟨g1, g2.up (by omega), g3, fun ou r hr3 => ?_⟩⟩⟩
      refine rgR.pa hc hl2 (g4 ou r (rgR.cl (hk2.trans q41) List.mem_cons_self ?_))
      rw [up9_9, af9_9, List.append_nil, List.append_nil]
      rw [d2] at hr3; exact hr3
    · obtain ⟨d1, d2⟩ := (hn.2 q2).2 q41
      refine ⟨fun q => absurd hok q, fun _ => ⟨fun _ ou => ?_, fun q => absurd q (ftf_1 d1)⟩⟩
      rw [d2]
      exact rgR.pa hc hl2 (g4 ou _ (rgR.ub hao (by rw [hk2]; exact q41) List.mem_cons_self))
  · obtain ⟨d1, d2⟩ := hn.1 q2
    refine ⟨fun q => absurd hok q, fun _ => ⟨fun _ ou => ?_, fun q => absurd (d1.symm.trans q) q2⟩⟩
    rw [d2]
    exact rgR.pa hc hl2 (c1 q2 ou)
/-- what may stand on the stack ahead of ands, of ors -/
def hda (o : Nat) (sg : List Nat) : Prop := pnt sg = sg ∧ nts sg = [] ∧ drO o sg = sg ∧ tkO o sg = []
theorem hda_0 {o : Nat} : hda o [] := ⟨rfl, rfl, rfl, rfl⟩
theorem hda_9 {o : Nat} (ho : o = 2 ∨ o = 3) {l : List Nat} : hda o (9 :: l) := ⟨pnt_9, nts_9, drO_n (by omega), tkO_n (by omega)⟩
theorem hda_3 {l : List Nat} : hda 2 (3 :: l) := ⟨if_neg (by decide), nts_n (by decide), drO_n (by decide), tkO_n (by decide)⟩
theorem hda_32 {l : List Nat} (h : l = [] ∨ ∃ k, l = 9 :: k) : hda 3 l ∧ hda 2 l := by
  rcases h with rfl | ⟨k, rfl⟩
  · exact ⟨hda_0, hda_0⟩
  · exact ⟨hda_9 (Or.inr rfl), hda_9 (Or.inl rfl)⟩
theorem pnt_o {o : Nat} {l : List Nat} (ho : o = 2 ∨ o = 3) : pnt (o :: l) = o :: l ∧ nts (o :: l) = [] ∧ dpw (o :: l) = dpw l := by
  rcases ho with rfl | rfl
  · exact ⟨if_neg (by decide), nts_n (by decide), rfl⟩
  · exact ⟨if_neg (by decide), nts_n (by decide), rfl⟩
theorem cpg_bin {o : Nat} (ho : o = 2 ∨ o = 3) (h : cpg tk gh tf ta a sg m1 tf1 ta1 a1) (hok : tf1 = 4294967295) (hr1 : rst tk tf1 n1 am1 ta1 cn) (hk : (o = 2 ∧ n1 = 38) ∨ (o = 3 ∧ n1 = 124)) (hd : hda o sg) (ep : ta2 = ta1 + 1) (et : tf2 = tf1) (h2 : cpg tk gh tf2 ta2 a1 (o :: sg) m2 tf3 ta3 a3) (hr3 : rst tk tf3 n3 am2 ta3 cn) (hn : okf tf3 (o = 2 ∨ ¬ n3 = 38)) : cpg tk gh tf ta a sg (m1 ++ m2 ++ [opS o]) tf3 ta3 a3 := by
  obtain ⟨c1, c2⟩ := h2.2 (et.trans hok)
  obtain ⟨d1, d2, d3, d4⟩ := hd
  obtain ⟨p1, p2, p3⟩ := pnt_o (l := sg) ho
  rw [ep] at c1 c2
  refine ⟨fun q => absurd ((h.1 q).1.symm.trans hok) q, fun hf => ?_⟩
  obtain ⟨g1, g2, g3, g4⟩ := (h.2 hf).2 hok
  have hst : ∀ (ou : List sgT) r, rgR (ck tk) nxs (cv tk) gh true (ta1 + 1) (o :: sg) (ou ++ m1) a1 r → rgR (ck tk) nxs (cv tk) gh true ta sg ou a r := by
    intro ou r q
    refine g4 ou r ?_
    rw [d1, d2, List.append_nil]
    rcases hk with ⟨rfl, k1⟩ | ⟨rfl, k1⟩
    · exact rgR.an ((hr1.ck hok).trans k1) (by rw [d3, d4, List.append_nil]; exact q)
    · exact rgR.or ((hr1.ck hok).trans k1) (by rw [d3, d4, List.append_nil]; exact q)
  refine ⟨fun q ou => hst ou _ (c1 q _), fun q => ?_⟩
  obtain ⟨e1, e2, e3, e4⟩ := c2 q
  rw [p3] at e2
  refine ⟨by omega, cmpl_b g2 e2 (by show 7 ≤ o + 5; omega) (by omega) (by omega), (g3.app e3).app (nbl_o (by omega) (by omega)), fun ou r hr2 => ?_⟩
  refine hst ou r (e4 _ r ?_)
  rw [p1, p2, List.append_nil]
  refine rgR.red ?_ ?_
  · rcases ho with rfl | rfl
    · exact Or.inl rfl
    · exact Or.inr ⟨rfl, by rw [hr3.ck q]; exact (hn q).resolve_left (by decide)⟩
  · rw [d1, d2, List.append_nil] at hr2
    rw [show ou ++ m1 ++ m2 ++ [opS o] = ou ++ (m1 ++ m2 ++ [opS o]) by rw [List.append_assoc, List.append_assoc, List.append_assoc]]
    exact hr2
/-- a condition, whole -/
def cng (tk : Nat → Nat) (gh tf ta : Nat) (m : List sgT) (tf2 ta2 : Nat) : Prop := (¬ tf = 4294967295 → tf2 = tf ∧ ta2 = ta) ∧ (tf = 4294967295 → rgR (ck tk) nxs (cv tk) gh true ta [] [] 0 (ftf tf2, ta2, if tf2 = 4294967295 then m else []) ∧ (tf2 = 4294967295 → cmpl 18 m ∧ nbl 1023 m))
theorem cng_of (h : cpg tk gh tf ta 0 [] m tf2 ta2 a2) (ha : a2 ≤ 8) (ho : okf tf2 (¬ n2 = 38 ∧ ¬ n2 = 124)) (hr : rst tk tf2 n2 am2 ta2 cn) : cng tk gh tf ta m tf2 ta2 := by
  refine ⟨h.1, fun hok => ?_⟩
  obtain ⟨c1, c2⟩ := h.2 hok
  by_cases q : tf2 = 4294967295
  · obtain ⟨o1, o2⟩ := ho q
    have hf : ftf tf2 = 0 := by rw [q]; rfl
    obtain ⟨g1, g2, g3, g4⟩ := c2 q
    have e0 : dpw [] = 0 := rfl
    rw [e0] at g2
    rw [hf, if_pos q]
    refine ⟨?_, fun _ => ⟨g2.up (by omega), g3⟩⟩
    have := g4 [] _ (rgR.fin (ou := [] ++ m ++ nts []) (by rw [hr.ck q]; omega) (by decide))
    rw [show ([] : List sgT) ++ m ++ nts [] ++ up9 (pnt []) = m by show [] ++ m ++ [] ++ [] = m; rw [List.append_nil, List.append_nil]; rfl] at this
    exact this
  · rw [ftf_n q, if_neg q]; exact ⟨c1 q [], fun e => absurd e q⟩
end CG
