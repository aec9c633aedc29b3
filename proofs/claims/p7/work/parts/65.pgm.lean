def fr1 {α : Type} (i : Nat) (f g : Nat → α) : Prop := ∀ j, j ≠ i → g j = f j
theorem fr1.rf {α : Type} {i : Nat} {f : Nat → α} : fr1 i f f := fun _ _ => rfl
theorem fr1.tr {α : Type} {i : Nat} {f g h : Nat → α} (a : fr1 i f g) (b : fr1 i g h) : fr1 i f h := fun j hj => (b j hj).trans (a j hj)
theorem fr1.sup {i v : Nat} {f g : Nat → Nat} (a : fr1 i f g) : fr1 i f (sup g i v) := fun j hj => (sup_ne hj).trans (a j hj)
theorem fr1.upd {i : Nat} {v : Int32} {f g : Nat → Int32} (a : fr1 i f g) : fr1 i f (upd g i v) := fun j hj => (upd_ne hj).trans (a j hj)
def frp (o P : Nat) (pl xpl : Nat → Int32) : Prop := ∀ j, (j < 3000 * o + 6 * P ∨ 3000 * o + 3000 ≤ j) → xpl j = pl j
theorem frp.rf {o P : Nat} {pl : Nat → Int32} : frp o P pl pl := fun _ _ => rfl
theorem frp.tr {o P P' : Nat} {pl pl' pl'' : Nat → Int32} (h : P ≤ P') (a : frp o P pl pl') (b : frp o P' pl' pl'') : frp o P pl pl'' := fun j hj => (b j (by omega)).trans (a j hj)
def cdn (g o P : Nat) (pl : Nat → Int32) (x n : Nat) : Prop := ∃ a, x = 3000 * o + 6 * a ∧ a + n ≤ P ∧ wfs g pl x n ∧ hgt pl x n = 1 ∧ n ≤ 96
theorem cdn.keep {g o P P' x n : Nat} {pl pl' : Nat → Int32} (h : cdn g o P pl x n) (hp : frp o P pl pl') (hP : P ≤ P') : cdn g o P' pl' x n := by
  obtain ⟨a, e, ha, hw, hh, h96⟩ := h
  have hk : ∀ j, j < 6 * n → pl (x + j) = pl' (x + j) := fun j hj => (hp _ (Or.inl (by omega))).symm
  exact ⟨a, e, by omega, wfs_congr hk hw, by rw [← hh]; exact (hgt_congr (fun k hk2 => hk (6 * k) (by omega))).symm, h96⟩
theorem cdn_new {g o P q : Nat} {pl f : Nat → Int32} (hw : wfs g f 0 q) (hh : hgt f 0 q = 1) (h96 : q ≤ 96) : cdn g o (P + q) (cpf pl f (3000 * o + 6 * P) (6 * q)) (3000 * o + 6 * P) q := by
  have hk : ∀ j, j < 6 * q → f (0 + j) = cpf pl f (3000 * o + 6 * P) (6 * q) (3000 * o + 6 * P + j) := fun j hj => by rw [cpf_in hj, Nat.zero_add]
  exact ⟨P, rfl, Nat.le_refl _, wfs_congr hk hw, by rw [← hh]; exact (hgt_congr (fun k hk2 => hk (6 * k) (by omega))).symm, h96⟩
theorem frp_new {o P q : Nat} {pl f : Nat → Int32} (h : P + q ≤ 500) : frp o P pl (cpf pl f (3000 * o + 6 * P) (6 * q)) := fun j hj => cpf_out (by omega)
def dpi (op : Nat → Nat) (B : Nat) : Nat → Nat
  | 0 => 0
  | k + 1 => if op (B + k) = 2 ∨ op (B + k) = 5 then dpi op B k + 1 else if op (B + k) = 4 ∨ op (B + k) = 6 then dpi op B k - 1 else dpi op B k
def cst (op fs ss : Nat → Nat) (i : Nat) : Nat := if op i = 5 then fs i + ss i else if op i = 2 ∨ op i = 7 ∨ op i = 8 then fs i else 0
def sms (f : Nat → Nat) (B : Nat) : Nat → Nat
  | 0 => 0
  | k + 1 => sms f B k + f (B + k)
def ccn (op : Nat → Nat) (i : Nat) : Nat := if op i = 5 then 3 else if op i = 8 then 1 else 0
def cfi (op : Nat → Nat) (i : Nat) : Nat := if op i = 4 then 1 else 0
def cpn (op : Nat → Nat) (i : Nat) : Nat := if op i = 2 then 2 else 1
def cpi (op : Nat → Nat) (i : Nat) : Nat := if op i = 5 then 0 else 1
def cod (op : Nat → Nat) (i : Nat) : Nat := if op i = 6 then 1 else 0
def cpo (op : Nat → Nat) (i : Nat) : Nat := if op i = 5 then 1 else 0
def cif (op : Nat → Nat) (i : Nat) : Nat := if op i = 2 then 1 else 0
theorem sms_congr {f g : Nat → Nat} {B : Nat} : ∀ {n : Nat}, (∀ k, k < n → f (B + k) = g (B + k)) → sms f B n = sms g B n
  | 0, _ => rfl
  | n + 1, h => by
    show sms f B n + f (B + n) = sms g B n + g (B + n)
    rw [sms_congr (fun k hk => h k (by omega)), h n (by omega)]
theorem dpi_congr {op op' : Nat → Nat} {B : Nat} : ∀ {n : Nat}, (∀ k, k < n → op (B + k) = op' (B + k)) → dpi op B n = dpi op' B n
  | 0, _ => rfl
  | n + 1, h => by
    show (if op (B + n) = 2 ∨ op (B + n) = 5 then dpi op B n + 1 else if op (B + n) = 4 ∨ op (B + n) = 6 then dpi op B n - 1 else dpi op B n) = (if op' (B + n) = 2 ∨ op' (B + n) = 5 then dpi op' B n + 1 else if op' (B + n) = 4 ∨ op' (B + n) = 6 then dpi op' B n - 1 else dpi op' B n)
    rw [dpi_congr (fun k hk => h k (by omega)), h n (by omega)]
def lok (op lk : Nat → Nat) (B n i : Nat) : Prop := (op i = 2 ∨ op i = 3 ∨ op i = 5 → i < lk i ∧ lk i < B + n) ∧ (op i = 6 → B ≤ lk i ∧ lk i < i ∧ op (lk i) = 5)
section PG
variable {o n d sn fn wn P : Nat} {op lk fi fs se ss tg gh opn : Nat → Nat} {tn hv pl : Nat → Int32}
def iok (o P : Nat) (op fi fs se ss tg gh : Nat → Nat) (tn hv pl : Nat → Int32) (i : Nat) : Prop := op i ≤ 8 ∧ (op i = 2 ∨ op i = 5 ∨ op i = 7 → cdn 6 o P pl (fi i) (fs i)) ∧ (op i = 8 → cdn 10 o P pl (fi i) (fs i)) ∧ (op i = 5 → cdn 10 o P pl (se i) (ss i) ∧ (¬ hv i = 0 → nmo 6 (tn i) ∧ gh i < 10 ∧ 6 ≤ gh i)) ∧ (op i = 0 → nmo 6 (tn i) ∧ tg i < 6)
def pgm (o n d sn fn wn P : Nat) (op lk fi fs se ss tg gh opn : Nat → Nat) (tn hv pl : Nat → Int32) : Prop :=
  (∀ k, k < n → iok o P op fi fs se ss tg gh tn hv pl (40 * o + k)) ∧ (∀ k, k < n → (∃ j, j < d ∧ opn j = 40 * o + k) ∨ lok op lk (40 * o) n (40 * o + k)) ∧ (∀ j, j < d → 40 * o ≤ opn j ∧ opn j < 40 * o + n ∧ (op (opn j) = 2 ∨ op (opn j) = 3 ∨ op (opn j) = 5)) ∧
  dpi op (40 * o) n = d ∧ (∀ k, k < n → op (40 * o + k) = 3 ∨ op (40 * o + k) = 4 ∨ op (40 * o + k) = 6 → 1 ≤ dpi op (40 * o) k) ∧ n + sms (fun j => cpn op (opn j)) 0 d ≤ sn + 2 * fn + wn ∧ d ≤ fn + wn ∧ sms (cst op fs ss) (40 * o) n ≤ P ∧ sms (ccn op) (40 * o) n ≤ 3 * wn + sn ∧ sms (cfi op) (40 * o) n + sms (fun j => cpi op (opn j)) 0 d ≤ fn ∧ sms (cod op) (40 * o) n + sms (fun j => cpo op (opn j)) 0 d ≤ wn ∧ sms (cif op) (40 * o) n ≤ fn
/-- an item more: all arrays as they were but there -/
def nwi (o n P P' : Nat) (op fi fs se ss tg gh : Nat → Nat) (tn hv pl : Nat → Int32) (op' fi' fs' se' ss' tg' gh' : Nat → Nat) (tn' hv' pl' : Nat → Int32) : Prop :=
  fr1 (40 * o + n) op op' ∧ fr1 (40 * o + n) fi fi' ∧ fr1 (40 * o + n) fs fs' ∧ fr1 (40 * o + n) se se' ∧ fr1 (40 * o + n) ss ss' ∧ fr1 (40 * o + n) tg tg' ∧ fr1 (40 * o + n) gh gh' ∧ fr1 (40 * o + n) tn tn' ∧ fr1 (40 * o + n) hv hv' ∧ frp o P pl pl' ∧ P ≤ P'
variable {P' : Nat} {op' lk' fi' fs' se' ss' tg' gh' opn' : Nat → Nat} {tn' hv' pl' : Nat → Int32}
theorem iok.keep {i : Nat} (h : iok o P op fi fs se ss tg gh tn hv pl i) (hi : i ≠ 40 * o + n) (w : nwi o n P P' op fi fs se ss tg gh tn hv pl op' fi' fs' se' ss' tg' gh' tn' hv' pl') : iok o P' op' fi' fs' se' ss' tg' gh' tn' hv' pl' i := by
  obtain ⟨w1, w2, w3, w4, w5, w6, w7, w8, w9, w10, w11⟩ := w
  obtain ⟨h1, h2, h3, h4, h5⟩ := h
  unfold iok
  rw [w1 i hi, w2 i hi, w3 i hi, w4 i hi, w5 i hi, w6 i hi, w7 i hi, w8 i hi, w9 i hi]
  exact ⟨h1, fun q => (h2 q).keep w10 w11, fun q => (h3 q).keep w10 w11, fun q => ⟨(h4 q).1.keep w10 w11, (h4 q).2⟩, h5⟩
theorem lok.keep {i m : Nat} (h : lok op lk (40 * o) n i) (hi : i < 40 * o + n) (hl : lk' i = lk i) (w : fr1 (40 * o + n) op op') (hm : n ≤ m) : lok op' lk' (40 * o) m i := by
  obtain ⟨h1, h2⟩ := h
  have e := w i (by omega)
  unfold lok
  rw [e, hl]
  refine ⟨fun q => ⟨(h1 q).1, by have := (h1 q).2; omega⟩, fun q => ⟨(h2 q).1, (h2 q).2.1, ?_⟩⟩
  have := (h2 q).2.1
  rw [w (lk i) (by omega)]
  exact (h2 q).2.2
theorem cst_k {i : Nat} (h1 : op' i = op i) (h2 : fs' i = fs i) (h3 : ss' i = ss i) : cst op' fs' ss' i = cst op fs ss i := by unfold cst; rw [h1, h2, h3]
theorem ccn_k {i : Nat} (h1 : op' i = op i) : ccn op' i = ccn op i := by unfold ccn; rw [h1]
theorem cfi_k {i : Nat} (h1 : op' i = op i) : cfi op' i = cfi op i := by unfold cfi; rw [h1]
theorem cpn_k {i : Nat} (h1 : op' i = op i) : cpn op' i = cpn op i := by unfold cpn; rw [h1]
theorem cod_k {i : Nat} (h1 : op' i = op i) : cod op' i = cod op i := by unfold cod; rw [h1]
theorem cpo_k {i : Nat} (h1 : op' i = op i) : cpo op' i = cpo op i := by unfold cpo; rw [h1]
theorem cif_k {i : Nat} (h1 : op' i = op i) : cif op' i = cif op i := by unfold cif; rw [h1]
theorem cpi_k {i : Nat} (h1 : op' i = op i) : cpi op' i = cpi op i := by unfold cpi; rw [h1]
/-- what carries over of the items that were there -/
theorem pgm_base (h : pgm o n d sn fn wn P op lk fi fs se ss tg gh opn tn hv pl) (w : nwi o n P P' op fi fs se ss tg gh tn hv pl op' fi' fs' se' ss' tg' gh' tn' hv' pl') :
    (∀ k, k < n → iok o P' op' fi' fs' se' ss' tg' gh' tn' hv' pl' (40 * o + k)) ∧ dpi op' (40 * o) n = d ∧ (∀ k, k < n → op' (40 * o + k) = 3 ∨ op' (40 * o + k) = 4 ∨ op' (40 * o + k) = 6 → 1 ≤ dpi op' (40 * o) k) ∧
    sms (cst op' fs' ss') (40 * o) n ≤ P ∧ sms (ccn op') (40 * o) n ≤ 3 * wn + sn ∧ sms (cfi op') (40 * o) n = sms (cfi op) (40 * o) n ∧ sms (fun j => cpn op' (opn j)) 0 d = sms (fun j => cpn op (opn j)) 0 d ∧ sms (fun j => cpi op' (opn j)) 0 d = sms (fun j => cpi op (opn j)) 0 d ∧ (∀ j, j < d → op' (opn j) = op (opn j)) ∧ sms (cod op') (40 * o) n = sms (cod op) (40 * o) n ∧ sms (fun j => cpo op' (opn j)) 0 d = sms (fun j => cpo op (opn j)) 0 d ∧ sms (cif op') (40 * o) n = sms (cif op) (40 * o) n := by
  obtain ⟨a1, a2, a3, a4, a5, a6, a7, a8, a9, a10, a11, a12⟩ := h
  have e : ∀ k, k < n → op' (40 * o + k) = op (40 * o + k) := fun k hk => w.1 _ (by omega)
  have e2 : ∀ j, j < d → op' (opn j) = op (opn j) := fun j hj => w.1 _ (by have := (a3 j hj).2.1; omega)
  refine ⟨fun k hk => (a1 k hk).keep (by omega) w, by rw [← a4]; exact dpi_congr e, fun k hk q => ?_, ?_, ?_, ?_, ?_, ?_, e2, ?_, ?_, ?_⟩
  · rw [e k hk] at q
    rw [dpi_congr (op' := op) (fun j hj => e j (by omega))]
    exact a5 k hk q
  · rw [sms_congr (g := cst op fs ss) (fun k hk => cst_k (e k hk) (w.2.2.1 _ (by omega)) (w.2.2.2.2.1 _ (by omega)))]; exact a8
  · rw [sms_congr (g := ccn op) (fun k hk => ccn_k (e k hk))]; exact a9
  · exact sms_congr (fun k hk => cfi_k (e k hk))
  · exact sms_congr (fun k hk => cpn_k (by rw [Nat.zero_add]; exact e2 k hk))
  · exact sms_congr (fun k hk => cpi_k (by rw [Nat.zero_add]; exact e2 k hk))
  · exact sms_congr (fun k hk => cod_k (e k hk))
  · exact sms_congr (fun k hk => cpo_k (by rw [Nat.zero_add]; exact e2 k hk))
  · exact sms_congr (fun k hk => cif_k (e k hk))
theorem pgm_one (h : pgm o n d sn fn wn P op lk fi fs se ss tg gh opn tn hv pl) (w : nwi o n P P' op fi fs se ss tg gh tn hv pl op' fi' fs' se' ss' tg' gh' tn' hv' pl')
    (hi : iok o P' op' fi' fs' se' ss' tg' gh' tn' hv' pl' (40 * o + n)) (hw : op' (40 * o + n) = 0 ∨ op' (40 * o + n) = 1 ∨ op' (40 * o + n) = 7 ∨ op' (40 * o + n) = 8) (hP : P + cst op' fs' ss' (40 * o + n) ≤ P') :
    pgm o (n + 1) d (sn + 1) fn wn P' op' lk fi' fs' se' ss' tg' gh' opn tn' hv' pl' := by
  obtain ⟨b1, b4, b5, b8, b9, b10, b11, b12, b13, b14, b15, b16⟩ := pgm_base h w
  obtain ⟨a1, a2, a3, a4, a5, a6, a7, a8, a9, a10, a11, a12⟩ := h
  refine ⟨fun k hk => ?_, fun k hk => ?_, fun j hj => ?_, ?_, fun k hk q => ?_, ?_, a7, ?_, ?_, ?_, ?_, ?_⟩
  · rcases Nat.lt_or_ge k n with h1 | h1
    · exact b1 k h1
    · rw [show k = n by omega]; exact hi
  · rcases Nat.lt_or_ge k n with h1 | h1
    · rcases a2 k h1 with h2 | h2
      · exact Or.inl h2
      · exact Or.inr (h2.keep (by omega) rfl w.1 (by omega))
    · rw [show k = n by omega]
      exact Or.inr ⟨fun q => by omega, fun q => by omega⟩
  · have := a3 j hj
    rw [b13 j hj]; exact ⟨this.1, by omega, this.2.2⟩
  · show (if op' (40 * o + n) = 2 ∨ op' (40 * o + n) = 5 then _ else if op' (40 * o + n) = 4 ∨ op' (40 * o + n) = 6 then _ else _) = d
    rw [if_neg (by omega), if_neg (by omega)]; exact b4
  · rcases Nat.lt_or_ge k n with h1 | h1
    · exact b5 k h1 q
    · rw [show k = n by omega] at q; omega
  · rw [b11]; omega
  · show sms (cst op' fs' ss') (40 * o) n + _ ≤ P'; omega
  · show sms (ccn op') (40 * o) n + ccn op' (40 * o + n) ≤ _
    have : ccn op' (40 * o + n) ≤ 1 := by unfold ccn; rw [if_neg (by omega)]; split <;> omega
    omega
  · show sms (cfi op') (40 * o) n + cfi op' (40 * o + n) + _ ≤ _
    have : cfi op' (40 * o + n) = 0 := by unfold cfi; rw [if_neg (by omega)]
    rw [b12]; omega
  · show sms (cod op') (40 * o) n + cod op' (40 * o + n) + _ ≤ _
    have : cod op' (40 * o + n) = 0 := by unfold cod; rw [if_neg (by omega)]
    rw [b15]; omega
  · show sms (cif op') (40 * o) n + cif op' (40 * o + n) ≤ _
    have : cif op' (40 * o + n) = 0 := by unfold cif; rw [if_neg (by omega)]
    omega
theorem pgm_open (h : pgm o n d sn fn wn P op lk fi fs se ss tg gh opn tn hv pl) (w : nwi o n P P' op fi fs se ss tg gh tn hv pl op' fi' fs' se' ss' tg' gh' tn' hv' pl')
    (hi : iok o P' op' fi' fs' se' ss' tg' gh' tn' hv' pl' (40 * o + n)) {fn' wn' : Nat} (hw : (op' (40 * o + n) = 2 ∧ fn' = fn + 1 ∧ wn' = wn) ∨ (op' (40 * o + n) = 5 ∧ fn' = fn ∧ wn' = wn + 1)) (hP : P + cst op' fs' ss' (40 * o + n) ≤ P') :
    pgm o (n + 1) (d + 1) (sn + 1) fn' wn' P' op' lk fi' fs' se' ss' tg' gh' (sup opn d (40 * o + n)) tn' hv' pl' := by
  obtain ⟨b1, b4, b5, b8, b9, b10, b11, b12, b13, b14, b15, b16⟩ := pgm_base h w
  obtain ⟨a1, a2, a3, a4, a5, a6, a7, a8, a9, a10, a11, a12⟩ := h
  have es : ∀ j, j < d → sup opn d (40 * o + n) j = opn j := fun j hj => sup_ne (by omega)
  have e1 : sms (fun j => cpn op' (sup opn d (40 * o + n) j)) 0 d = sms (fun j => cpn op' (opn j)) 0 d := sms_congr (fun k hk => by show cpn op' (sup opn d (40 * o + n) (0 + k)) = cpn op' (opn (0 + k)); rw [Nat.zero_add, es k hk])
  have e2 : sms (fun j => cpi op' (sup opn d (40 * o + n) j)) 0 d = sms (fun j => cpi op' (opn j)) 0 d := sms_congr (fun k hk => by show cpi op' (sup opn d (40 * o + n) (0 + k)) = cpi op' (opn (0 + k)); rw [Nat.zero_add, es k hk])
  have e3 : sms (fun j => cpo op' (sup opn d (40 * o + n) j)) 0 d = sms (fun j => cpo op' (opn j)) 0 d := sms_congr (fun k hk => by show cpo op' (sup opn d (40 * o + n) (0 + k)) = cpo op' (opn (0 + k)); rw [Nat.zero_add, es k hk])
  refine ⟨fun k hk => ?_, fun k hk => ?_, fun j hj => ?_, ?_, fun k hk q => ?_, ?_, by omega, ?_, ?_, ?_, ?_, ?_⟩
  · rcases Nat.lt_or_ge k n with h1 | h1
    · exact b1 k h1
    · rw [show k = n by omega]; exact hi
  · rcases Nat.lt_or_ge k n with h1 | h1
    · rcases a2 k h1 with ⟨j, h2, h3⟩ | h2
      · exact Or.inl ⟨j, by omega, by rw [es j h2]; exact h3⟩
      · exact Or.inr (h2.keep (by omega) rfl w.1 (by omega))
    · rw [show k = n by omega]
      exact Or.inl ⟨d, by omega, sup_eq⟩
  · rcases Nat.lt_or_ge j d with h1 | h1
    · have := a3 j h1
      rw [es j h1, b13 j h1]; exact ⟨this.1, by omega, this.2.2⟩
    · rw [show j = d by omega, sup_eq]; exact ⟨by omega, by omega, by omega⟩
  · show (if op' (40 * o + n) = 2 ∨ op' (40 * o + n) = 5 then _ else _) = d + 1
    rw [if_pos (by omega), b4]
  · rcases Nat.lt_or_ge k n with h1 | h1
    · exact b5 k h1 q
    · rw [show k = n by omega] at q; omega
  · show n + 1 + (sms (fun j => cpn op' (sup opn d (40 * o + n) j)) 0 d + cpn op' (sup opn d (40 * o + n) (0 + d))) ≤ _
    rw [e1, b11, Nat.zero_add, sup_eq]
    have : cpn op' (40 * o + n) = (if op' (40 * o + n) = 2 then 2 else 1) := rfl
    split at this <;> omega
  · show sms (cst op' fs' ss') (40 * o) n + _ ≤ P'; omega
  · show sms (ccn op') (40 * o) n + ccn op' (40 * o + n) ≤ _
    have : ccn op' (40 * o + n) = (if op' (40 * o + n) = 5 then 3 else if op' (40 * o + n) = 8 then 1 else 0) := rfl
    split at this
    · omega
    · rw [if_neg (by omega)] at this; omega
  · show sms (cfi op') (40 * o) n + cfi op' (40 * o + n) + (sms (fun j => cpi op' (sup opn d (40 * o + n) j)) 0 d + cpi op' (sup opn d (40 * o + n) (0 + d))) ≤ _
    rw [e2, b12, b10, Nat.zero_add, sup_eq]
    have h3 : cfi op' (40 * o + n) = 0 := by unfold cfi; rw [if_neg (by omega)]
    have : cpi op' (40 * o + n) = (if op' (40 * o + n) = 5 then 0 else 1) := rfl
    split at this <;> omega
  · show sms (cod op') (40 * o) n + cod op' (40 * o + n) + (sms (fun j => cpo op' (sup opn d (40 * o + n) j)) 0 d + cpo op' (sup opn d (40 * o + n) (0 + d))) ≤ _
    rw [e3, b15, b14, Nat.zero_add, sup_eq]
    have h3 : cod op' (40 * o + n) = 0 := by unfold cod; rw [if_neg (by omega)]
    have : cpo op' (40 * o + n) = (if op' (40 * o + n) = 5 then 1 else 0) := rfl
    split at this <;> omega
  · show sms (cif op') (40 * o) n + cif op' (40 * o + n) ≤ _
    have : cif op' (40 * o + n) = (if op' (40 * o + n) = 2 then 1 else 0) := rfl
    split at this <;> omega
theorem pgm_0 : pgm o 0 0 0 0 0 0 op lk fi fs se ss tg gh opn tn hv pl :=
  ⟨fun k hk => by omega, fun k hk => by omega, fun j hj => by omega, rfl, fun k hk => by omega, Nat.le_refl _, Nat.le_refl _, Nat.le_refl _, Nat.le_refl _, Nat.le_refl _, Nat.le_refl _, Nat.le_refl _⟩
theorem pgm_else (h : pgm o n d sn fn wn P op lk fi fs se ss tg gh opn tn hv pl) (hd : 0 < d) (h2 : op (opn (d - 1)) = 2) :
    pgm o (n + 1) d sn fn wn P (sup op (40 * o + n) 3) (sup lk (opn (d - 1)) (40 * o + n)) fi fs se ss tg gh (sup opn (d - 1) (40 * o + n)) tn (upd hv (40 * o + n) 0) pl := by
  have w : nwi o n P P op fi fs se ss tg gh tn hv pl (sup op (40 * o + n) 3) fi fs se ss tg gh tn (upd hv (40 * o + n) 0) pl := ⟨fr1.rf.sup, fr1.rf, fr1.rf, fr1.rf, fr1.rf, fr1.rf, fr1.rf, fr1.rf, fr1.rf.upd, frp.rf, Nat.le_refl _⟩
  obtain ⟨b1, b4, b5, b8, b9, b10, b11, b12, b13, b14, b15, b16⟩ := pgm_base h w
  obtain ⟨a1, a2, a3, a4, a5, a6, a7, a8, a9, a10, a11, a12⟩ := h
  obtain ⟨t1, t2, t3⟩ := a3 (d - 1) (by omega)
  generalize hi : opn (d - 1) = i at *
  have en : (sup op (40 * o + n) 3) (40 * o + n) = 3 := sup_eq
  have ei : (sup op (40 * o + n) 3) i = 2 := by rw [sup_ne (by omega)]; exact h2
  have es : ∀ j, j < d - 1 → sup opn (d - 1) (40 * o + n) j = opn j := fun j hj => sup_ne (by omega)
  obtain ⟨m, rfl⟩ : ∃ m, d = m + 1 := ⟨d - 1, by omega⟩
  rw [Nat.add_sub_cancel] at *
  have c1 : sms (fun j => cpn (sup op (40 * o + n) 3) (opn j)) 0 (m + 1) = sms (fun j => cpn (sup op (40 * o + n) 3) (opn j)) 0 m + cpn (sup op (40 * o + n) 3) (opn (0 + m)) := rfl
  have c2 : sms (fun j => cpi (sup op (40 * o + n) 3) (opn j)) 0 (m + 1) = sms (fun j => cpi (sup op (40 * o + n) 3) (opn j)) 0 m + cpi (sup op (40 * o + n) 3) (opn (0 + m)) := rfl
  have e1 : sms (fun j => cpn (sup op (40 * o + n) 3) (sup opn m (40 * o + n) j)) 0 m = sms (fun j => cpn (sup op (40 * o + n) 3) (opn j)) 0 m := sms_congr (fun k hk => by show cpn _ (sup opn m (40 * o + n) (0 + k)) = cpn _ (opn (0 + k)); rw [Nat.zero_add, es k hk])
  have c3 : sms (fun j => cpo (sup op (40 * o + n) 3) (opn j)) 0 (m + 1) = sms (fun j => cpo (sup op (40 * o + n) 3) (opn j)) 0 m + cpo (sup op (40 * o + n) 3) (opn (0 + m)) := rfl
  have e3 : sms (fun j => cpo (sup op (40 * o + n) 3) (sup opn m (40 * o + n) j)) 0 m = sms (fun j => cpo (sup op (40 * o + n) 3) (opn j)) 0 m := sms_congr (fun k hk => by show cpo _ (sup opn m (40 * o + n) (0 + k)) = cpo _ (opn (0 + k)); rw [Nat.zero_add, es k hk])
  have e2 : sms (fun j => cpi (sup op (40 * o + n) 3) (sup opn m (40 * o + n) j)) 0 m = sms (fun j => cpi (sup op (40 * o + n) 3) (opn j)) 0 m := sms_congr (fun k hk => by show cpi _ (sup opn m (40 * o + n) (0 + k)) = cpi _ (opn (0 + k)); rw [Nat.zero_add, es k hk])
  refine ⟨fun k hk => ?_, fun k hk => ?_, fun j hj => ?_, ?_, fun k hk q => ?_, ?_, a7, ?_, ?_, ?_, ?_, ?_⟩
  · rcases Nat.lt_or_ge k n with h1 | h1
    · exact b1 k h1
    · rw [show k = n by omega]
      unfold iok; rw [en]
      exact ⟨by omega, fun q => by omega, fun q => by omega, fun q => by omega, fun q => by omega⟩
  · rcases Nat.lt_or_ge k n with h1 | h1
    · by_cases hk2 : 40 * o + k = i
      · rw [hk2]
        right
        unfold lok
        rw [ei, sup_eq]
        exact ⟨fun _ => ⟨by omega, by omega⟩, fun q => by omega⟩
      · rcases a2 k h1 with ⟨j, h3, h4⟩ | h3
        · by_cases hj : j = m
          · subst hj; omega
          · exact Or.inl ⟨j, by omega, by rw [es j (by omega)]; exact h4⟩
        · exact Or.inr (h3.keep (by omega) (sup_ne hk2) w.1 (by omega))
    · rw [show k = n by omega]
      exact Or.inl ⟨m, by omega, sup_eq⟩
  · rcases Nat.lt_or_ge j m with h1 | h1
    · have := a3 j (by omega)
      rw [es j h1, b13 j (by omega)]; exact ⟨this.1, by omega, this.2.2⟩
    · rw [show j = m by omega, sup_eq, en]; exact ⟨by omega, by omega, by omega⟩
  · show (if (sup op (40 * o + n) 3) (40 * o + n) = 2 ∨ _ then _ else if _ then _ else _) = _
    rw [en, if_neg (by omega), if_neg (by omega)]; exact b4
  · rcases Nat.lt_or_ge k n with h1 | h1
    · exact b5 k h1 q
    · rw [show k = n by omega, b4]; omega
  · show n + 1 + (sms (fun j => cpn (sup op (40 * o + n) 3) (sup opn m (40 * o + n) j)) 0 m + cpn (sup op (40 * o + n) 3) (sup opn m (40 * o + n) (0 + m))) ≤ _
    rw [Nat.zero_add, hi] at c1
    have f1 : cpn (sup op (40 * o + n) 3) i = 2 := by unfold cpn; rw [ei]; rfl
    have f2 : cpn (sup op (40 * o + n) 3) (40 * o + n) = 1 := by unfold cpn; rw [en]; rfl
    rw [e1, Nat.zero_add, sup_eq, f2]; omega
  · show sms (cst (sup op (40 * o + n) 3) fs ss) (40 * o) n + cst (sup op (40 * o + n) 3) fs ss (40 * o + n) ≤ P
    have f1 : cst (sup op (40 * o + n) 3) fs ss (40 * o + n) = 0 := by unfold cst; rw [en]; rfl
    omega
  · show sms (ccn (sup op (40 * o + n) 3)) (40 * o) n + ccn (sup op (40 * o + n) 3) (40 * o + n) ≤ _
    have f1 : ccn (sup op (40 * o + n) 3) (40 * o + n) = 0 := by unfold ccn; rw [en]; rfl
    omega
  · show sms (cfi (sup op (40 * o + n) 3)) (40 * o) n + cfi (sup op (40 * o + n) 3) (40 * o + n) + (sms (fun j => cpi (sup op (40 * o + n) 3) (sup opn m (40 * o + n) j)) 0 m + cpi (sup op (40 * o + n) 3) (sup opn m (40 * o + n) (0 + m))) ≤ _
    rw [Nat.zero_add, hi] at c2
    have f0 : cfi (sup op (40 * o + n) 3) (40 * o + n) = 0 := by unfold cfi; rw [en]; rfl
    have f1 : cpi (sup op (40 * o + n) 3) i = 1 := by unfold cpi; rw [ei]; rfl
    have f2 : cpi (sup op (40 * o + n) 3) (40 * o + n) = 1 := by unfold cpi; rw [en]; rfl
    rw [e2, Nat.zero_add, sup_eq, f2, f0]; omega
  · show sms (cod (sup op (40 * o + n) 3)) (40 * o) n + cod (sup op (40 * o + n) 3) (40 * o + n) + (sms (fun j => cpo (sup op (40 * o + n) 3) (sup opn m (40 * o + n) j)) 0 m + cpo (sup op (40 * o + n) 3) (sup opn m (40 * o + n) (0 + m))) ≤ _
    have f0 : cod (sup op (40 * o + n) 3) (40 * o + n) = 0 := by unfold cod; rw [en]; rfl
    have f2 : cpo (sup op (40 * o + n) 3) (40 * o + n) = 0 := by unfold cpo; rw [en]; rfl
    rw [e3, Nat.zero_add, sup_eq, f2, f0]; omega
  · show sms (cif (sup op (40 * o + n) 3)) (40 * o) n + cif (sup op (40 * o + n) 3) (40 * o + n) ≤ _
    have f0 : cif (sup op (40 * o + n) 3) (40 * o + n) = 0 := by unfold cif; rw [en]; rfl
    omega
theorem pgm_close (h : pgm o n d sn fn wn P op lk fi fs se ss tg gh opn tn hv pl) (hd : 0 < d) {w1 : Nat} (h2 : (op (opn (d - 1)) = 3 ∧ w1 = 4) ∨ (op (opn (d - 1)) = 5 ∧ w1 = 6)) :
    pgm o (n + 1) (d - 1) sn fn wn P (sup op (40 * o + n) w1) (sup (sup lk (opn (d - 1)) (40 * o + n)) (40 * o + n) (opn (d - 1))) fi fs se ss tg gh opn tn (upd hv (40 * o + n) 0) pl := by
  have w : nwi o n P P op fi fs se ss tg gh tn hv pl (sup op (40 * o + n) w1) fi fs se ss tg gh tn (upd hv (40 * o + n) 0) pl := ⟨fr1.rf.sup, fr1.rf, fr1.rf, fr1.rf, fr1.rf, fr1.rf, fr1.rf, fr1.rf, fr1.rf.upd, frp.rf, Nat.le_refl _⟩
  obtain ⟨b1, b4, b5, b8, b9, b10, b11, b12, b13, b14, b15, b16⟩ := pgm_base h w
  obtain ⟨a1, a2, a3, a4, a5, a6, a7, a8, a9, a10, a11, a12⟩ := h
  obtain ⟨t1, t2, t3⟩ := a3 (d - 1) (by omega)
  generalize hi : opn (d - 1) = i at *
  have en : (sup op (40 * o + n) w1) (40 * o + n) = w1 := sup_eq
  have ei : (sup op (40 * o + n) w1) i = op i := sup_ne (by omega)
  obtain ⟨m, rfl⟩ : ∃ m, d = m + 1 := ⟨d - 1, by omega⟩
  rw [Nat.add_sub_cancel] at *
  have c1 : sms (fun j => cpn (sup op (40 * o + n) w1) (opn j)) 0 (m + 1) = sms (fun j => cpn (sup op (40 * o + n) w1) (opn j)) 0 m + cpn (sup op (40 * o + n) w1) (opn (0 + m)) := rfl
  have c2 : sms (fun j => cpi (sup op (40 * o + n) w1) (opn j)) 0 (m + 1) = sms (fun j => cpi (sup op (40 * o + n) w1) (opn j)) 0 m + cpi (sup op (40 * o + n) w1) (opn (0 + m)) := rfl
  have c3 : sms (fun j => cpo (sup op (40 * o + n) w1) (opn j)) 0 (m + 1) = sms (fun j => cpo (sup op (40 * o + n) w1) (opn j)) 0 m + cpo (sup op (40 * o + n) w1) (opn (0 + m)) := rfl
  rw [Nat.zero_add, hi] at c1 c2 c3
  refine ⟨fun k hk => ?_, fun k hk => ?_, fun j hj => ?_, ?_, fun k hk q => ?_, ?_, by omega, ?_, ?_, ?_, ?_, ?_⟩
  · rcases Nat.lt_or_ge k n with h1 | h1
    · exact b1 k h1
    · rw [show k = n by omega]
      unfold iok; rw [en]
      exact ⟨by omega, fun q => by omega, fun q => by omega, fun q => by omega, fun q => by omega⟩
  · rcases Nat.lt_or_ge k n with h1 | h1
    · by_cases hk2 : 40 * o + k = i
      · rw [hk2]
        right
        unfold lok
        rw [ei, sup_ne (show i ≠ 40 * o + n by omega), sup_eq]
        exact ⟨fun _ => ⟨by omega, by omega⟩, fun q => by omega⟩
      · rcases a2 k h1 with ⟨j, h3, h4⟩ | h3
        · by_cases hj : j = m
          · subst hj; omega
          · exact Or.inl ⟨j, by omega, h4⟩
        · exact Or.inr (h3.keep (by omega) (by rw [sup_ne (by omega), sup_ne hk2]) w.1 (by omega))
    · rw [show k = n by omega]
      right
      unfold lok
      rw [en, sup_eq, ei]
      exact ⟨fun q => by omega, fun q => ⟨by omega, by omega, by omega⟩⟩
  · have := a3 j (by omega)
    rw [b13 j (by omega)]; exact ⟨this.1, by omega, this.2.2⟩
  · show (if (sup op (40 * o + n) w1) (40 * o + n) = 2 ∨ (sup op (40 * o + n) w1) (40 * o + n) = 5 then _ else if (sup op (40 * o + n) w1) (40 * o + n) = 4 ∨ (sup op (40 * o + n) w1) (40 * o + n) = 6 then _ else _) = _
    rw [en, if_neg (by omega), if_pos (by omega), b4]; rfl
  · rcases Nat.lt_or_ge k n with h1 | h1
    · exact b5 k h1 q
    · rw [show k = n by omega, b4]; omega
  · have f1 : cpn (sup op (40 * o + n) w1) i = 1 := by unfold cpn; rw [ei, if_neg (by omega)]
    omega
  · show sms (cst (sup op (40 * o + n) w1) fs ss) (40 * o) n + cst (sup op (40 * o + n) w1) fs ss (40 * o + n) ≤ P
    have f1 : cst (sup op (40 * o + n) w1) fs ss (40 * o + n) = 0 := by unfold cst; rw [en, if_neg (by omega), if_neg (by omega)]
    omega
  · show sms (ccn (sup op (40 * o + n) w1)) (40 * o) n + ccn (sup op (40 * o + n) w1) (40 * o + n) ≤ _
    have f1 : ccn (sup op (40 * o + n) w1) (40 * o + n) = 0 := by unfold ccn; rw [en, if_neg (by omega), if_neg (by omega)]
    omega
  · show sms (cfi (sup op (40 * o + n) w1)) (40 * o) n + cfi (sup op (40 * o + n) w1) (40 * o + n) + sms (fun j => cpi (sup op (40 * o + n) w1) (opn j)) 0 m ≤ _
    rcases h2 with ⟨h2, h3⟩ | ⟨h2, h3⟩
    · have f0 : cfi (sup op (40 * o + n) w1) (40 * o + n) = 1 := by unfold cfi; rw [en, if_pos h3]
      have f1 : cpi (sup op (40 * o + n) w1) i = 1 := by unfold cpi; rw [ei, if_neg (by omega)]
      omega
    · have f0 : cfi (sup op (40 * o + n) w1) (40 * o + n) = 0 := by unfold cfi; rw [en, if_neg (by omega)]
      omega
  · show sms (cod (sup op (40 * o + n) w1)) (40 * o) n + cod (sup op (40 * o + n) w1) (40 * o + n) + sms (fun j => cpo (sup op (40 * o + n) w1) (opn j)) 0 m ≤ _
    rcases h2 with ⟨h2, h3⟩ | ⟨h2, h3⟩
    · have f0 : cod (sup op (40 * o + n) w1) (40 * o + n) = 0 := by unfold cod; rw [en, if_neg (by omega)]
      omega
    · have f0 : cod (sup op (40 * o + n) w1) (40 * o + n) = 1 := by unfold cod; rw [en, if_pos h3]
      have f1 : cpo (sup op (40 * o + n) w1) i = 1 := by unfold cpo; rw [ei, if_pos h2]
      omega
  · show sms (cif (sup op (40 * o + n) w1)) (40 * o) n + cif (sup op (40 * o + n) w1) (40 * o + n) ≤ _
    have f0 : cif (sup op (40 * o + n) w1) (40 * o + n) = 0 := by unfold cif; rw [en, if_neg (by omega)]
    omega
end PG
