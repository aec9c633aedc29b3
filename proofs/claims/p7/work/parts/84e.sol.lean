/-- numbers for the points, 0 at most -/
def npo8 (v : Nat → Int) : Prop := ∀ i, i ≤ 10 → v i ≤ 0
/-- bounds: L x y m says that the number of x is at most m more than that of y -/
def sol8 (L : Nat → Nat → Int → Prop) (v : Nat → Int) : Prop := npo8 v ∧ ∀ x y m, L x y m → v x ≤ v y + m
/-- the greatest numbers of which P is true -/
def grt8 (P : (Nat → Int) → Prop) (g : Nat → Int) : Prop := P g ∧ ∀ v, P v → ∀ i, i ≤ 10 → v i ≤ g i
def in10 (L : Nat → Nat → Int → Prop) : Prop := ∀ x y m, L x y m → x ≤ 10 ∧ y ≤ 10
theorem grt8.eq {P Q : (Nat → Int) → Prop} {g g' : Nat → Int} (h : grt8 P g) (h' : grt8 Q g') (e : ∀ v, P v ↔ Q v) {i : Nat} (hi : i ≤ 10) : g i = g' i :=
  Int.le_antisymm (h'.2 g ((e g).mp h.1) i hi) (h.2 g' ((e g').mpr h'.1) i hi)
theorem grt8.congr {P Q : (Nat → Int) → Prop} {g : Nat → Int} (h : grt8 P g) (e : ∀ v, P v ↔ Q v) : grt8 Q g := ⟨(e g).mp h.1, fun v hv => h.2 v ((e v).mpr hv)⟩
theorem mx_I {P : Int → Prop} (h0 : ∀ x, P x → x ≤ 0) : ∀ (n : Nat) (x : Int), P x → -x ≤ (n : Int) → ∃ m, P m ∧ ∀ y, P y → y ≤ m
  | 0, x, hx, hn => ⟨x, hx, fun y hy => by
    have h1 := h0 y hy
    omega⟩
  | n + 1, x, hx, hn => by
    by_cases c : ∃ y, P y ∧ x < y
    · obtain ⟨y, hy, hl⟩ := c
      exact mx_I h0 n y hy (by omega)
    · refine ⟨x, hx, fun y hy => ?_⟩
      by_cases q : x < y
      · exact absurd ⟨y, hy, q⟩ c
      · omega
theorem grt8_ex {L : Nat → Nat → Int → Prop} (hL : in10 L) (h : ∃ v, sol8 L v) : ∃ g, grt8 (sol8 L) g := by
  obtain ⟨v0, h0⟩ := h
  have hm : ∀ i : Nat, ∃ m : Int, i ≤ 10 → (∃ v, sol8 L v ∧ v i = m) ∧ ∀ v, sol8 L v → v i ≤ m := fun i => by
    by_cases hi : i ≤ 10
    · obtain ⟨m, ⟨v, hv, e⟩, hm⟩ := mx_I (P := fun x => ∃ v, sol8 L v ∧ v i = x) (fun x hx => by
        obtain ⟨v, hv, e⟩ := hx
        rw [← e]; exact hv.1 i hi) ((-(v0 i)).toNat) (v0 i) ⟨v0, h0, rfl⟩ (by omega)
      exact ⟨m, fun _ => ⟨⟨v, hv, e⟩, fun w hw => hm _ ⟨w, hw, rfl⟩⟩⟩
    · exact ⟨0, fun q => absurd q hi⟩
  refine ⟨fun i => Classical.choose (hm i), ⟨fun i hi => ?_, fun x y c hc => ?_⟩, fun v hv i hi => (Classical.choose_spec (hm i) hi).2 v hv⟩
  · obtain ⟨⟨v, hv, e⟩, _⟩ := Classical.choose_spec (hm i) hi
    show Classical.choose (hm i) ≤ 0
    rw [← e]; exact hv.1 i hi
  · obtain ⟨hx, hy⟩ := hL x y c hc
    obtain ⟨⟨v, hv, e⟩, _⟩ := Classical.choose_spec (hm x) hx
    have h2 := (Classical.choose_spec (hm y) hy).2 v hv
    have h3 := hv.2 x y c hc
    show Classical.choose (hm x) ≤ Classical.choose (hm y) + c
    omega
/-- greatest numbers can't be raised on any set -/
theorem grt8_up {L : Nat → Nat → Int → Prop} {g : Nat → Int} (hg : grt8 (sol8 L) g) (U : Nat → Prop) {j : Nat} (hj : j ≤ 10) (hU : U j) (h0 : ∀ i, i ≤ 10 → U i → g i < 0) (h1 : ∀ x y m, L x y m → U x → ¬ U y → g x + 1 ≤ g y + m) : False := by
  obtain ⟨w, e1, e0⟩ : ∃ w : Nat → Int, (∀ i, U i → w i = g i + 1) ∧ ∀ i, ¬ U i → w i = g i := ⟨fun i => @ite Int (U i) (Classical.propDecidable (U i)) (g i + 1) (g i), fun i q => if_pos q, fun i q => if_neg q⟩
  have hw : sol8 L w := by
    refine ⟨fun i hi => ?_, fun x y m hm => ?_⟩
    · by_cases q : U i
      · have := h0 i hi q
        rw [e1 i q]; omega
      · rw [e0 i q]; exact hg.1.1 i hi
    · have hs := hg.1.2 x y m hm
      by_cases qx : U x
      · by_cases qy : U y
        · rw [e1 x qx, e1 y qy]; omega
        · rw [e1 x qx, e0 y qy]; exact h1 x y m hm qx qy
      · by_cases qy : U y
        · rw [e0 x qx, e1 y qy]; omega
        · rw [e0 x qx, e0 y qy]; exact hs
  have := hg.2 w hw j hj
  rw [e1 j hU] at this
  omega
/-- how many numbers are the same -/
def cnq8 (a g : Nat → Int) : Nat → Nat
  | 0 => 0
  | n + 1 => cnq8 a g n + (if a n = g n then 1 else 0)
section CNQ
variable {a b g : Nat → Int}
theorem cnq8_le : ∀ n, cnq8 a g n ≤ n
  | 0 => Nat.le_refl 0
  | n + 1 => by
    have h := cnq8_le n
    show cnq8 a g n + (if a n = g n then 1 else 0) ≤ n + 1
    split <;> omega
theorem cnq8_mono : ∀ n, (∀ i, i < n → a i = g i → b i = g i) → cnq8 a g n ≤ cnq8 b g n
  | 0, _ => Nat.le_refl 0
  | n + 1, h => by
    have h1 := cnq8_mono n (fun i hi => h i (by omega))
    show cnq8 a g n + (if a n = g n then 1 else 0) ≤ cnq8 b g n + (if b n = g n then 1 else 0)
    by_cases c : a n = g n
    · rw [if_pos c, if_pos (h n (by omega) c)]; omega
    · rw [if_neg c]; omega
theorem cnq8_lt : ∀ n, (∀ i, i < n → a i = g i → b i = g i) → ∀ j, j < n → ¬ a j = g j → b j = g j → cnq8 a g n + 1 ≤ cnq8 b g n
  | 0, _, _, hj, _, _ => absurd hj (Nat.not_lt_zero _)
  | n + 1, h, j, hj, h1, h2 => by
    show cnq8 a g n + (if a n = g n then 1 else 0) + 1 ≤ cnq8 b g n + (if b n = g n then 1 else 0)
    by_cases e : j = n
    · subst e
      have h3 := cnq8_mono j (fun i hi => h i (by omega))
      rw [if_neg h1, if_pos h2]; omega
    · have h3 := cnq8_lt n (fun i hi => h i (by omega)) j (by omega) h1 h2
      by_cases c : a n = g n
      · rw [if_pos c, if_pos (h n (by omega) c)]; omega
      · rw [if_neg c]; omega
theorem cnq8_pos {j : Nat} (hj : a j = g j) : ∀ n, j < n → 1 ≤ cnq8 a g n
  | 0, h => absurd h (Nat.not_lt_zero _)
  | n + 1, h => by
    show 1 ≤ cnq8 a g n + (if a n = g n then 1 else 0)
    by_cases e : j = n
    · subst e; rw [if_pos hj]; omega
    · have := cnq8_pos hj n (by omega)
      omega
theorem cnq8_no {j : Nat} (hj : ¬ a j = g j) : ∀ n, j < n → cnq8 a g n + 1 ≤ n
  | 0, h => absurd h (Nat.not_lt_zero _)
  | n + 1, h => by
    show cnq8 a g n + (if a n = g n then 1 else 0) + 1 ≤ n + 1
    by_cases e : j = n
    · subst e
      have := cnq8_le (a := a) (g := g) j
      rw [if_neg hj]; omega
    · have := cnq8_no hj n (by omega)
      split <;> omega
end CNQ
/-- a pass: every bound is looked at once, or holds -/
def pas8 (L : Nat → Nat → Int → Prop) (a b : Nat → Int) : Prop := (∀ i, i ≤ 10 → b i ≤ a i) ∧ ∀ x y m, L x y m → b x ≤ a y + m
/-- a pass brings one point more to its greatest number -/
theorem pas8_cnt {L : Nat → Nat → Int → Prop} {g a b : Nat → Int} (hL : in10 L) (hg : grt8 (sol8 L) g) (ha : ∀ i, i ≤ 10 → g i ≤ a i) (ha0 : npo8 a) (hb : ∀ i, i ≤ 10 → g i ≤ b i) (hp : pas8 L a b) {j : Nat} (hj : j ≤ 10) (hn : ¬ a j = g j) : cnq8 a g 11 + 1 ≤ cnq8 b g 11 := by
  have hk : ∃ x y m, L x y m ∧ ¬ a x = g x ∧ a y = g y ∧ ¬ g x + 1 ≤ g y + m := by
    refine Classical.byContradiction (fun hc => ?_)
    refine grt8_up hg (fun i => ¬ a i = g i) hj hn (fun i hi q => ?_) (fun x y m hm qx qy => ?_)
    · have h1 := ha i hi
      have h2 := ha0 i hi
      have q2 : ¬ a i = g i := q
      omega
    · refine Classical.byContradiction (fun q => hc ⟨x, y, m, hm, qx, ?_, q⟩)
      exact Classical.byContradiction (fun q2 => qy q2)
  obtain ⟨x, y, m, hm, qx, qy, q⟩ := hk
  obtain ⟨hx, hy⟩ := hL x y m hm
  have h1 := hp.2 x y m hm
  have h2 := hb x hx
  refine cnq8_lt 11 (fun i hi e => ?_) x (by omega) qx (by omega)
  have h3 := hp.1 i (by omega)
  have h4 := hb i (by omega)
  omega
/-- how many numbers are below t -/
def cnl8 (g : Nat → Int) (t : Int) : Nat → Nat
  | 0 => 0
  | n + 1 => cnl8 g t n + (if g n < t then 1 else 0)
section CNL
variable {g : Nat → Int} {t t' : Int}
theorem cnl8_le : ∀ n, cnl8 g t n ≤ n
  | 0 => Nat.le_refl 0
  | n + 1 => by
    have h := cnl8_le n
    show cnl8 g t n + (if g n < t then 1 else 0) ≤ n + 1
    split <;> omega
theorem cnl8_no {j : Nat} (hj : ¬ g j < t) : ∀ n, j < n → cnl8 g t n + 1 ≤ n
  | 0, h => absurd h (Nat.not_lt_zero _)
  | n + 1, h => by
    show cnl8 g t n + (if g n < t then 1 else 0) + 1 ≤ n + 1
    by_cases e : j = n
    · subst e
      have := cnl8_le (g := g) (t := t) j
      rw [if_neg hj]; omega
    · have := cnl8_no hj n (by omega)
      split <;> omega
theorem cnl8_pos {j : Nat} (hj : g j < t) : ∀ n, j < n → 1 ≤ cnl8 g t n
  | 0, h => absurd h (Nat.not_lt_zero _)
  | n + 1, h => by
    show 1 ≤ cnl8 g t n + (if g n < t then 1 else 0)
    by_cases e : j = n
    · subst e; rw [if_pos hj]; omega
    · have := cnl8_pos hj n (by omega)
      omega
theorem cnl8_mono (ht : t' ≤ t) : ∀ n, cnl8 g t' n ≤ cnl8 g t n
  | 0 => Nat.le_refl 0
  | n + 1 => by
    have h1 := cnl8_mono ht n
    show cnl8 g t' n + (if g n < t' then 1 else 0) ≤ cnl8 g t n + (if g n < t then 1 else 0)
    by_cases c : g n < t'
    · rw [if_pos c, if_pos (by omega)]; omega
    · rw [if_neg c]; omega
theorem cnl8_lt (ht : t' ≤ t) {j : Nat} (h1 : g j < t) (h2 : ¬ g j < t') : ∀ n, j < n → cnl8 g t' n + 1 ≤ cnl8 g t n
  | 0, h => absurd h (Nat.not_lt_zero _)
  | n + 1, h => by
    show cnl8 g t' n + (if g n < t' then 1 else 0) + 1 ≤ cnl8 g t n + (if g n < t then 1 else 0)
    by_cases e : j = n
    · subst e
      have h3 := cnl8_mono ht (g := g) j
      rw [if_pos h1, if_neg h2]; omega
    · have h3 := cnl8_lt ht h1 h2 n (by omega)
      by_cases c : g n < t'
      · rw [if_pos c, if_pos (by omega)]; omega
      · rw [if_neg c]; omega
end CNL
theorem grt8_lay {L : Nat → Nat → Int → Prop} {g : Nat → Int} (hB : ∀ x y m, L x y m → -50000 ≤ m) (hL : in10 L) (hg : grt8 (sol8 L) g) (T : Nat → Int) (hT0 : T 0 = 0) (hT : ∀ k, T (k + 1) = T k - 50000) (k : Nat) : T k ≤ 0 ∧ ((∃ i, i ≤ 10 ∧ g i < T k) → cnl8 g (T k) 11 + k ≤ 10) := by
  induction k with
  | zero =>
    refine ⟨by omega, fun hk => ?_⟩
    obtain ⟨i, hi, h⟩ := hk
    have hk : ∃ j, j ≤ 10 ∧ ¬ g j < T 0 := by
      refine Classical.byContradiction (fun hc => ?_)
      refine grt8_up hg (fun _ => True) hi trivial (fun j hj _ => ?_) (fun x y m hm _ q => absurd trivial q)
      refine Classical.byContradiction (fun q => hc ⟨j, hj, fun q2 => q ?_⟩)
      omega
    obtain ⟨j, hj, hn⟩ := hk
    have := cnl8_no hn 11 (by omega)
    omega
  | succ k ih =>
    have e := hT k
    refine ⟨by omega, fun hk => ?_⟩
    obtain ⟨i, hi, h⟩ := hk
    have ih2 := ih.2 ⟨i, hi, by omega⟩
    have hk : ∃ j, j ≤ 10 ∧ g j < T k ∧ ¬ g j < T (k + 1) := by
      refine Classical.byContradiction (fun hc => ?_)
      refine grt8_up hg (fun j => g j < T (k + 1)) hi h (fun j hj q => ?_) (fun x y m hm qx qy => ?_)
      · have q2 : g j < T (k + 1) := q
        omega
      · have q2 : g x < T (k + 1) := qx
        have q3 : ¬ g y < T (k + 1) := qy
        have q4 : ¬ g y < T k := fun q => hc ⟨y, (hL x y m hm).2, q, q3⟩
        have := hB x y m hm
        omega
    obtain ⟨j, hj, h1, h2⟩ := hk
    have := cnl8_lt (g := g) (t := T k) (t' := T (k + 1)) (by omega) h1 h2 11 (by omega)
    omega
/-- greatest numbers are not far below 0 -/
theorem grt8_lo {L : Nat → Nat → Int → Prop} {g : Nat → Int} (hB : ∀ x y m, L x y m → -50000 ≤ m) (hL : in10 L) (hg : grt8 (sol8 L) g) {i : Nat} (hi : i ≤ 10) : -500000 ≤ g i := by
  refine Classical.byContradiction (fun q => ?_)
  have h1 := (grt8_lay hB hL hg (fun k => -((k : Int) * 50000)) (by decide) (fun k => by show -(((k + 1 : Nat) : Int) * 50000) = -((k : Int) * 50000) - 50000; omega) 10).2 ⟨i, hi, by show g i < -(((10 : Nat) : Int) * 50000); omega⟩
  have h2 := cnl8_pos (g := g) (t := -(((10 : Nat) : Int) * 50000)) (j := i) (by omega) 11 (by omega)
  have h3 : cnl8 g (-(((10 : Nat) : Int) * 50000)) 11 + 10 ≤ 10 := h1
  omega
/-- a bound more: where it comes from stays, if there are such numbers at all -/
theorem grt8_keep {L L' : Nat → Nat → Int → Prop} {a g : Nat → Int} {x0 y0 : Nat} {m0 : Int} (hy : y0 ≤ 10) (ha : grt8 (sol8 L) a) (e : ∀ v, sol8 L' v ↔ (sol8 L v ∧ v x0 ≤ v y0 + m0)) (hL : in10 L) (hx : x0 ≤ 10) (hg : grt8 (sol8 L') g) : g y0 = a y0 := by
  obtain ⟨g1, g2⟩ := (e g).mp hg.1
  have hle := ha.2 g g1
  have h0 := hle y0 hy
  have hw : sol8 L' (fun i => min (a i) (g i + (a y0 - g y0))) := by
    refine (e _).mpr ⟨⟨fun i hi => ?_, fun x y m hm => ?_⟩, ?_⟩
    · have := ha.1.1 i hi
      show min (a i) (g i + (a y0 - g y0)) ≤ 0
      omega
    · have q1 := ha.1.2 x y m hm
      have q2 := g1.2 x y m hm
      show min (a x) (g x + (a y0 - g y0)) ≤ min (a y) (g y + (a y0 - g y0)) + m
      omega
    · show min (a x0) (g x0 + (a y0 - g y0)) ≤ min (a y0) (g y0 + (a y0 - g y0)) + m0
      omega
  have h1 := hg.2 _ hw y0 hy
  have h2 : min (a y0) (g y0 + (a y0 - g y0)) ≤ g y0 := h1
  omega
