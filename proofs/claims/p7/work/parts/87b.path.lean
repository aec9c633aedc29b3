def i2n (x : Int32) : Nat := x.toBitVec.toNat
theorem nI_i2n (x : Int32) : nI (i2n x) = x := by
  apply Int32.toBitVec_inj.mp
  apply BitVec.eq_of_toNat_eq
  show (Int32.ofNat x.toBitVec.toNat).toBitVec.toNat = _
  rw [Int32.toBitVec_ofNat', BitVec.toNat_ofNat]
  exact Nat.mod_eq_of_lt x.toBitVec.isLt
def psm (sf pa : Nat → Nat) : Nat → Nat
  | 0 => 0
  | k + 1 => psm sf pa k + sf (pa k)
theorem psm_congr {sf pa pa' : Nat → Nat} : ∀ {n : Nat}, (∀ i, i < n → pa' i = pa i) → psm sf pa' n = psm sf pa n
  | 0, _ => rfl
  | n + 1, h => by
    show psm sf pa' n + sf (pa' n) = psm sf pa n + sf (pa n)
    rw [psm_congr (fun i hi => h i (by omega)), h n (by omega)]
theorem psm_0 {sf pa : Nat → Nat} {n : Nat} : psm sf pa (n + 1) = psm sf pa n + sf (pa n) := rfl
theorem psm_1 {sf pa : Nat → Nat} {n v : Nat} : psm sf (sup pa n v) (n + 1) = psm sf pa n + sf v := by
  rw [psm_0, sup_eq, psm_congr (fun i hi => sup_ne (by omega))]
theorem psm_2 {sf pa : Nat → Nat} {n v w : Nat} : psm sf (sup (sup pa n v) (n + 1) w) (n + 2) = psm sf pa n + sf v + sf w := by
  rw [psm_0, sup_eq, psm_congr (pa := sup pa n v) (fun i hi => sup_ne (by omega)), psm_1]
theorem psm_ge {sf pa : Nat → Nat} : ∀ {n : Nat}, (∀ i, i < n → 1 ≤ sf (pa i)) → n ≤ psm sf pa n
  | 0, _ => Nat.le_refl _
  | n + 1, h => by
    have h1 := psm_ge (fun i hi => h i (by omega)) (n := n)
    have h2 := h n (by omega)
    rw [psm_0]; omega
/-- the places of a path that wait -/
def pth (pa : Nat → Nat) (q n : Nat) : Prop := ∀ i, i < n → pa i < q
theorem pth.s1 {pa : Nat → Nat} {q n v : Nat} (h : pth pa q (n + 1)) (hv : v < q) : pth (sup pa n v) q (n + 1) := fun i hi => by
  by_cases e : i = n
  · subst e; rw [sup_eq]; exact hv
  · rw [sup_ne e]; exact h i hi
theorem pth.s2 {pa : Nat → Nat} {q n v w : Nat} (h : pth pa q (n + 1)) (hv : v < q) (hw : w < q) : pth (sup (sup pa n v) (n + 1) w) q (n + 2) := fun i hi => by
  by_cases e : i = n + 1
  · subst e; rw [sup_eq]; exact hw
  · rw [sup_ne e]; exact h.s1 hv i (by omega)
theorem pth.dn {pa : Nat → Nat} {q n : Nat} (h : pth pa q (n + 1)) : pth pa q n := fun i hi => h i (by omega)
theorem mea.pos {kp : Nat → Int32} {fr q n : Nat} {sz wt wf pa : Nat → Nat} (h : mea kp fr q sz wt wf) (hp : pth pa q n) : n ≤ psm sz pa n := psm_ge (fun i hi => (h _ (hp i hi)).1)
/-- a condition that is made, and what is known of the one that was looked at -/
def mad (lo : Int32) (cn kt : Nat) (kp : Nat → Int32) (ca cz sf wt wf : Nat → Nat) : Prop := cds kp ca cz cn kt 8300 ∧ cn ≤ 33 ∧ kt ≤ 30000 ∧ ∀ j, j < cn → lo = nI j → mea kp (ca j) (cz j) sf wt wf ∧ szs kp (ca j) (cz j) sf
theorem mad.new {cn kt : Nat} {kp : Nat → Int32} {ca cz sf wt wf : Nat → Nat} (h : cds kp ca cz cn kt 8300) (h1 : cn ≤ 33) (h2 : kt ≤ 30000) : mad (-1) cn kt kp ca cz sf wt wf := ⟨h, h1, h2, fun j hj e => absurd e.symm (nIm1 (by omega))⟩
theorem mad.look {lo : Int32} {cn kt j1 : Nat} {kp : Nat → Int32} {ca cz sf wt wf sf' wt' wf' : Nat → Nat} (h : mad lo cn kt kp ca cz sf wt wf) (hj : j1 < cn) (h1 : mea kp (ca j1) (cz j1) sf' wt' wf') (h2 : szs kp (ca j1) (cz j1) sf') : mad (nI j1) cn kt kp ca cz sf' wt' wf' := by
  obtain ⟨a1, a2, a3, a4⟩ := h
  refine ⟨a1, a2, a3, fun j hj2 e => ?_⟩
  have := (nI_eq (a := j1) (b := j) (by omega) (by omega)).mp e
  subst this; exact ⟨h1, h2⟩
theorem mad.at {lo : Int32} {cn kt j1 : Nat} {kp : Nat → Int32} {ca cz sf wt wf : Nat → Nat} (h : mad lo cn kt kp ca cz sf wt wf) (hj : j1 < cn) : fml kp (ca j1) (cz j1) ∧ ca j1 + cz j1 ≤ 30000 ∧ 1 ≤ cz j1 ∧ cz j1 ≤ 8300 ∧ cn ≤ 33 := by
  obtain ⟨a1, a2, a3, a4⟩ := h
  obtain ⟨b1, b2, b3⟩ := a1 j1 hj
  exact ⟨b1, by omega, b1.pos, b3, a2⟩
theorem pth_1 {pa : Nat → Nat} {q v : Nat} (hv : v < q) : pth (sup pa 0 v) q 1 := fun i hi => by
  rw [show i = 0 by omega, sup_eq]; exact hv
