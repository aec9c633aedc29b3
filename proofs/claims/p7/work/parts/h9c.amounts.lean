/-- the amount that is scanned at B -/
def scV (g : Nat → Nat) (n B : Nat) (am : Int32) : Prop := ¬ g B = 32 → (kd g n B = 2 ∨ kd g n B = 3 ∨ kd g n B = 4 ∨ kd g n B = 5) → i2n am % 1024 = kv g n B
def dvl (g : Nat → Nat) (B : Nat) : Nat → Nat
  | 0 => 0
  | k + 1 => 10 * dvl g B k + g (B + k) - 48
theorem dvl_lt {g : Nat → Nat} {B : Nat} : ∀ k, (∀ i, i < k → 48 ≤ g (B + i) ∧ g (B + i) ≤ 57) → dvl g B k < 10 ^ k
  | 0, _ => (show (0 : Nat) < 1 by decide)
  | k + 1, h => by
    have h1 := dvl_lt k (fun i hi => h i (by omega))
    have h2 := h k (by omega)
    show 10 * dvl g B k + g (B + k) - 48 < 10 ^ (k + 1)
    rw [Nat.pow_succ]; omega
section SCV
variable {g : Nat → Nat} {n B c e s : Nat} {am : Int32}
theorem dvV : ∀ (j q : Nat), e - q = j → B ≤ q → q ≤ e → e - B ≤ 3 → (∀ i, B ≤ i → i < q → 48 ≤ g i ∧ g i ≤ 57) → dgE g n (n - q) q = e → dgV g n (n - q) q (dvl g B (q - B)) = dvl g B (e - B) ∧ dvl g B (e - B) < 1000
  | 0, q, hj, h1, h2, h3, hd, he => by
    have hqe : q = e := by omega
    have hb : dvl g B (q - B) < 10 ^ (q - B) := dvl_lt _ (fun i hi => hd _ (by omega) (by omega))
    have hp : 10 ^ (q - B) ≤ 10 ^ 3 := Nat.pow_le_pow_right (by decide) (by omega)
    have hs : ¬ (48 ≤ bt g n q ∧ bt g n q ≤ 57) := by
      intro c
      have e1 := dgE_step c
      have hin := dg_in c
      have e2 := (dgE_le (g := g) (n := n) (n - (q + 1)) (q + 1) (by omega)).2
      omega
    rw [dgV_stop hs, hqe] at *
    exact ⟨rfl, by omega⟩
  | j + 1, q, hj, h1, h2, h3, hd, he => by
    have hc : 48 ≤ bt g n q ∧ bt g n q ≤ 57 := by
      by_cases c : 48 ≤ bt g n q ∧ bt g n q ≤ 57
      · exact c
      · have : dgE g n (n - q) q = q := by
          cases hk : n - q with
          | zero => rfl
          | succ k => exact if_neg c
        omega
    have hin := dg_in hc
    have hb : dvl g B (q - B) < 10 ^ (q - B) := dvl_lt _ (fun i hi => hd _ (by omega) (by omega))
    have hp : 10 ^ (q - B) ≤ 10 ^ 3 := Nat.pow_le_pow_right (by decide) (by omega)
    have hg : 48 ≤ g q ∧ g q ≤ 57 := by rw [bt_in hin] at hc; exact hc
    have ih := dvV j (q + 1) (by omega) (by omega) (by omega) h3 (fun i a b => by
      rcases Nat.eq_or_lt_of_le (show i ≤ q by omega) with e9 | e9
      · rw [e9]; exact hg
      · exact hd i a e9) ((dgE_step hc).symm.trans he)
    rw [dgV_step hc, if_pos (by omega)]
    have e1 : dvl g B (q + 1 - B) = 10 * dvl g B (q - B) + g q - 48 := by
      rw [show q + 1 - B = (q - B) + 1 by omega]
      show 10 * dvl g B (q - B) + g (B + (q - B)) - 48 = _
      rw [show B + (q - B) = q by omega]
    rw [e1] at ih
    exact ih
/-- digits, as far as they were added up -/
def dgI (g : Nat → Nat) (B e : Nat) (am : Int32) : Prop := e - B ≤ 3 → am = nI (dvl g B (e - B)) ∧ dvl g B (e - B) < 10 ^ (e - B)
theorem dgI_0 (h : am = 0) : dgI g B B am := fun _ => by
  rw [Nat.sub_self]
  exact ⟨h, (show (0 : Nat) < 1 by decide)⟩
theorem dgI_s {d : Nat} {x z1 z2 z3 : Int32} (h : dgI g B e am) (hB : B ≤ e) (hg : g e = d) (ha : 48 ≤ d) (hb : d ≤ 57) (hx : x = nI d) (e1 : z1 = 10 * am) (e2 : z2 = z1 + x) (e3 : z3 = z2 - 48) : dgI g B (e + 1) z3 := by
  intro q
  obtain ⟨h1, h2⟩ := h (by omega)
  have hp : 10 ^ (e - B) ≤ 10 ^ 2 := Nat.pow_le_pow_right (by decide) (by omega)
  have ev : dvl g B (e + 1 - B) = 10 * dvl g B (e - B) + d - 48 := by
    rw [show e + 1 - B = (e - B) + 1 by omega]
    show 10 * dvl g B (e - B) + g (B + (e - B)) - 48 = _
    rw [show B + (e - B) = e by omega, hg]
  rw [ev]
  refine ⟨?_, ?_⟩
  · rw [e3, e2, e1, hx, h1, show (10 : Int32) = nI 10 from rfl, pk_mul, nI_add, show (48 : Int32) = nI 48 from rfl, pk_sub (by omega)]
  · rw [show e + 1 - B = (e - B) + 1 by omega, Nat.pow_succ]; omega
theorem scV_o (hs : scK g n B s) (h : ¬ (s = 2 ∨ s = 3 ∨ s = 4 ∨ s = 5)) : scV g n B am := fun h32 q => by
  unfold scK at hs
  rw [if_neg h32] at hs
  rw [← hs] at q
  exact absurd q h
theorem scV_32 (h : g B = 32) : scV g n B am := fun h32 _ => absurd h h32
theorem sgv_2 (h0 : B < n) (hl : ¬ (97 ≤ g B ∧ g B ≤ 122)) (hd : ¬ (48 ≤ g B ∧ g B ≤ 57)) (hc : g B = c) (h2 : c = 58 ∨ c = 60 ∨ c = 62) (h61 : bt g n (B + 1) = 61) (hv : ∀ v, i2n am % 1024 = kvo (700 + c) v) : scV g n B am := fun _ _ => by
  have hk : tkK g n B = 700 + c := by rw [sg_K h0 hl hd, if_pos ⟨by omega, h61⟩, hc]
  unfold kv
  rw [hk]; exact hv _
theorem sgv_1 (h0 : B < n) (hl : ¬ (97 ≤ g B ∧ g B ≤ 122)) (hd : ¬ (48 ≤ g B ∧ g B ≤ 57)) (hc : g B = c) (h2 : c = 60 ∨ c = 62 ∨ c = 61 ∨ c = 35) (h61 : ¬ ((c = 58 ∨ c = 60 ∨ c = 62) ∧ bt g n (B + 1) = 61)) (hv : ∀ v, i2n am % 1024 = kvo (200 + c) v) : scV g n B am := fun _ _ => by
  have h61' : ¬ ((g B = 58 ∨ g B = 60 ∨ g B = 62) ∧ bt g n (B + 1) = 61) := by rw [hc]; exact h61
  have hk : tkK g n B = 200 + c := by rw [sg_K h0 hl hd, if_neg h61', if_pos (by omega), hc]
  unfold kv
  rw [hk]; exact hv _
theorem scv_d (h0 : B < n) (hd : 48 ≤ g B ∧ g B ≤ 57) (he : e = dgE g n (n - B) B) (hi : dgI g B e am) : scV g n B am := fun _ q => by
  have hl : ¬ (97 ≤ g B ∧ g B ≤ 122) := by omega
  have e2 : tkK g n B = (if dgE g n (n - B) B - B ≤ 3 then 3 else 1) := (if_neg (by omega)).trans ((if_neg hl).trans (if_pos hd))
  have e3 : tkV g n B 0 = dgV g n (n - B) B 0 := (if_neg (by omega)).trans ((if_neg hl).trans (if_pos hd))
  rw [← he] at e2
  by_cases c : e - B ≤ 3
  · rw [if_pos c] at e2
    have hle := (dgE_le (g := g) (n := n) (n - B) B (by omega)).2
    have hv := dvV (e := e) (B := B) (n := n) (g := g) (e - B) B rfl (Nat.le_refl _) (by omega) c (fun i a b => by omega) he.symm
    rw [Nat.sub_self] at hv
    obtain ⟨h1, _⟩ := hi c
    unfold kv
    rw [e2, e3, h1, i2n_nI (by omega)]
    have hv1 : dgV g n (n - B) B 0 = dvl g B (e - B) := hv.1
    show _ = kvo 3 (dgV g n (n - B) B 0)
    rw [hv1]
    show _ = dvl g B (e - B)
    have := hv.2
    omega
  · rw [if_neg c] at e2
    exfalso
    have : kd g n B = 1 := by rw [kd_ne2 (by omega), e2]; rfl
    omega
theorem scv_w {q : Nat} (h0 : B < n) (hl : 97 ≤ g B ∧ g B ≤ 122) (h1 : ltE g n (n - B) B = B + 1) (hg : g B = q) (hv : (q ≤ 102 ∧ i2n am % 1024 = q - 97) ∨ (119 ≤ q ∧ i2n am % 1024 = q - 119 + 6)) : scV g n B am := fun _ _ => by
  have e2 : tkK g n B = rwK g n B := (if_neg (by omega)).trans (if_pos hl)
  have e3 : tkV g n B 0 = rwV g n B 0 := (if_neg (by omega)).trans (if_pos hl)
  unfold kv
  rw [e2, e3]
  unfold rwK rwV
  rw [h1, hg]
  rcases hv with ⟨a, b⟩ | ⟨a, b⟩
  · rw [if_pos ⟨rfl, Or.inl a⟩, if_pos ⟨rfl, Or.inl a⟩, if_pos a, b]; rfl
  · rw [if_pos ⟨rfl, Or.inr a⟩, if_pos ⟨rfl, Or.inr a⟩, if_neg (by omega), b]; rfl
end SCV
