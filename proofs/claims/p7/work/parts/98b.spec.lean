def ck (tk : Nat → Nat) : Nat → Nat := fun i => tk i % 128
def nxs (i : Nat) : Nat := i + 1
section CT
variable {tk : Nat → Nat} {gh tf ta nx am cn b1 tf1 ta1 n1 am1 tf2 ta2 n2 am2 tf3 ta3 n3 tf4 ta4 : Nat}
theorem rst.ck (h : rst tk tf nx am ta cn) (hf : tf = 4294967295) : ck tk ta = nx := (h.srt hf).symm
/-- a term: nothing changes behind a fault; else it is read -/
def ctS (tk : Nat → Nat) (gh tf ta tf2 ta2 : Nat) : Prop := (¬ tf = 4294967295 → tf2 = tf ∧ ta2 = ta) ∧ (tf = 4294967295 → trmG (ck tk) nxs gh ta = (ftf tf2, ta2))
def tA (tk : Nat → Nat) (gh tf ta b1 tf1 ta1 : Nat) : Prop := (b1 = 10 ∧ tf1 = tf ∧ ta1 = ta ∧ (tf = 4294967295 → ¬ (ck tk ta = 2 ∨ (gh = 1 ∧ ck tk ta = 3)))) ∨ (b1 ≠ 10 ∧ tf = 4294967295 ∧ tf1 = 4294967295 ∧ ta1 = ta + 1 ∧ (ck tk ta = 2 ∨ (gh = 1 ∧ ck tk ta = 3)) ∧ (ck tk (ta + 1) = 43 ∨ ck tk (ta + 1) = 45))
def tC (tk : Nat → Nat) (gh tf ta tf2 ta2 : Nat) : Prop := (¬ tf = 4294967295 → tf2 = tf ∧ ta2 = ta) ∧ (tf = 4294967295 → tf2 = 4294967295 ∧ trmG (ck tk) nxs gh ta = if ck tk ta2 = 4 then (0, ta2 + 1) else (1, ta2))
def tD (tk : Nat → Nat) (gh tf ta tf3 ta3 n3 : Nat) : Prop := (¬ tf = 4294967295 → tf3 = tf ∧ ta3 = ta) ∧ (tf = 4294967295 → (n3 = 4 → tf3 = 4294967295 ∧ trmG (ck tk) nxs gh ta = (0, ta3 + 1)) ∧ (¬ n3 = 4 → ftf tf3 = 1 ∧ trmG (ck tk) nxs gh ta = (1, ta3)))
theorem tA_0 (hr : rst tk tf nx am ta cn) (h : ¬ (nx = 2 ∨ (gh = 1 ∧ nx = 3))) : tA tk gh tf ta 10 tf ta := Or.inl ⟨rfl, rfl, rfl, fun q => by rw [hr.ck q]; exact h⟩
theorem tA_1 (hok : tf = 4294967295) (hr : rst tk tf nx am ta cn) (hn : nx = 2 ∨ (gh = 1 ∧ nx = 3)) (hr1 : rst tk tf1 n1 am1 ta1 cn) (e1 : okf tf (ta1 = ta + 1)) (e2 : tf1 = tf) (hs : n1 = 43 ∨ n1 = 45) (hb : b1 ≠ 10) : tA tk gh tf ta b1 tf1 ta1 := by
  have e3 := e1 hok
  have h1 := hr1.ck (e2.trans hok)
  rw [e3] at h1
  exact Or.inr ⟨hb, hok, e2.trans hok, e3, by rw [hr.ck hok]; exact hn, by rw [h1]; exact hs⟩
theorem ct_a (hok : tf = 4294967295) (hr : rst tk tf nx am ta cn) (hn : nx = 2 ∨ (gh = 1 ∧ nx = 3)) (hr1 : rst tk tf1 n1 am1 ta1 cn) (e1 : okf tf (ta1 = ta + 1)) (e2 : tf1 = tf) (hs : ¬ (n1 = 43 ∨ n1 = 45)) : ctS tk gh tf ta tf1 ta1 := by
  have e3 := e1 hok
  have h1 := hr1.ck (e2.trans hok)
  rw [e3] at h1
  refine ⟨fun q => absurd hok q, fun _ => ?_⟩
  unfold trmG
  rw [hr.ck hok, if_pos hn, show nxs ta = ta + 1 from rfl, h1, if_neg hs, e2, hok, e3]; rfl
theorem tC_p (hA : tA tk gh tf ta b1 tf1 ta1) (hr1 : rst tk tf1 n1 am1 ta1 cn) (hp : n1 = 45 ∨ (n1 = 43 ∧ b1 ≠ 10)) (e1 : okf tf1 (ta2 = ta1 + 1)) (e2 : tf2 = tf1) : tC tk gh tf ta tf2 ta2 := by
  have hok1 : tf1 = 4294967295 := (hr1.go (by omega) (by omega)).1
  have e3 := e1 hok1
  have h1 := hr1.ck hok1
  rcases hA with ⟨a1, a2, a3, a4⟩ | ⟨a1, a2, a3, a4, a5, a6⟩
  · have hok : tf = 4294967295 := a2.symm.trans hok1
    refine ⟨fun q => absurd hok q, fun _ => ⟨e2.trans hok1, ?_⟩⟩
    rw [a3] at h1 e3
    unfold trmG
    rw [if_neg (a4 hok), h1, if_pos (by omega), e3]; rfl
  · refine ⟨fun q => absurd a2 q, fun _ => ⟨e2.trans hok1, ?_⟩⟩
    rw [a4] at e3
    unfold trmG
    rw [if_pos a5, show nxs ta = ta + 1 from rfl, if_pos a6, e3]; rfl
theorem tC_n (hA : tA tk gh tf ta b1 tf1 ta1) (hr1 : rst tk tf1 n1 am1 ta1 cn) (hp : ¬ (n1 = 45 ∨ (n1 = 43 ∧ b1 ≠ 10))) : tC tk gh tf ta tf1 ta1 := by
  rcases hA with ⟨a1, a2, a3, a4⟩ | ⟨a1, a2, a3, a4, a5, a6⟩
  · refine ⟨fun _ => ⟨a2, a3⟩, fun hok => ⟨a2.trans hok, ?_⟩⟩
    have h1 := hr1.ck (a2.trans hok)
    rw [a3] at h1 ⊢
    unfold trmG
    rw [if_neg (a4 hok), h1, if_neg (by omega)]; rfl
  · have h1 := hr1.ck a3
    rw [a4] at h1
    rw [h1] at a6
    exact absurd (show n1 = 45 ∨ (n1 = 43 ∧ b1 ≠ 10) by omega) hp
theorem tD_y (hC : tC tk gh tf ta tf2 ta2) (hr : rst tk tf2 n2 am2 ta2 cn) (h4 : n2 = 4) : tD tk gh tf ta tf2 ta2 n2 := by
  refine ⟨hC.1, fun hok => ⟨fun _ => ?_, fun q => absurd h4 q⟩⟩
  obtain ⟨c1, c2⟩ := hC.2 hok
  rw [hr.ck c1, if_pos h4] at c2
  exact ⟨c1, c2⟩
theorem tD_n (hC : tC tk gh tf ta tf2 ta2) (hr : rst tk tf2 n2 am2 ta2 cn) (h4 : ¬ n2 = 4) (e1 : ta3 = ta2) (e2 : tf3 < 2 ^ 31) (e3 : stq tf2 tf3 tf2) (e4 : n3 = 1) : tD tk gh tf ta tf3 ta3 n3 := by
  refine ⟨fun q => ?_, fun hok => ⟨fun q => by omega, fun _ => ?_⟩⟩
  · obtain ⟨c1, c2⟩ := hC.1 q
    exact ⟨(e3.res (by rw [c1]; exact q)).trans c1, e1.trans c2⟩
  · obtain ⟨c1, c2⟩ := hC.2 hok
    rw [hr.ck c1, if_neg h4] at c2
    exact ⟨ftf_bad e2, by rw [e1]; exact c2⟩
theorem ct_f (hD : tD tk gh tf ta tf3 ta3 n3) (hn3 : n3 = 4 ∨ n3 = 1) (e1 : okf tf3 (ta4 = ta3 + 1)) (e2 : tf4 = tf3) (e3 : stq tf3 ta4 ta3) : ctS tk gh tf ta tf4 ta4 := by
  refine ⟨fun q => ?_, fun hok => ?_⟩
  · obtain ⟨c1, c2⟩ := hD.1 q
    exact ⟨e2.trans c1, (e3.res (by rw [c1]; exact q)).trans c2⟩
  · by_cases h4 : n3 = 4
    · obtain ⟨c1, c2⟩ := (hD.2 hok).1 h4
      rw [c2, e1 c1, e2, c1]; rfl
    · obtain ⟨c1, c2⟩ := (hD.2 hok).2 h4
      rw [c2, e3.res (ftf_1 c1), e2, c1]
/-- an atom -/
def caS (tk : Nat → Nat) (gh tf ta a tf2 ta2 a2 : Nat) : Prop := (¬ tf = 4294967295 → tf2 = tf ∧ ta2 = ta) ∧ (tf = 4294967295 → (a = 8 → ftf tf2 = 1 ∧ ta2 = ta) ∧ (¬ a = 8 → a2 = a + 1 ∧ atmG (ck tk) nxs gh ta = (ftf tf2, ta2)))
theorem ca_r {a a2 : Nat} (ha : a = 8) (e1 : ta2 = ta) (e2 : tf2 < 2 ^ 31) (e3 : stq tf tf2 tf) : caS tk gh tf ta a tf2 ta2 a2 := ⟨fun q => ⟨e3.res q, e1⟩, fun _ => ⟨fun _ => ⟨ftf_bad e2, e1⟩, fun q => absurd ha q⟩⟩
theorem ca_m {a a2 : Nat} (ha : ¬ a = 8) (h1 : ctS tk gh tf ta tf1 ta1) (hr1 : rst tk tf1 n1 am1 ta1 cn) (h2 : ndS tf1 ta1 n1 5 tf2 ta2) (h3 : ctS tk gh tf2 ta2 tf3 ta3) (e : a2 = a + 1) : caS tk gh tf ta a tf3 ta3 a2 := by
  refine ⟨fun q => ?_, fun hok => ⟨fun q => absurd q ha, fun _ => ⟨e, ?_⟩⟩⟩
  · obtain ⟨c1, c2⟩ := h1.1 q
    obtain ⟨d1, d2⟩ := h2.1 (by rw [c1]; exact q)
    obtain ⟨f1, f2⟩ := h3.1 (by rw [d1, c1]; exact q)
    exact ⟨f1.trans (d1.trans c1), f2.trans (d2.trans c2)⟩
  · have t1 := h1.2 hok
    by_cases c : tf1 = 4294967295
    · have hk := hr1.ck c
      by_cases c5 : n1 = 5
      · obtain ⟨d1, d2⟩ := (h2.2 c).1 c5
        have t3 := h3.2 d1
        rw [d2] at t3
        exact atm_c t1 (by rw [c]; rfl) (hk.trans c5) t3 rfl
      · obtain ⟨d1, d2⟩ := (h2.2 c).2 c5
        obtain ⟨f1, f2⟩ := h3.1 (ftf_1 d1)
        rw [f1, d1, f2, d2]
        exact atm_b t1 (by rw [c]; rfl) (by rw [hk]; exact c5)
    · obtain ⟨d1, d2⟩ := h2.1 c
      obtain ⟨f1, f2⟩ := h3.1 (by rw [d1]; exact c)
      rw [f1, d1, f2, d2, ftf_n c]
      exact atm_a t1 (ftf_n c)
/-- a part, or parts with signs between: from here on as there -/
def cpt (tk : Nat → Nat) (gh tf ta a : Nat) (sg : List Nat) (tf2 ta2 a2 : Nat) : Prop := (¬ tf = 4294967295 → tf2 = tf ∧ ta2 = ta) ∧ (tf = 4294967295 → (¬ tf2 = 4294967295 → rdR (ck tk) nxs gh true ta sg a (1, ta2)) ∧ (tf2 = 4294967295 → a + 1 ≤ a2 ∧ ∀ r, rdR (ck tk) nxs gh false ta2 (pnt sg) a2 r → rdR (ck tk) nxs gh true ta sg a r))
end CT
section CP
variable {tk : Nat → Nat} {gh tf ta nx am cn tf1 ta1 n1 am1 tf2 ta2 n2 am2 tf3 ta3 n3 a a1 a2 a3 : Nat} {sg : List Nat}
theorem cpt.ge (h : cpt tk gh tf ta a sg tf2 ta2 a2) (hf : tf = 4294967295) (hq : tf2 = 4294967295) : a + 1 ≤ a2 := ((h.2 hf).2 hq).1
theorem cp_atom (hr : rst tk tf nx am ta cn) (hk : ¬ (nx = 33 ∨ nx = 40)) (h : caS tk gh tf ta a tf2 ta2 a2) : cpt tk gh tf ta a sg tf2 ta2 a2 := by
  refine ⟨h.1, fun hok => ?_⟩
  have hc := hr.ck hok
  have hk2 : ¬ (ck tk ta = 33 ∨ ck tk ta = 40) := by rw [hc]; exact hk
  by_cases h8 : a = 8
  · obtain ⟨c1, c2⟩ := (h.2 hok).1 h8
    refine ⟨fun _ => ?_, fun q => absurd q (ftf_1 c1)⟩
    rw [c2]; exact rdR.fl hk2 h8
  · obtain ⟨c1, c2⟩ := (h.2 hok).2 h8
    refine ⟨fun q => ?_, fun q => ⟨by omega, fun r hr2 => ?_⟩⟩
    · rw [ftf_n q] at c2
      exact rdR.ab hk2 h8 c2
    · rw [q] at c2
      exact rdR.atm hk2 h8 c2 (by rw [← c1]; exact hr2)
theorem cp_ref (hr : rst tk tf nx am ta cn) (hk : nx = 33 ∨ nx = 40) (hl : sg.length = 10) (e1 : ta2 = ta) (e2 : tf2 < 2 ^ 31) (e3 : stq tf tf2 tf) : cpt tk gh tf ta a sg tf2 ta2 a2 := by
  refine ⟨fun q => ⟨e3.res q, e1⟩, fun hok => ⟨fun _ => ?_, fun q => by omega⟩⟩
  rw [e1]
  exact rdR.dp (by rw [hr.ck hok]; exact hk) hl
theorem cp_not (hok : tf = 4294967295) (hr : rst tk tf nx am ta cn) (hk : nx = 33) (hl : ¬ sg.length = 10) (ep : ta1 = ta + 1) (et : tf1 = tf) (h : cpt tk gh tf1 ta1 a (1 :: sg) tf2 ta2 a2) : cpt tk gh tf ta a sg tf2 ta2 a2 := by
  have hc := (hr.ck hok).trans hk
  obtain ⟨c1, c2⟩ := h.2 (et.trans hok)
  refine ⟨fun q => absurd hok q, fun _ => ⟨fun q => ?_, fun q => ⟨(c2 q).1, fun r hr2 => ?_⟩⟩⟩
  · have := c1 q
    rw [ep] at this
    exact rdR.nt hc hl this
  · have := (c2 q).2 r (by rw [pnt_1]; exact hr2)
    rw [ep] at this
    exact rdR.nt hc hl this
theorem cp_par (hok : tf = 4294967295) (hr : rst tk tf nx am ta cn) (hk : nx = 40) (hl : ¬ sg.length = 10) (ep : ta1 = ta + 1) (et : tf1 = tf) (h : cpt tk gh tf1 ta1 a (9 :: sg) tf2 ta2 a2) (ho : okf tf2 (¬ n2 = 38 ∧ ¬ n2 = 124)) (hr2 : rst tk tf2 n2 am2 ta2 cn) (hn : ndS tf2 ta2 n2 41 tf3 ta3) : cpt tk gh tf ta a sg tf3 ta3 a2 := by
  have hc := (hr.ck hok).trans hk
  obtain ⟨c1, c2⟩ := h.2 (et.trans hok)
  rw [ep] at c1 c2
  by_cases q2 : tf2 = 4294967295
  · have hk2 := hr2.ck q2
    obtain ⟨o1, o2⟩ := ho q2
    obtain ⟨g1, g2⟩ := c2 q2
    rw [pnt_9] at g2
    have hao : ¬ (ck tk ta2 = 38 ∨ ck tk ta2 = 124) := by rw [hk2]; omega
    by_cases q41 : n2 = 41
    · obtain ⟨d1, d2⟩ := (hn.2 q2).1 q41
      refine ⟨fun q => absurd hok q, fun _ => ⟨fun q => absurd d1 q, fun _ => ⟨g1, fun r hr3 => ?_⟩⟩⟩
      exact rdR.pa hc hl (g2 r (rdR.cl (hk2.trans q41) List.mem_cons_self (by rw [d2] at hr3; exact hr3)))
    · obtain ⟨d1, d2⟩ := (hn.2 q2).2 q41
      refine ⟨fun q => absurd hok q, fun _ => ⟨fun _ => ?_, fun q => absurd q (ftf_1 d1)⟩⟩
      rw [d2]
      exact rdR.pa hc hl (g2 _ (rdR.ub hao (by rw [hk2]; exact q41) List.mem_cons_self))
  · obtain ⟨d1, d2⟩ := hn.1 q2
    refine ⟨fun q => absurd hok q, fun _ => ⟨fun _ => ?_, fun q => absurd (d1.symm.trans q) q2⟩⟩
    rw [d2]
    exact rdR.pa hc hl (c1 q2)
theorem cp_bin (h : cpt tk gh tf ta a sg tf1 ta1 a1) (hok : tf1 = 4294967295) (hr1 : rst tk tf1 n1 am1 ta1 cn) (hk : n1 = 38 ∨ n1 = 124) (hpn : pnt sg = sg) (ep : ta2 = ta1 + 1) (et : tf2 = tf1) (h2 : cpt tk gh tf2 ta2 a1 sg tf3 ta3 a3) : cpt tk gh tf ta a sg tf3 ta3 a3 := by
  have hk1 : ck tk ta1 = 38 ∨ ck tk ta1 = 124 := by rw [hr1.ck hok]; exact hk
  obtain ⟨c1, c2⟩ := h2.2 (et.trans hok)
  rw [ep] at c1 c2
  refine ⟨fun q => absurd ((h.1 q).1.symm.trans hok) q, fun hf => ?_⟩
  obtain ⟨g1, g2⟩ := (h.2 hf).2 hok
  rw [hpn] at g2
  exact ⟨fun q => g2 _ (rdR.op hk1 (c1 q)), fun q => ⟨by have := (c2 q).1; omega, fun r hr2 => g2 r (rdR.op hk1 ((c2 q).2 r hr2))⟩⟩
/-- a condition, whole -/
def cnS (tk : Nat → Nat) (gh tf ta tf2 ta2 : Nat) : Prop := (¬ tf = 4294967295 → tf2 = tf ∧ ta2 = ta) ∧ (tf = 4294967295 → rdR (ck tk) nxs gh true ta [] 0 (ftf tf2, ta2))
theorem cn_of (h : cpt tk gh tf ta 0 [] tf2 ta2 a2) (ho : okf tf2 (¬ n2 = 38 ∧ ¬ n2 = 124)) (hr : rst tk tf2 n2 am2 ta2 cn) : cnS tk gh tf ta tf2 ta2 := by
  refine ⟨h.1, fun hok => ?_⟩
  obtain ⟨c1, c2⟩ := h.2 hok
  by_cases q : tf2 = 4294967295
  · obtain ⟨o1, o2⟩ := ho q
    have hf : ftf tf2 = 0 := by rw [q]; rfl
    rw [hf]
    exact (c2 q).2 _ (rdR.fin (by rw [hr.ck q]; omega) (by decide))
  · rw [ftf_n q]; exact c1 q
end CP
