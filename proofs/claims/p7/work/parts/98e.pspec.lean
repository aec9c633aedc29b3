/-- a condition: where it ends or fails -/
def cnT (tk : Nat → Nat) (gh tf ta tf2 ta2 : Nat) : Prop := (¬ tf = 4294967295 → tf2 = tf ∧ ta2 = ta) ∧ (tf = 4294967295 → cdR (ck tk) nxs (cv tk) gh ta (ftf tf2, ta2))
theorem cng.cn {tk : Nat → Nat} {gh tf ta tf2 ta2 : Nat} {m : List sgT} (h : cng tk gh tf ta m tf2 ta2) : cnT tk gh tf ta tf2 ta2 := ⟨h.1, fun q => ⟨_, (h.2 q).1⟩⟩
/-- an assignment behind its variable; the heads of if and while behind their words -/
def asS (tk : Nat → Nat) (tf ta tf2 ta2 : Nat) : Prop := (¬ tf = 4294967295 → tf2 = tf ∧ ta2 = ta) ∧ (tf = 4294967295 → thR (ndR (ck tk) nxs 6 ta) (tmR (ck tk) nxs) (ftf tf2, ta2))
def ifH (tk : Nat → Nat) (ta : Nat) (r : Nat × Nat) : Prop := thR (cdR (ck tk) nxs (cv tk) 0 ta) (ndR (ck tk) nxs 9) r
def whH (tk : Nat → Nat) (ta : Nat) (r : Nat × Nat) : Prop := thR (thR (thR (cdR (ck tk) nxs (cv tk) 0 ta) (ndR (ck tk) nxs 13)) (cdR (ck tk) nxs (cv tk) 1)) (vrR (ck tk) nxs) r
/-- from behind the word at b0 on: the head, then what stands within (x: 2 if, 5 while) -/
def opC (tk : Nat → Nat) (H : Nat × Nat → Prop) (x b0 : Nat) (sg : List itT) (ln br lp : Nat) (pl : List itT) (r : Nat × Nat × List itT) : Prop := ∃ q, H q ∧ ((q.1 = 1 ∧ r = (1, q.2, [])) ∨ (¬ q.1 = 1 ∧ ∃ it, itc (ck tk) nxs (cv tk) b0 it ∧ pgR (ck tk) nxs (cv tk) true q.2 (gI (ln - 1) pl it :: sg) ln br lp (pl ++ [gI (ln - 1) pl it]) r))
theorem opC_i {tk : Nat → Nat} {H : Nat × Nat → Prop} {x b0 : Nat} {sg : List itT} {ln br lp f b : Nat} {pl : List itT} {it : itT} {r : Nat × Nat × List itT} (hH : H (f, b)) (hf : ¬ f = 1) (hi : itc (ck tk) nxs (cv tk) b0 it) (hr : pgR (ck tk) nxs (cv tk) true b (gI (ln - 1) pl it :: sg) ln br lp (pl ++ [gI (ln - 1) pl it]) r) : opC tk H x b0 sg ln br lp pl r := ⟨_, hH, Or.inr ⟨hf, it, hi, hr⟩⟩
/-- a while's ghost -/
def wgh (vv : Nat) (pl : List itT) : Nat := if vv = 2 then 6 + vct pl else 0
theorem gI_if {ln : Nat} {pl : List itT} {m : List sgT} (h : 1 ≤ ln) : gI (ln - 1) pl (2, 0, 0, (0, 0), m, []) = (2, ln, 0, (0, 0), m, []) := by
  unfold gI
  rw [if_neg (fun q => absurd q.1 (show ¬ (2 : Nat) = 5 by decide)), show ln - 1 + 1 = ln by omega]
theorem gI_wh {ln vv : Nat} {pl : List itT} {t9 : Nat × Int32} {m m9 : List sgT} (h : 1 ≤ ln) (hv : vv = 2 ∨ vv = 0) : gI (ln - 1) pl (5, 0, vv / 2, t9, m, m9) = (5, ln, wgh vv pl, t9, m, m9) := by
  unfold gI wgh
  rcases hv with rfl | rfl
  · rw [if_pos ⟨rfl, rfl⟩, if_pos rfl, show ln - 1 + 1 = ln by omega]
  · rw [if_neg (fun q => absurd q.2 (show ¬ (0 : Nat) = 1 by decide)), if_neg (by decide), show ln - 1 + 1 = ln by omega]
/-- if and while, whole, behind their words -/
def brS (tk : Nat → Nat) (x b0 tf ta : Nat) (sg : List itT) (ln br lp : Nat) (pl : List itT) (tf2 ta2 ln2 br2 lp2 : Nat) (pl2 : List itT) : Prop := (¬ tf = 4294967295 → tf2 = tf ∧ ta2 = ta) ∧ (tf = 4294967295 → (¬ tf2 = 4294967295 → opC tk (if x = 2 then ifH tk ta else whH tk ta) x b0 sg ln br lp pl (1, ta2, [])) ∧ (tf2 = 4294967295 → ∀ r, pgR (ck tk) nxs (cv tk) false ta2 sg ln2 br2 lp2 pl2 r → opC tk (if x = 2 then ifH tk ta else whH tk ta) x b0 sg ln br lp pl r))
/-- a statement, or statements -/
def psS (tk : Nat → Nat) (tf ta : Nat) (sg : List itT) (ln br lp : Nat) (pl : List itT) (tf2 ta2 ln2 br2 lp2 : Nat) (pl2 : List itT) : Prop := (¬ tf = 4294967295 → tf2 = tf ∧ ta2 = ta) ∧ (tf = 4294967295 → (¬ tf2 = 4294967295 → pgR (ck tk) nxs (cv tk) true ta sg ln br lp pl (1, ta2, [])) ∧ (tf2 = 4294967295 → ∀ r, pgR (ck tk) nxs (cv tk) false ta2 sg ln2 br2 lp2 pl2 r → pgR (ck tk) nxs (cv tk) true ta sg ln br lp pl r))
section CR
variable {tk : Nat → Nat} {tf ta cn t1 a1 n1 m1 t2 a2 n2 m2 t3 a3 n3 m3 t4 a4 n4 m4 t5 a5 n5 m5 t6 a6 n6 m6 ln br lp ln3 br3 lp3 ln5 br5 lp5 q : Nat} {sg : List itT} {pl pl3 pl5 : List itT}
/-- need: it stands there, or it fails -/
theorem nd_n (hr : rst tk t1 n1 m1 a1 cn) (h : ndS t1 a1 n1 q t2 a2) (hf : t1 = 4294967295) : ndR (ck tk) nxs q a1 (ftf t2, a2) := by
  unfold ndR
  rw [hr.ck hf]
  by_cases c : n1 = q
  · obtain ⟨d1, d2⟩ := (h.2 hf).1 c
    rw [if_pos c, d1, d2]; rfl
  · obtain ⟨d1, d2⟩ := (h.2 hf).2 c
    rw [if_neg c, d1, d2]
theorem as_of (hr : rst tk tf n1 m1 ta cn) (h : ndS tf ta n1 6 t2 a2) (h3 : ctS tk 0 t2 a2 t3 a3) : asS tk tf ta t3 a3 := by
  refine ⟨fun q => ?_, fun hok => ?_⟩
  · obtain ⟨d1, d2⟩ := h.1 q
    obtain ⟨f1, f2⟩ := h3.1 (by rw [d1]; exact q)
    exact ⟨f1.trans d1, f2.trans d2⟩
  · have hn := nd_n hr h hok
    by_cases c : t2 = 4294967295
    · exact thR.i hn (by rw [c]; rfl) (h3.2 c).symm
    · obtain ⟨f1, f2⟩ := h3.1 c
      rw [f1, f2, ftf_n c]
      exact thR.x hn (ftf_n c)
/-- the head of an if -/
theorem ih_of (h1 : cnT tk 0 tf ta t1 a1) (hr1 : rst tk t1 n1 m1 a1 cn) (h2 : ndS t1 a1 n1 9 t2 a2) (hok : tf = 4294967295) : ifH tk ta (ftf t2, a2) := by
  have c1 := h1.2 hok
  by_cases c : t1 = 4294967295
  · exact thR.i c1 (by rw [c]; rfl) (nd_n hr1 h2 c)
  · obtain ⟨d1, d2⟩ := h2.1 c
    rw [d1, d2, ftf_n c]
    exact thR.x c1 (ftf_n c)
theorem kp2 (h : ¬ tf = 4294967295) (h1 : t1 = tf) : ¬ t1 = 4294967295 := by rw [h1]; exact h
theorem br_of {b0 : Nat} {m : List sgT} (hl1 : 1 ≤ ln) (hb0 : ck tk b0 = 8) (hb1 : ta = b0 + 1) (hc : cng tk 0 tf ta m t1 a1) (hr1 : rst tk t1 n1 m1 a1 cn) (h2 : ndS t1 a1 n1 9 t2 a2) (h3 : psS tk t2 a2 ((2, ln, 0, (0, 0), m, []) :: sg) ln br lp (pl ++ [(2, ln, 0, (0, 0), m, [])]) t3 a3 ln3 br3 lp3 pl3) (ho3 : okf t3 (¬ n3 = 59)) (hr3 : rst tk t3 n3 m3 a3 cn) (h4 : ndS t3 a3 n3 10 t4 a4) (h5 : psS tk t4 a4 (it3 :: sg) ln3 br3 lp3 (pl3 ++ [it3]) t5 a5 ln5 br5 lp5 pl5) (ho5 : okf t5 (¬ n5 = 59)) (hr5 : rst tk t5 n5 m5 a5 cn) (h6 : ndS t5 a5 n5 11 t6 a6) : brS tk 2 b0 tf ta sg ln br lp pl t6 a6 ln5 br5 lp5 (pl5 ++ [it4]) := by
  have h1 := hc.cn
  refine ⟨fun q => ?_, fun hok => ?_⟩
  · obtain ⟨x1, y1⟩ := h1.1 q
    obtain ⟨x2, y2⟩ := h2.1 (kp2 q x1)
    obtain ⟨x3, y3⟩ := h3.1 (kp2 q (x2.trans x1))
    obtain ⟨x4, y4⟩ := h4.1 (kp2 q (x3.trans (x2.trans x1)))
    obtain ⟨x5, y5⟩ := h5.1 (kp2 q (x4.trans (x3.trans (x2.trans x1))))
    obtain ⟨x6, y6⟩ := h6.1 (kp2 q (x5.trans (x4.trans (x3.trans (x2.trans x1)))))
    exact ⟨x6.trans (x5.trans (x4.trans (x3.trans (x2.trans x1)))), y6.trans (y5.trans (y4.trans (y3.trans (y2.trans y1))))⟩
  · have hh := ih_of h1 hr1 h2 hok
    rw [if_pos rfl]
    by_cases c2 : t2 = 4294967295
    · have hh0 : ifH tk ta (0, a2) := by rw [c2] at hh; exact hh
      have c1 : t1 = 4294967295 := by
        by_cases q : t1 = 4294967295
        · exact q
        · exact absurd ((h2.1 q).1.symm.trans c2) q
      have hit : itc (ck tk) nxs (cv tk) b0 (2, 0, 0, (0, 0), m, []) := by
        have hr := (hc.2 hok).1
        rw [if_pos c1, c1] at hr
        exact Or.inr (Or.inr (Or.inl ⟨hb0, _, _, by rw [hb1] at hr; exact hr, rfl⟩))
      suffices hs : (¬ t6 = 4294967295 → pgR (ck tk) nxs (cv tk) true a2 ((2, ln, 0, (0, 0), m, []) :: sg) ln br lp (pl ++ [(2, ln, 0, (0, 0), m, [])]) (1, a6, [])) ∧ (t6 = 4294967295 → ∀ r, pgR (ck tk) nxs (cv tk) false a6 sg ln5 br5 lp5 (pl5 ++ [it4]) r → pgR (ck tk) nxs (cv tk) true a2 ((2, ln, 0, (0, 0), m, []) :: sg) ln br lp (pl ++ [(2, ln, 0, (0, 0), m, [])]) r) from ⟨fun q => opC_i hh0 (by decide) hit (by rw [gI_if hl1]; exact hs.1 q), fun q r hr => opC_i hh0 (by decide) hit (by rw [gI_if hl1]; exact hs.2 q r hr)⟩
      by_cases c3 : t3 = 4294967295
      · have g3 := (h3.2 c2).2 c3
        have k3 := hr3.ck c3
        have s3 := ho3 c3
        by_cases e3 : n3 = 10
        · obtain ⟨d4, b4⟩ := (h4.2 c3).1 e3
          have g3' : ∀ r, pgR (ck tk) nxs (cv tk) true a4 (it3 :: sg) ln3 br3 lp3 (pl3 ++ [it3]) r → pgR (ck tk) nxs (cv tk) true a2 ((2, ln, 0, (0, 0), m, []) :: sg) ln br lp (pl ++ [(2, ln, 0, (0, 0), m, [])]) r := fun r hr => g3 r (pgR.els rfl (k3.trans e3) (by rw [b4] at hr; exact hr))
          by_cases c5 : t5 = 4294967295
          · have g5 := (h5.2 d4).2 c5
            have k5 := hr5.ck c5
            have s5 := ho5 c5
            by_cases e5 : n5 = 11
            · obtain ⟨d6, b6⟩ := (h6.2 c5).1 e5
              exact ⟨fun q => absurd d6 q, fun _ r hr => g3' r (g5 r (pgR.fis rfl (k5.trans e5) (by rw [b6] at hr; exact hr)))⟩
            · obtain ⟨d6, b6⟩ := (h6.2 c5).2 e5
              refine ⟨fun _ => g3' _ (g5 _ ?_), fun q => absurd q (ftf_1 d6)⟩
              rw [b6]
              exact pgR.wrong (by rw [k5]; exact s5) (by rw [k5]; dsimp only [it3]; omega)
          · obtain ⟨d6, b6⟩ := h6.1 c5
            refine ⟨fun _ => g3' _ ?_, fun q => absurd (d6.symm.trans q) c5⟩
            rw [b6]
            exact (h5.2 d4).1 c5
        · obtain ⟨d4, b4⟩ := (h4.2 c3).2 e3
          have c4 := ftf_1 d4
          obtain ⟨x5, y5⟩ := h5.1 c4
          obtain ⟨x6, y6⟩ := h6.1 (kp2 c4 x5)
          refine ⟨fun _ => g3 _ ?_, fun q => absurd ((x6.trans x5).symm.trans q) c4⟩
          rw [y6, y5, b4]
          exact pgR.wrong (by rw [k3]; exact s3) (by rw [k3]; dsimp only; omega)
      · obtain ⟨x4, y4⟩ := h4.1 c3
        obtain ⟨x5, y5⟩ := h5.1 (kp2 c3 x4)
        obtain ⟨x6, y6⟩ := h6.1 (kp2 c3 (x5.trans x4))
        refine ⟨fun _ => ?_, fun q => absurd ((x6.trans (x5.trans x4)).symm.trans q) c3⟩
        rw [y6, y5, y4]
        exact (h3.2 c2).1 c3
    · obtain ⟨x3, y3⟩ := h3.1 c2
      obtain ⟨x4, y4⟩ := h4.1 (kp2 c2 x3)
      obtain ⟨x5, y5⟩ := h5.1 (kp2 c2 (x4.trans x3))
      obtain ⟨x6, y6⟩ := h6.1 (kp2 c2 (x5.trans (x4.trans x3)))
      rw [ftf_n c2] at hh
      refine ⟨fun _ => ⟨_, hh, Or.inl ⟨rfl, ?_⟩⟩, fun q => absurd ((x6.trans (x5.trans (x4.trans x3))).symm.trans q) c2⟩
      rw [y6, y5, y4, y3]
end CR
section CW
variable {tk : Nat → Nat} {tf ta cn t1 a1 n1 m1 t2 a2 n2 m2 t3 a3 n3 m3 t4 a4 n4 m4 t5 a5 n5 m5 t6 a6 n6 m6 t7 a7 n7 m7 t8 a8 n8 m8 ln br lp vv ln7 br7 lp7 q : Nat} {sg : List itT} {pl pl7 : List itT}
/-- perhaps a variant, then do: by what was done -/
def fvf (vv t : Nat) : Nat := if t = 4294967295 then vv else 1
theorem fvf_y {vv t : Nat} (h : t = 4294967295) : fvf vv t = vv := if_pos h
theorem fvf_n {vv t : Nat} (h : ¬ t = 4294967295) : fvf vv t = 1 := if_neg h
theorem fvf_0 {t : Nat} : fvf 0 t = ftf t := by
  by_cases c : t = 4294967295
  · rw [fvf_y c, c]; rfl
  · rw [fvf_n c, ftf_n c]
def vrS (tk : Nat → Nat) (vv tf ta tf2 ta2 : Nat) : Prop := (¬ tf = 4294967295 → tf2 = tf ∧ ta2 = ta) ∧ (tf = 4294967295 → vrR (ck tk) nxs ta (fvf vv tf2, ta2))
/-- as nd_n, telling by 2 -/
theorem nd_v (hr : rst tk t1 n1 m1 a1 cn) (h : ndS t1 a1 n1 q t2 a2) (hf : t1 = 4294967295) : ndV (ck tk) nxs q a1 (fvf 2 t2, a2) := by
  unfold ndV
  rw [hr.ck hf]
  by_cases c : n1 = q
  · obtain ⟨d1, d2⟩ := (h.2 hf).1 c
    rw [if_pos c, fvf_y d1, d2]; rfl
  · obtain ⟨d1, d2⟩ := (h.2 hf).2 c
    rw [if_neg c, fvf_n (ftf_1 d1), d2]
theorem vr_n (hr : rst tk t3 n3 m3 a3 cn) (hk : ¬ n3 = 14) (h : ndS t3 a3 n3 15 t6 a6) : vrS tk 0 t3 a3 t6 a6 := ⟨h.1, fun hok => Or.inr ⟨by rw [hr.ck hok]; exact hk, by rw [fvf_0]; exact nd_n hr h hok⟩⟩
theorem vr_y (hr : rst tk t3 n3 m3 a3 cn) (hk : n3 = 14) (hok : t3 = 4294967295) (ep : a4 = a3 + 1) (et : t4 = t3) (h5 : ctS tk 0 t4 a4 t5 a5) (hr5 : rst tk t5 n5 m5 a5 cn) (h6 : ndS t5 a5 n5 15 t6 a6) : vrS tk 2 t3 a3 t6 a6 := by
  refine ⟨fun q => absurd hok q, fun _ => Or.inl ⟨(hr.ck hok).trans hk, ?_⟩⟩
  have c5 := h5.2 (et.trans hok)
  rw [ep] at c5
  by_cases c : t5 = 4294967295
  · exact thR.i c5.symm (by rw [c]; rfl) (nd_v hr5 h6 c)
  · obtain ⟨d1, d2⟩ := h6.1 c
    rw [d1, d2, fvf_n c]
    exact thR.x c5.symm (ftf_n c)
theorem wh_of (h1 : cnT tk 0 tf ta t1 a1) (hr1 : rst tk t1 n1 m1 a1 cn) (h2 : ndS t1 a1 n1 13 t2 a2) (h3 : cnT tk 1 t2 a2 t3 a3) (h6 : vrS tk vv t3 a3 t6 a6) (hok : tf = 4294967295) : whH tk ta (fvf vv t6, a6) := by
  have c1 := h1.2 hok
  by_cases q1 : t1 = 4294967295
  · have c2 : thR (cdR (ck tk) nxs (cv tk) 0 ta) (ndR (ck tk) nxs 13) (ftf t2, a2) := thR.i c1 (by rw [q1]; rfl) (nd_n hr1 h2 q1)
    by_cases q2 : t2 = 4294967295
    · have c3 : thR (thR (cdR (ck tk) nxs (cv tk) 0 ta) (ndR (ck tk) nxs 13)) (cdR (ck tk) nxs (cv tk) 1) (ftf t3, a3) := thR.i c2 (by rw [q2]; rfl) (h3.2 q2)
      by_cases q3 : t3 = 4294967295
      · exact thR.i c3 (by rw [q3]; rfl) (h6.2 q3)
      · obtain ⟨d1, d2⟩ := h6.1 q3
        rw [d1, d2, fvf_n q3]
        exact thR.x c3 (ftf_n q3)
    · obtain ⟨d1, d2⟩ := h3.1 q2
      obtain ⟨f1, f2⟩ := h6.1 (kp2 q2 d1)
      rw [f1, d1, f2, d2, fvf_n q2]
      exact thR.x (thR.x c2 (ftf_n q2)) rfl
  · obtain ⟨e1, e2⟩ := h2.1 q1
    obtain ⟨d1, d2⟩ := h3.1 (kp2 q1 e1)
    obtain ⟨f1, f2⟩ := h6.1 (kp2 q1 (d1.trans e1))
    rw [f1, d1, e1, f2, d2, e2, fvf_n q1]
    exact thR.x (thR.x (thR.x c1 (ftf_n q1)) rfl) rfl
theorem wh_it {b0 : Nat} {m m9 : List sgT} {t9 : Nat × Int32} (hb0 : ck tk b0 = 12) (hb1 : ta = b0 + 1) (hok : tf = 4294967295) (hc : cng tk 0 tf ta m t1 a1) (hr1 : rst tk t1 n1 m1 a1 cn) (h2 : ndS t1 a1 n1 13 t2 a2) (hc3 : cng tk 1 t2 a2 m9 t3 a3) (h6 : vrS tk vv t3 a3 t6 a6) (c6 : t6 = 4294967295) (hvv : (vv = 2 ∧ t9 = trmV (ck tk) nxs (cv tk) 0 (a3 + 1)) ∨ (vv = 0 ∧ t9 = (0, 0))) : itc (ck tk) nxs (cv tk) b0 (5, 0, vv / 2, t9, m, m9) := by
  have c3 : t3 = 4294967295 := by
    by_cases q : t3 = 4294967295
    · exact q
    · exact absurd ((h6.1 q).1.symm.trans c6) q
  have c2 : t2 = 4294967295 := by
    by_cases q : t2 = 4294967295
    · exact q
    · exact absurd ((hc3.1 q).1.symm.trans c3) q
  have c1 : t1 = 4294967295 := by
    by_cases q : t1 = 4294967295
    · exact q
    · exact absurd ((h2.1 q).1.symm.trans c2) q
  have r1 := (hc.2 hok).1
  rw [if_pos c1, c1] at r1
  have r3 := (hc3.2 c2).1
  rw [if_pos c3, c3] at r3
  have k13 : n1 = 13 := by
    by_cases q : n1 = 13
    · exact q
    · exact absurd c2 (ftf_1 ((h2.2 c1).2 q).1)
  have e2 := ((h2.2 c1).1 k13).2
  rw [hb1] at r1
  rw [e2] at r3
  have hv := h6.2 c3
  rw [fvf_y c6] at hv
  refine Or.inr (Or.inr (Or.inr (Or.inl ⟨hb0, _, _, _, _, r1, (hr1.ck c1).trans k13, r3, ?_, ?_⟩)))
  · intro q
    rcases hv with ⟨_, hv⟩ | ⟨hv, _⟩
    · obtain ⟨q1, hq, hv⟩ := hv
      rcases hv with ⟨v1, v2⟩ | ⟨v1, _⟩
      · have : vv = 1 := by
          have := congrArg Prod.fst v2
          exact this.trans v1
        omega
      · unfold tmR at hq
        have e9 : nxs a3 = a3 + 1 := rfl
        rw [e9] at hq ⊢
        rw [← hq]; exact v1
    · exact absurd q hv
  · rcases hvv with ⟨v1, v2⟩ | ⟨v1, v2⟩
    · have k14 : ck tk a3 = 14 := by
        rcases hv with ⟨hv, _⟩ | ⟨_, hv⟩
        · exact hv
        · exfalso
          unfold ndR at hv
          split at hv
          · have := congrArg Prod.fst hv
            have : vv = 0 := this
            omega
          · have := congrArg Prod.fst hv
            have : vv = 1 := this
            omega
      rw [if_pos k14, v1, v2]; rfl
    · have k14 : ¬ ck tk a3 = 14 := by
        rcases hv with ⟨_, hv⟩ | ⟨hv, _⟩
        · exfalso
          obtain ⟨q1, hq, hv⟩ := hv
          rcases hv with ⟨w1, w2⟩ | ⟨w1, w2⟩
          · have := congrArg Prod.fst w2
            have : vv = q1.1 := this
            omega
          · unfold ndV at w2
            split at w2
            · have := congrArg Prod.fst w2
              have : vv = 2 := this
              omega
            · have := congrArg Prod.fst w2
              have : vv = 1 := this
              omega
        · exact hv
      rw [if_neg k14, v1, v2]
theorem lp_of {b0 : Nat} {m m9 : List sgT} {t9 : Nat × Int32} (hl1 : 1 ≤ ln) (hb0 : ck tk b0 = 12) (hb1 : ta = b0 + 1) (hc : cng tk 0 tf ta m t1 a1) (hr1 : rst tk t1 n1 m1 a1 cn) (h2 : ndS t1 a1 n1 13 t2 a2) (hc3 : cng tk 1 t2 a2 m9 t3 a3) (h6 : vrS tk vv t3 a3 t6 a6) (hvv : (vv = 2 ∧ t9 = trmV (ck tk) nxs (cv tk) 0 (a3 + 1)) ∨ (vv = 0 ∧ t9 = (0, 0))) (h7 : psS tk t6 a6 ((5, ln, wgh vv pl, t9, m, m9) :: sg) ln br lp (pl ++ [(5, ln, wgh vv pl, t9, m, m9)]) t7 a7 ln7 br7 lp7 pl7) (ho7 : okf t7 (¬ n7 = 59)) (hr7 : rst tk t7 n7 m7 a7 cn) (h8 : ndS t7 a7 n7 16 t8 a8) : brS tk 5 b0 tf ta sg ln br lp pl t8 a8 ln7 br7 lp7 (pl7 ++ [odI (5, ln, wgh vv pl, t9, m, m9)]) := by
  have h1 := hc.cn
  have h3 := hc3.cn
  have hv1 : ¬ vv = 1 := by omega
  have hv2 : vv = 2 ∨ vv = 0 := by omega
  refine ⟨fun q => ?_, fun hok => ?_⟩
  · obtain ⟨x1, y1⟩ := h1.1 q
    obtain ⟨x2, y2⟩ := h2.1 (kp2 q x1)
    obtain ⟨x3, y3⟩ := h3.1 (kp2 q (x2.trans x1))
    obtain ⟨x6, y6⟩ := h6.1 (kp2 q (x3.trans (x2.trans x1)))
    obtain ⟨x7, y7⟩ := h7.1 (kp2 q (x6.trans (x3.trans (x2.trans x1))))
    obtain ⟨x8, y8⟩ := h8.1 (kp2 q (x7.trans (x6.trans (x3.trans (x2.trans x1)))))
    exact ⟨x8.trans (x7.trans (x6.trans (x3.trans (x2.trans x1)))), y8.trans (y7.trans (y6.trans (y3.trans (y2.trans y1))))⟩
  · have hh := wh_of h1 hr1 h2 h3 h6 hok
    rw [if_neg (by decide)]
    by_cases c6 : t6 = 4294967295
    · have hh0 : whH tk ta (vv, a6) := by rw [fvf_y c6] at hh; exact hh
      have hit : itc (ck tk) nxs (cv tk) b0 (5, 0, vv / 2, t9, m, m9) := wh_it hb0 hb1 hok hc hr1 h2 hc3 h6 c6 hvv
      suffices hs : (¬ t8 = 4294967295 → pgR (ck tk) nxs (cv tk) true a6 ((5, ln, wgh vv pl, t9, m, m9) :: sg) ln br lp (pl ++ [(5, ln, wgh vv pl, t9, m, m9)]) (1, a8, [])) ∧ (t8 = 4294967295 → ∀ r, pgR (ck tk) nxs (cv tk) false a8 sg ln7 br7 lp7 (pl7 ++ [odI (5, ln, wgh vv pl, t9, m, m9)]) r → pgR (ck tk) nxs (cv tk) true a6 ((5, ln, wgh vv pl, t9, m, m9) :: sg) ln br lp (pl ++ [(5, ln, wgh vv pl, t9, m, m9)]) r) from ⟨fun q => opC_i hh0 hv1 hit (by rw [gI_wh hl1 hv2]; exact hs.1 q), fun q r hr => opC_i hh0 hv1 hit (by rw [gI_wh hl1 hv2]; exact hs.2 q r hr)⟩
      by_cases c7 : t7 = 4294967295
      · have g7 := (h7.2 c6).2 c7
        have k7 := hr7.ck c7
        have s7 := ho7 c7
        by_cases e7 : n7 = 16
        · obtain ⟨d8, b8⟩ := (h8.2 c7).1 e7
          exact ⟨fun q => absurd d8 q, fun _ r hr => g7 r (pgR.ods rfl (k7.trans e7) (by rw [b8] at hr; exact hr))⟩
        · obtain ⟨d8, b8⟩ := (h8.2 c7).2 e7
          refine ⟨fun _ => g7 _ ?_, fun q => absurd q (ftf_1 d8)⟩
          rw [b8]
          exact pgR.wrong (by rw [k7]; exact s7) (by rw [k7]; dsimp only; omega)
      · obtain ⟨x8, y8⟩ := h8.1 c7
        refine ⟨fun _ => ?_, fun q => absurd (x8.symm.trans q) c7⟩
        rw [y8]
        exact (h7.2 c6).1 c7
    · obtain ⟨x7, y7⟩ := h7.1 c6
      obtain ⟨x8, y8⟩ := h8.1 (kp2 c6 x7)
      rw [fvf_n c6] at hh
      refine ⟨fun _ => ⟨_, hh, Or.inl ⟨rfl, ?_⟩⟩, fun q => absurd ((x8.trans x7).symm.trans q) c6⟩
      rw [y8, y7]
end CW
section CS
variable {tk : Nat → Nat} {tf ta cn nx am t1 a1 n1 m1 t2 a2 n2 m2 t3 a3 n3 m3 ln br lp ln1 br1 lp1 ln2 br2 lp2 ln3 br3 lp3 : Nat} {sg : List itT} {pl pl1 pl2 pl3 : List itT} {it : itT}
/-- it is refused -/
theorem st_no (hr : rst tk tf nx am ta cn) (h : ¬ (nx = 2 ∨ nx = 7 ∨ nx = 17 ∨ nx = 123 ∨ nx = 8 ∨ nx = 12) ∨ ln = 20 ∨ (nx = 8 ∧ br = 4) ∨ (nx = 12 ∧ lp = 4)) (e1 : a2 = ta) (e2 : t2 < 2 ^ 31) (e3 : stq tf t2 tf) : psS tk tf ta sg ln br lp pl t2 a2 ln br lp pl := by
  refine ⟨fun q => ⟨e3.res q, e1⟩, fun hok => ⟨fun _ => ?_, fun q => by omega⟩⟩
  rw [e1]
  refine pgR.no ?_
  unfold stN
  rw [hr.ck hok]
  exact h
theorem st_ok (hr : rst tk tf nx am ta cn) (hok : tf = 4294967295) (h : nx = 2 ∨ nx = 7 ∨ nx = 17 ∨ nx = 123 ∨ nx = 8 ∨ nx = 12) (h1 : ln < 20) (h2 : nx = 8 → br < 4) (h3 : nx = 12 → lp < 4) : ¬ stN (ck tk) ta ln br lp := by
  unfold stN
  rw [hr.ck hok]
  rintro (q | q | q | q)
  · exact q h
  · omega
  · have := h2 q.1; omega
  · have := h3 q.1; omega
/-- a simple statement, by its own piece -/
theorem st_one (hr : rst tk tf nx am ta cn) (hok : tf = 4294967295) (hN : ¬ stN (ck tk) ta ln br lp) (hk : ¬ (nx = 8 ∨ nx = 12)) (hs : stR (ck tk) nxs (cv tk) ta (ftf t2, a2)) (hi : okf t2 (itc (ck tk) nxs (cv tk) ta it)) (e : ln2 = ln + 1) (e2 : br2 = br) (e3 : lp2 = lp) (e4 : pl2 = pl ++ [gI ln pl it]) : psS tk tf ta sg ln br lp pl t2 a2 ln2 br2 lp2 pl2 := by
  subst e
  subst e2
  subst e3
  subst e4
  refine ⟨fun q => absurd hok q, fun _ => ⟨fun q => ?_, fun q r hr2 => ?_⟩⟩
  · rw [ftf_n q] at hs
    exact pgR.bad hN hs
  · rw [q] at hs
    exact pgR.one hN hs (hi q) (by rw [hr.ck hok]; exact hk) hr2
theorem st_if (hr : rst tk tf nx am ta cn) (hok : tf = 4294967295) (hN : ¬ stN (ck tk) ta ln br lp) (hk : nx = 8) (ep : a1 = ta + 1) (et : t1 = tf) (e1 : ln1 = ln + 1) (e2 : br1 = br + 1) (e3 : lp = lp1) (e4 : pl = pl1) (h : brS tk 2 ta t1 a1 sg ln1 br1 lp1 pl1 t2 a2 ln2 br2 lp2 pl2) : psS tk tf ta sg ln br lp pl t2 a2 ln2 br2 lp2 pl2 := by
  subst e1
  subst e2
  subst e3
  subst e4
  have hk8 := (hr.ck hok).trans hk
  obtain ⟨c1, c2⟩ := h.2 (et.trans hok)
  rw [if_pos rfl, ep] at c1 c2
  have go : ∀ r, opC tk (ifH tk (ta + 1)) 2 ta sg (ln + 1) (br + 1) lp pl r → pgR (ck tk) nxs (cv tk) true ta sg ln br lp pl r := by
    rintro r ⟨⟨f, b⟩, hq, hc⟩
    have hs : stR (ck tk) nxs (cv tk) ta (f, b) := Or.inr (Or.inr (Or.inr (Or.inr (Or.inl ⟨hk8, hq⟩))))
    rcases hc with ⟨x1, x2⟩ | ⟨x1, x2⟩
    · have x3 : f = 1 := x1
      subst x3
      rw [x2]; exact pgR.bad hN hs
    · obtain ⟨it, xi, k, x2⟩ := x2
      exact ⟨k + 1, Or.inr ⟨hN, _, hs, Or.inr ⟨x1, it, xi, Or.inl ⟨hk8, x2⟩⟩⟩⟩
  exact ⟨fun q => absurd hok q, fun _ => ⟨fun q => go _ (c1 q), fun q r hr2 => go r (c2 q r hr2)⟩⟩
theorem st_wh (hr : rst tk tf nx am ta cn) (hok : tf = 4294967295) (hN : ¬ stN (ck tk) ta ln br lp) (hk : nx = 12) (ep : a1 = ta + 1) (et : t1 = tf) (e1 : ln1 = ln + 1) (e2 : lp1 = lp + 1) (e3 : br = br1) (e4 : pl = pl1) (h : brS tk 5 ta t1 a1 sg ln1 br1 lp1 pl1 t2 a2 ln2 br2 lp2 pl2) : psS tk tf ta sg ln br lp pl t2 a2 ln2 br2 lp2 pl2 := by
  subst e1
  subst e2
  subst e3
  subst e4
  have hk12 := (hr.ck hok).trans hk
  obtain ⟨c1, c2⟩ := h.2 (et.trans hok)
  rw [if_neg (by decide), ep] at c1 c2
  have go : ∀ r, opC tk (whH tk (ta + 1)) 5 ta sg (ln + 1) br (lp + 1) pl r → pgR (ck tk) nxs (cv tk) true ta sg ln br lp pl r := by
    rintro r ⟨⟨f, b⟩, hq, hc⟩
    have hs : stR (ck tk) nxs (cv tk) ta (f, b) := Or.inr (Or.inr (Or.inr (Or.inr (Or.inr ⟨hk12, hq⟩))))
    rcases hc with ⟨x1, x2⟩ | ⟨x1, x2⟩
    · have x3 : f = 1 := x1
      subst x3
      rw [x2]; exact pgR.bad hN hs
    · obtain ⟨it, xi, k, x2⟩ := x2
      exact ⟨k + 1, Or.inr ⟨hN, _, hs, Or.inr ⟨x1, it, xi, Or.inr (Or.inl ⟨hk12, x2⟩)⟩⟩⟩
  exact ⟨fun q => absurd hok q, fun _ => ⟨fun q => go _ (c1 q), fun q r hr2 => go r (c2 q r hr2)⟩⟩
theorem so_set (hr : rst tk tf nx am ta cn) (hok : tf = 4294967295) (hk : nx = 2) (ep : a1 = ta + 1) (et : t1 = tf) (h : asS tk t1 a1 t2 a2) : stR (ck tk) nxs (cv tk) ta (ftf t2, a2) := by
  have := h.2 (et.trans hok)
  rw [ep] at this
  exact Or.inl ⟨(hr.ck hok).trans hk, this⟩
theorem so_skip (hr : rst tk tf nx am ta cn) (hok : tf = 4294967295) (hk : nx = 7) (ep : a1 = ta + 1) (et : t1 = tf) : stR (ck tk) nxs (cv tk) ta (ftf t1, a1) := by
  rw [et, hok, ep]
  exact Or.inr (Or.inl ⟨(hr.ck hok).trans hk, rfl⟩)
theorem so_asr (hr : rst tk tf nx am ta cn) (hok : tf = 4294967295) (hk : nx = 17) (ep : a1 = ta + 1) (et : t1 = tf) (h : cnT tk 0 t1 a1 t2 a2) : stR (ck tk) nxs (cv tk) ta (ftf t2, a2) := by
  have := h.2 (et.trans hok)
  rw [ep] at this
  exact Or.inr (Or.inr (Or.inl ⟨(hr.ck hok).trans hk, this⟩))
theorem so_cut (hr : rst tk tf nx am ta cn) (hok : tf = 4294967295) (hk : nx = 123) (ep : a1 = ta + 1) (et : t1 = tf) (h : cnT tk 1 t1 a1 t2 a2) (hr2 : rst tk t2 n2 m2 a2 cn) (h3 : ndS t2 a2 n2 125 t3 a3) : stR (ck tk) nxs (cv tk) ta (ftf t3, a3) := by
  have c1 := h.2 (et.trans hok)
  rw [ep] at c1
  refine Or.inr (Or.inr (Or.inr (Or.inl ⟨(hr.ck hok).trans hk, ?_⟩)))
  by_cases c : t2 = 4294967295
  · exact thR.i c1 (by rw [c]; rfl) (nd_n hr2 h3 c)
  · obtain ⟨d1, d2⟩ := h3.1 c
    rw [d1, d2, ftf_n c]
    exact thR.x c1 (ftf_n c)
/-- ; and a statement more -/
theorem ps_more (h : psS tk tf ta sg ln br lp pl t1 a1 ln1 br1 lp1 pl1) (hok : t1 = 4294967295) (hr1 : rst tk t1 n1 m1 a1 cn) (hk : n1 = 59) (ep : a2 = a1 + 1) (et : t2 = t1) (h2 : psS tk t2 a2 sg ln1 br1 lp1 pl1 t3 a3 ln3 br3 lp3 pl3) : psS tk tf ta sg ln br lp pl t3 a3 ln3 br3 lp3 pl3 := by
  have hk1 := (hr1.ck hok).trans hk
  obtain ⟨c1, c2⟩ := h2.2 (et.trans hok)
  rw [ep] at c1 c2
  refine ⟨fun q => absurd ((h.1 q).1.symm.trans hok) q, fun hf => ?_⟩
  have g2 := (h.2 hf).2 hok
  exact ⟨fun q => g2 _ (pgR.semi hk1 (c1 q)), fun q r hr2 => g2 r (pgR.semi hk1 (c2 q r hr2))⟩
end CS
