theorem frq8.sm {l : List sgT} {x : Int32} (h : frq8 l x) : sm8 x := by
  rcases h with ⟨e, _⟩ | ⟨r, h1, _, e, _⟩
  · rw [e]; exact sm8_m1
  · rw [e]
    have h2 : rwl8 l ≤ 5001 := rwo_le
    exact sm8_nI (by omega)
theorem atn8_lt {l : List sgT} (h : szl l (l.length - 1) = l.length) (hl : l.length ≤ 32768) : atn8 (olf l) l.length < 32768 := by
  rcases Nat.eq_zero_or_pos l.length with q | q
  · rw [q]; show 0 < 32768; exact Nat.zero_lt_succ _
  · obtain ⟨n, e⟩ : ∃ n, l.length = n + 1 := ⟨l.length - 1, by omega⟩
    rw [e, Nat.add_sub_cancel] at h
    rw [e]
    show atn8 (olf l) n + (if olf l n < 6 then 1 else 0) < 32768
    have h1 := atn8_le (o := olf l) n
    by_cases c : olf l n < 6
    · have h2 : szl l n = 1 := szo_a c
      rw [if_pos c]; omega
    · rw [if_neg c]; omega
/-- what is found out of the formula l: rows, atoms, the first row, numbers -/
def fd8 (l : List sgT) (r a f : Int32) (g : Nat → Int32) : Prop := r = nI (rwl8 l) ∧ a = nI (atn8 (olf l) l.length) ∧ frq8 l f ∧ ctq8 l f g
/-- what is known of the claims is so -/
def fnQ8 (rw aa ff nb : Nat → Int32) (pr po : List sgT) (pl : List itT) : Prop := ∀ c, c < (aLL pr po pl).length → c < 29 → ¬ rw c = 0 → fd8 (cth (aLL pr po pl) c).2.2 (rw c) (aa c) (ff c) (fun v => nb (10 * c + v))
section FN8
variable {rw aa ff nb xrw xaa xff xnb lv : Nat → Int32} {pr po : List sgT} {pl : List itT} {k1 : Nat} {R A F : Int32} {l : List sgT}
theorem fnQ8_0 (h : ∀ j, j < 29 → rw j = 0) : fnQ8 rw aa ff nb pr po pl := fun c _ hc q => absurd (h c hc) q
theorem fnQ8.keep (h : fnQ8 rw aa ff nb pr po pl) (el : l = (cth (aLL pr po pl) k1).2.2) (h1 : up8 rw xrw k1 R) (h2 : up8 aa xaa k1 A) (h3 : up8 ff xff k1 F) (h4 : knI8 nb lv k1 10 xnb) (e1 : R = nI (rwl8 l)) (e2 : A = nI (atn8 (olf l) l.length)) (hs : srQ8 l F lv) : fnQ8 xrw xaa xff xnb pr po pl := by
  intro c hc h9 hn
  by_cases e : c = k1
  · subst e
    rw [← el, h1.1, h2.1, h3.1]
    exact ⟨e1, e2, hs.1, fun r er hr => ⟨lv, hs.2 r er hr, fun i hi => h4.1 i hi⟩⟩
  · rw [h1.2 c e] at hn
    obtain ⟨a, b, d, g⟩ := h c hc h9 hn
    rw [h1.2 c e, h2.2 c e, h3.2 c e]
    refine ⟨a, b, d, fun r er hr => ?_⟩
    obtain ⟨lw, g1, g2⟩ := g r er hr
    refine ⟨lw, g1, fun i hi => ?_⟩
    have := g2 i hi
    show xnb (10 * c + i) = _
    rw [h4.2 (10 * c + i) (by omega)]; exact this
theorem up8_ne (h1 : up8 rw xrw k1 R) (e1 : R = nI (rwl8 l)) : ¬ xrw k1 = 0 := by
  rw [h1.1, e1]
  have h2 : rwl8 l ≤ 5001 := rwo_le
  exact nI_ne0 rwo_pos (by omega)
end FN8
/-- all claims' formulas are small -/
theorem nbL8_of {so sl sr ao al ar bo bl bq : Nat → Int32} {zs za zb n cl br : Nat} {kd ow sb f1 f2 te kp nm k o : Nat → Nat} {tm : Nat → Int32} {pr po : List sgT} {pl : List itT} {en kc : Nat → Nat} (h : lgE so sl sr ao al ar bo bl bq zs za zb n cl kd ow sb f1 f2 te kp nm k o tm pr po pl) (hw : lsw n zs kd ow sb f1 f2 te kp nm en kc tm so sl sr) (hn1 : 1 ≤ n) (hc : clm br cl k o n kd nm) : nbL8 (aLL pr po pl) := by
  have h0 := h
  obtain ⟨L, IT, X, Y, a, b⟩ := h.all (fun i hi => hw.k hi) hn1 hw.1.1 hc
  intro c hcc
  have hcl : c < cl := by rw [b.1]; exact hcc
  rw [← b.2 c hcl]
  exact (mk_w a hw hn1 ⟨h0.2.1.2.2.1, h0.2.1.2.2.2⟩ hc hcl).2
theorem ctr8_of {l : List sgT} {r a f x : Int32} {g : Nat → Int32} {v : Nat} (h : fd8 l r a f g) (hv : vdQ8 l 0) (h1 : v < 10) (e : x = g v) : ctr8 l v x := by
  obtain ⟨h2, _, h3, h4⟩ := h
  obtain ⟨n, hn, ef⟩ := vd8_r (l := l) (a := r) (b := f) ⟨h2, h3⟩ hv
  obtain ⟨lv, g1, g2⟩ := h4 n ef hn
  exact ⟨n, lv, ⟨hn, by rw [← ef]; exact h3⟩, g1, e.trans (g2 v h1)⟩
theorem lgE.kd8 {so sl sr ao al ar bo bl bq : Nat → Int32} {zs za zb n cl c : Nat} {kd ow sb f1 f2 te kp nm k o : Nat → Nat} {tm : Nat → Int32} {pr po : List sgT} {pl : List itT} (h : lgE so sl sr ao al ar bo bl bq zs za zb n cl kd ow sb f1 f2 te kp nm k o tm pr po pl) (hc : c < cl) : nI (k c) = nI (cth (aLL pr po pl) c).1 ∧ nI (o c + 1) = nI (cth (aLL pr po pl) c).2.1 := by
  obtain ⟨e1, e2⟩ := cll_at cl c hc _ h.map
  rw [e1, e2]
  exact ⟨rfl, (nI_mod _).symm⟩
