/-- all conditions of a program, with what is said before it and behind it -/
def aLL (pr po : List sgT) (pl : List itT) : List cdT := (0, 0, imp9 pr (fFm po pl)) :: gCd po pl
/-- a program that is read, what is said before it and behind it -/
def lgE (so sl sr ao al ar bo bl bq : Nat → Int32) (zs za zb n cl : Nat) (kd ow sb f1 f2 te kp nm k o : Nat → Nat) (tm : Nat → Int32) (pr po : List sgT) (pl : List itT) : Prop := ndw ao al ar za po ∧ ndw bo bl bq zb pr ∧ ∃ L, pgQ so sl sr zs n cl kd ow sb f1 f2 te kp nm k o tm L pl
/-- the formula that stands there, where one is made -/
def fqm8 (md : Int32) (z : Nat) (fo fl fr : Nat → Int32) (pr po : List sgT) (pl : List itT) : Prop := ∀ c, c < (aLL pr po pl).length → c < 100 → md = nI c → (ndl fo fl fr (cth (aLL pr po pl) c).2.2 ∧ (cth (aLL pr po pl) c).2.2.length = z) ∧ ∃ d, cmpl d (cth (aLL pr po pl) c).2.2
/-- the class's claims are the reference's conditions -/
def mkE (cl : Nat) (f1 k o : Nat → Nat) (pr po : List sgT) (pl : List itT) (X Y : Nat → List itT) (IT : Nat → itT) : Prop := cl = (aLL pr po pl).length ∧ ∀ c, c < cl → mkF pr po X Y f1 IT (k c) (o c) = (cth (aLL pr po pl) c).2.2
theorem ndw.srk {fo fl fr : Nat → Int32} {n : Nat} {m : List sgT} (h : ndw fo fl fr n m) : srk fo fl fr n 1023 m := ⟨h.1, h.2.1, h.2.2.1.wf, h.2.2.2⟩
theorem cll_len {k o : Nat → Nat} : ∀ n, (cll k o n).length = n
  | 0 => rfl
  | n + 1 => by
    show (cll k o n ++ [_]).length = n + 1
    rw [List.length_append, cll_len n]; rfl
section LGE
variable {so sl sr ao al ar bo bl bq fo fl fr : Nat → Int32} {zs za zb n cl br z k1 : Nat} {kd ow sb f1 f2 te kp nm k o : Nat → Nat} {tm : Nat → Int32} {pr po : List sgT} {pl : List itT} {X Y : Nat → List itT} {IT : Nat → itT} {md : Int32}
theorem lgE.map (h : lgE so sl sr ao al ar bo bl bq zs za zb n cl kd ow sb f1 f2 te kp nm k o tm pr po pl) : cll k o cl = (aLL pr po pl).map (fun x => (x.1, x.2.1)) := by
  obtain ⟨_, _, L, _, _, hcl⟩ := h
  rw [hcl]
  show _ = (0, 0) :: (gCd po pl).map (fun x => (x.1, x.2.1))
  rw [gCd_cl]
theorem lgE.len (h : lgE so sl sr ao al ar bo bl bq zs za zb n cl kd ow sb f1 f2 te kp nm k o tm pr po pl) : cl = (aLL pr po pl).length := by
  have e := congrArg List.length h.map
  rw [List.length_map, cll_len] at e
  exact e
theorem lgE.all (h : lgE so sl sr ao al ar bo bl bq zs za zb n cl kd ow sb f1 f2 te kp nm k o tm pr po pl) (hk : ∀ i, i < n → knd (kd i)) (hn1 : 1 ≤ n) (hn : n ≤ 20) (hc : clm br cl k o n kd nm) : ∃ (L : List sgT) (IT : Nat → itT) (X Y : Nat → List itT), lgQ so sl sr ao al ar zs za n kd ow sb f1 f2 te kp nm tm L po IT X Y ∧ mkE cl f1 k o pr po pl X Y IT := by
  have hmap := h.map
  have hlen := h.len
  obtain ⟨ha, hb, L, hq, ⟨ls, IT, X, Y, M, hB, hM, hI⟩, hcl⟩ := h
  obtain ⟨hF, hX0, hnx⟩ := hB.all
  rw [List.nil_append] at hM
  rw [← hM] at hX0
  have hfs : ∀ i, i < n → fst9 kd f1 f2 IT X Y i := fun i hi => (hF i hi).1
  have hg : ∀ i, i < n → kd i = 12 → (IT i).2.2.1 = 0 ∨ 6 ≤ (IT i).2.2.1 := fun i hi q => by
    obtain ⟨_, _, _, _, e⟩ := (hI i (Nat.zero_le _) hi).2.2.2 q
    rcases e with ⟨_, e⟩ | ⟨e1, _, e2, _⟩
    · exact Or.inl e
    · exact Or.inr (by omega)
  refine ⟨L, IT, X, Y, ⟨hq, ha.srk, ha.2.2.1, fun i hi => ⟨hfs i hi, hB.lsn hi, hI i (Nat.zero_le _) hi⟩⟩, hlen, fun c hcc => ?_⟩
  obtain ⟨e1, e2⟩ := cll_at cl c hcc _ hmap
  have hclm := hc.2 c hcc
  cases c with
  | zero =>
    have k0 : k 0 = 0 := e1.symm
    have o0 : o 0 = 4294967295 := by
      rcases hclm with ⟨_, h⟩ | ⟨_, h⟩
      · exact h
      · omega
    show mkF pr po X Y f1 IT (k 0) (o 0) = imp9 pr (fFm po pl)
    rw [k0, o0]
    unfold mkF coF
    rw [if_pos rfl, if_pos rfl, hX0]
  | succ c =>
    have hl : (aLL pr po pl).length = (gCd po pl).length + 1 := rfl
    have hm : cth (aLL pr po pl) (c + 1) ∈ gCd po pl := cth_mem (l := gCd po pl) (k := c) (by omega)
    obtain ⟨i, i1, i2, i3⟩ := gCd_mk (pr := pr) (po := po) hfs hk hn hg hnx (fun i hi => (hI i (Nat.zero_le _) hi).1) (n - 1) 0 (by omega) (cth (aLL pr po pl) (c + 1)) (by rw [hX0]; exact hm)
    have ho : o (c + 1) = i := by
      rcases hclm with ⟨_, h⟩ | ⟨h, _⟩
      · rw [h] at e2; omega
      · omega
    rw [← e1, ho]
    exact i3.symm
theorem fqm8.f7 (h : fqm8 md z fo fl fr pr po pl) (hm : mkE cl f1 k o pr po pl X Y IT) (hcl : cl ≤ 29) : fm7 md cl z fo fl fr k o pr po X Y f1 IT := fun c hc hd => by
  rw [hm.2 c hc]
  exact h c (by rw [← hm.1]; exact hc) (by omega) hd
theorem fqm8_of (hm : mkE cl f1 k o pr po pl X Y IT) (hk1 : k1 < cl) (hcl : cl ≤ 29) (hd : md = nI k1) (h : (ndl fo fl fr (mkF pr po X Y f1 IT (k k1) (o k1)) ∧ (mkF pr po X Y f1 IT (k k1) (o k1)).length = z) ∧ ∃ d, cmpl d (mkF pr po X Y f1 IT (k k1) (o k1))) : fqm8 md z fo fl fr pr po pl := by
  intro c hc h9 e
  have ec : k1 = c := nI_inj32 (hd.symm.trans e) (by omega) (by omega)
  subst ec
  rw [hm.2 k1 hk1] at h
  exact h
theorem fqm8_no (h : md = -1) : fqm8 md z fo fl fr pr po pl := by
  intro c hc h9 e
  rw [h] at e
  exact absurd e.symm (fun q => by
    have q2 : nI c = nI 4294967295 := q.trans (by decide)
    have := nI_inj32 q2 (by omega) (by omega)
    omega)
theorem mk_w {en kc : Nat → Nat} {ls : List sgT} (h : lgQ so sl sr ao al ar zs za n kd ow sb f1 f2 te kp nm tm ls po IT X Y) (hw : lsw n zs kd ow sb f1 f2 te kp nm en kc tm so sl sr) (hn1 : 1 ≤ n) (hr : cmpl 18 pr ∧ nbl 1023 pr) (hc : clm br cl k o n kd nm) (hk1 : k1 < cl) : cmpl 64 (mkF pr po X Y f1 IT (k k1) (o k1)) ∧ nbl 21483 (mkF pr po X Y f1 IT (k k1) (o k1)) := mk_b h hw.1.2.1 ⟨hn1, hw.1.1⟩ (fun i hi q => by
  obtain ⟨_, _, a, b, c, d⟩ := hw.iff hi q
  exact ⟨a, b, c, d⟩) (fun i hi q => (hw.wh hi q).2.2.2.2.1) hr (hc.2 k1 hk1)
/-- the program, and what is made of it, for the maker -/
theorem lgE.go {en kc : Nat → Nat} (h : lgE so sl sr ao al ar bo bl bq zs za zb n cl kd ow sb f1 f2 te kp nm k o tm pr po pl) (hw : lsw n zs kd ow sb f1 f2 te kp nm en kc tm so sl sr) (hn1 : 1 ≤ n) (hc : clm br cl k o n kd nm) (hcl : cl ≤ 29) (h8 : fqm8 md z fo fl fr pr po pl) : ∃ (L : List sgT) (IT : Nat → itT) (X Y : Nat → List itT), lgQ so sl sr ao al ar zs za n kd ow sb f1 f2 te kp nm tm L po IT X Y ∧ mkE cl f1 k o pr po pl X Y IT ∧ srk bo bl bq zb 1023 pr ∧ (cmpl 18 pr ∧ nbl 1023 pr) ∧ fm7 md cl z fo fl fr k o pr po X Y f1 IT := by
  have h0 := h
  obtain ⟨L, IT, X, Y, a, b⟩ := h.all (fun i hi => hw.k hi) hn1 hw.1.1 hc
  exact ⟨L, IT, X, Y, a, b, h0.2.1.srk, ⟨h0.2.1.2.2.1, h0.2.1.2.2.2⟩, h8.f7 b hcl⟩
end LGE
