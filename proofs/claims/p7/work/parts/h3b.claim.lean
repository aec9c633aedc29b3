/-- what a claim says: its premise, its conclusion -/
def prF (it : itT) (q : Nat) : List sgT := if q = 4 then it.2.2.2.2.1 else if q = 2 then it.2.2.2.2.2 ++ (it.2.2.2.2.1 ++ [opS 1]) ++ [opS 2] else if q = 3 then it.2.2.2.2.2 ++ it.2.2.2.2.1 ++ [opS 2] else whF it
def coF (po : List sgT) (X Y : Nat → List itT) (f1 : Nat → Nat) (it : itT) (q s : Nat) : List sgT := if q = 0 then fFm po (X 0) else if q = 1 then fFm po (X (f1 s)) else if q = 3 then [(1, it.2.2.2.1, (10, 0))] else fFm po (Y s)
section CLF
variable {so sl sr ao al ar : Nat → Int32} {zs za n i q : Nat} {kd ow sb f1 f2 te kp nm : Nat → Nat} {tm : Nat → Int32} {ls po : List sgT} {IT : Nat → itT} {X Y : Nat → List itT} {h9 : Nat → Nat × Int32}
theorem p_cut (h : lgQ so sl sr ao al ar zs za n kd ow sb f1 f2 te kp nm tm ls po IT X Y) (hid : h9 = idT) (hi : i < n) (hk : kd i = 123) (hq : q = 4) : prF (IT i) q = ptL h9 (sub9 ls (te i)) := by
  rw [hid, ptL_id, h.tq hi (by omega)]
  exact if_pos hq
theorem p_ex (h : lgQ so sl sr ao al ar zs za n kd ow sb f1 f2 te kp nm tm ls po IT X Y) (hid : h9 = idT) (hi : i < n) (hk : kd i = 12) (hq : q = 2) : prF (IT i) q = ptL h9 (sub9 ls (kp i)) ++ (ptL h9 (sub9 ls (te i)) ++ [opS 1]) ++ [opS 2] := by
  rw [hid, ptL_id, ptL_id, h.tq hi (by omega), h.kq hi hk]
  exact (if_neg (by omega)).trans (if_pos hq)
theorem p_va (h : lgQ so sl sr ao al ar zs za n kd ow sb f1 f2 te kp nm tm ls po IT X Y) (hid : h9 = idT) (hi : i < n) (hk : kd i = 12) (hq : q = 3) : prF (IT i) q = ptL h9 (sub9 ls (kp i)) ++ ptL h9 (sub9 ls (te i)) ++ [opS 2] := by
  rw [hid, ptL_id, ptL_id, h.tq hi (by omega), h.kq hi hk]
  exact (if_neg (by omega)).trans ((if_neg (by omega)).trans (if_pos hq))
theorem p_b0 (h : lgQ so sl sr ao al ar zs za n kd ow sb f1 f2 te kp nm tm ls po IT X Y) (hid : h9 = idT) (hi : i < n) (hk : kd i = 12) (hq : q = 1) (hn : nm i = 4294967295) : prF (IT i) q = ptL h9 (sub9 ls (kp i)) ++ ptL h9 (sub9 ls (te i)) ++ [opS 2] := by
  obtain ⟨_, _, _, _, e⟩ := (h.2.2.2 i hi).2.2.2.2.2 hk
  have hg : (IT i).2.2.1 < 6 := by
    rcases e with ⟨_, e⟩ | ⟨_, e, _⟩
    · omega
    · omega
  rw [hid, ptL_id, ptL_id, h.tq hi (by omega), h.kq hi hk]
  exact (if_neg (by omega)).trans ((if_neg (by omega)).trans ((if_neg (by omega)).trans (if_pos hg)))
theorem p_b1 (h : lgQ so sl sr ao al ar zs za n kd ow sb f1 f2 te kp nm tm ls po IT X Y) (hid : h9 = idT) (hi : i < n) (hk : kd i = 12) (hq : q = 1) (hn : ¬ nm i = 4294967295) : prF (IT i) q = (ptL h9 (sub9 ls (kp i)) ++ ptL h9 (sub9 ls (te i)) ++ [opS 2]) ++ [(4, (IT i).2.2.2.1, (nm i, 0))] ++ [opS 2] := by
  obtain ⟨_, _, _, _, e⟩ := (h.2.2.2 i hi).2.2.2.2.2 hk
  obtain ⟨e1, e2, e3, _⟩ := e.resolve_left (fun q => hn q.1)
  rw [hid, ptL_id, ptL_id, h.tq hi (by omega), h.kq hi hk, ← e3]
  exact (if_neg (by omega)).trans ((if_neg (by omega)).trans ((if_neg (by omega)).trans (if_neg (by omega))))
theorem c_0 (hid : h9 = idT) (hq : q = 0) : coF po X Y f1 (IT i) q i = ptL h9 (fFm po (X 0)) := by
  rw [hid, ptL_id]
  exact if_pos hq
theorem c_1 (hid : h9 = idT) (hq : q = 1) : coF po X Y f1 (IT i) q i = ptL h9 (fFm po (X (f1 i))) := by
  rw [hid, ptL_id]
  exact (if_neg (by omega)).trans (if_pos hq)
theorem c_3 (hq : q = 3) : coF po X Y f1 (IT i) q i = [(1, (IT i).2.2.2.1, (10, 0))] := (if_neg (by omega)).trans ((if_neg (by omega)).trans (if_pos hq))
theorem c_2 (hid : h9 = idT) (hq : q = 2 ∨ q = 4) : coF po X Y f1 (IT i) q i = ptL h9 (fFm po (Y i)) := by
  rw [hid, ptL_id]
  exact (if_neg (by omega)).trans ((if_neg (by omega)).trans (if_neg (by omega)))
end CLF
/-- a claim's formula -/
def mkF (pr po : List sgT) (X Y : Nat → List itT) (f1 : Nat → Nat) (IT : Nat → itT) (k s : Nat) : List sgT := imp9 (if s = 4294967295 then pr else prF (IT s) k) (coF po X Y f1 (IT s) k s)
/-- the formula that stands there, where one is made -/
def fm7 (md : Int32) (cl z : Nat) (fo fl fr : Nat → Int32) (k o : Nat → Nat) (pr po : List sgT) (X Y : Nat → List itT) (f1 : Nat → Nat) (IT : Nat → itT) : Prop := ∀ c, c < cl → md = nI c → (ndl fo fl fr (mkF pr po X Y f1 IT (k c) (o c)) ∧ (mkF pr po X Y f1 IT (k c) (o c)).length = z) ∧ ∃ d, cmpl d (mkF pr po X Y f1 IT (k c) (o c))
theorem mk_n {pr po : List sgT} {X Y : Nat → List itT} {f1 : Nat → Nat} {IT : Nat → itT} {k s : Nat} (h : s = 4294967295) : mkF pr po X Y f1 IT k s = (pr ++ [opS 1]) ++ coF po X Y f1 (IT s) k s ++ [opS 3] := by
  unfold mkF
  rw [if_pos h]; rfl
theorem mk_s {pr po : List sgT} {X Y : Nat → List itT} {f1 : Nat → Nat} {IT : Nat → itT} {k s : Nat} (h : ¬ s = 4294967295) : mkF pr po X Y f1 IT k s = (prF (IT s) k ++ [opS 1]) ++ coF po X Y f1 (IT s) k s ++ [opS 3] := by
  unfold mkF
  rw [if_neg h]; rfl
theorem sdq_id {sd : Nat → Int32} (h : ∀ j, j < 16 → sd j = nI j) : sdq sd idT := ⟨fun j hj => by
  rw [h j (by omega)]
  exact tmI_z.symm, fun j hj => hj, fun _ _ _ => rfl⟩
theorem srk_root {bo bl bq : Nat → Int32} {zb N d : Nat} {pr : List sgT} (h : srk bo bl bq zb N pr) (hc : cmpl d pr) : ptL idT (sub9 pr (zb - 1)) = pr := by
  have e := sub9_m (x := []) (y := []) hc
  rw [List.append_nil, List.nil_append, List.length_nil, Nat.zero_add, h.2.1] at e
  rw [ptL_id, e]
