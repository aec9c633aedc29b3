def frb {α : Type} (o : Nat) (f g : Nat → α) : Prop := ∀ j, (j < 40 * o ∨ 40 * o + 40 ≤ j) → g j = f j
theorem frb.rf {α : Type} {o : Nat} {f : Nat → α} : frb o f f := fun _ _ => rfl
theorem frb.sup {o i v : Nat} {f g : Nat → Nat} (a : frb o f g) (h1 : 40 * o ≤ i) (h2 : i < 40 * o + 40) : frb o f (sup g i v) := fun j hj => (sup_ne (by omega)).trans (a j hj)
theorem frb.upd {o i : Nat} {v : Int32} {f g : Nat → Int32} (a : frb o f g) (h1 : 40 * o ≤ i) (h2 : i < 40 * o + 40) : frb o f (upd g i v) := fun j hj => (upd_ne (by omega)).trans (a j hj)
theorem frb.one {α : Type} {o i : Nat} {f g h : Nat → α} (a : frb o f g) (b : fr1 i g h) (h1 : 40 * o ≤ i) (h2 : i < 40 * o + 40) : frb o f h := fun j hj => (b j (by omega)).trans (a j hj)
theorem frb.tr {α : Type} {o : Nat} {f g h : Nat → α} (a : frb o f g) (b : frb o g h) : frb o f h := fun j hj => (b j hj).trans (a j hj)
def frq (o : Nat) (f g : Nat → Int32) : Prop := ∀ j, (j < 3000 * o ∨ 3000 * o + 3000 ≤ j) → g j = f j
theorem frq.rf {o : Nat} {f : Nat → Int32} : frq o f f := fun _ _ => rfl
theorem frq.p {o P : Nat} {f g h : Nat → Int32} (a : frq o f g) (b : frp o P g h) : frq o f h := fun j hj => (b j (by omega)).trans (a j hj)
theorem cdn.same {g o P x n : Nat} {pl pl' : Nat → Int32} (h : cdn g o P pl x n) (hP : P ≤ 500) (hp : ∀ j, 3000 * o ≤ j → j < 3000 * o + 3000 → pl' j = pl j) : cdn g o P pl' x n := by
  obtain ⟨a, e, ha, hw, hh, h96⟩ := h
  have hk : ∀ j, j < 6 * n → pl (x + j) = pl' (x + j) := fun j hj => (hp _ (by omega) (by omega)).symm
  exact ⟨a, e, by omega, wfs_congr hk hw, by rw [← hh]; exact (hgt_congr (fun k hk2 => hk (6 * k) (by omega))).symm, h96⟩
section PF
variable {o n sn fn wn P : Nat} {op lk fi fs se ss tg gh opn : Nat → Nat} {tn hv pl : Nat → Int32} {op' lk' fi' fs' se' ss' tg' gh' opn' : Nat → Nat} {tn' hv' pl' : Nat → Int32}
/-- the program of one half stays, when the other half is written -/
theorem pgm_frame (h : pgm o n 0 sn fn wn P op lk fi fs se ss tg gh opn tn hv pl) (hn : n ≤ 40) (hP : P ≤ 500) {o2 : Nat} (ho : o + o2 = 1)
    (e1 : frb o2 op op') (e2 : frb o2 lk lk') (e3 : frb o2 fi fi') (e4 : frb o2 fs fs') (e5 : frb o2 se se') (e6 : frb o2 ss ss') (e7 : frb o2 tg tg') (e8 : frb o2 gh gh') (e9 : frb o2 tn tn') (e10 : frb o2 hv hv') (e11 : frq o2 pl pl') :
    pgm o n 0 sn fn wn P op' lk' fi' fs' se' ss' tg' gh' opn' tn' hv' pl' := by
  obtain ⟨a1, a2, a3, a4, a5, a6, a7, a8, a9, a10, a11, a12⟩ := h
  have r : ∀ {α : Type} {f g : Nat → α}, frb o2 f g → ∀ k, k < n → g (40 * o + k) = f (40 * o + k) := fun e k hk => e _ (by omega)
  have hp : ∀ j, 3000 * o ≤ j → j < 3000 * o + 3000 → pl' j = pl j := fun j h1 h2 => e11 j (by omega)
  have eo := r e1
  refine ⟨fun k hk => ?_, fun k hk => ?_, fun j hj => by omega, by rw [← a4]; exact dpi_congr eo, fun k hk q => ?_, a6, a7, ?_, ?_, ?_, ?_, ?_⟩
  · obtain ⟨h1, h2, h3, h4, h5⟩ := a1 k hk
    unfold iok
    rw [eo k hk, r e3 k hk, r e4 k hk, r e5 k hk, r e6 k hk, r e7 k hk, r e8 k hk, r e9 k hk, r e10 k hk]
    exact ⟨h1, fun q => (h2 q).same hP hp, fun q => (h3 q).same hP hp, fun q => ⟨(h4 q).1.same hP hp, (h4 q).2⟩, h5⟩
  · rcases a2 k hk with ⟨j, h1, h2⟩ | ⟨h1, h2⟩
    · omega
    · right
      unfold lok
      rw [eo k hk, r e2 k hk]
      refine ⟨h1, fun q => ⟨(h2 q).1, (h2 q).2.1, ?_⟩⟩
      have q1 := (h2 q).1
      have q2 := (h2 q).2.1
      rw [e1 _ (by omega)]; exact (h2 q).2.2
  · rw [eo k hk] at q
    rw [dpi_congr (op' := op) (fun j hj => eo j (by omega))]
    exact a5 k hk q
  · rw [sms_congr (g := cst op fs ss) (fun k hk => cst_k (eo k hk) (r e4 k hk) (r e6 k hk))]; exact a8
  · rw [sms_congr (g := ccn op) (fun k hk => ccn_k (eo k hk))]; exact a9
  · rw [sms_congr (g := cfi op) (fun k hk => cfi_k (eo k hk))]; exact a10
  · rw [sms_congr (g := cod op) (fun k hk => cod_k (eo k hk))]; exact a11
  · rw [sms_congr (g := cif op) (fun k hk => cif_k (eo k hk))]; exact a12
/-- the loaded program -/
def lpg (o n P : Nat) (op lk fi fs se ss tg gh : Nat → Nat) (tn hv pl : Nat → Int32) : Prop := ∃ sn fn wn, pgm o n 0 sn fn wn P op lk fi fs se ss tg gh (fun _ => 0) tn hv pl ∧ sn ≤ 20 ∧ fn ≤ 4 ∧ wn ≤ 4 ∧ 7 * P ≤ 2400
theorem pgm_opn (h : pgm o n 0 sn fn wn P op lk fi fs se ss tg gh opn tn hv pl) : pgm o n 0 sn fn wn P op lk fi fs se ss tg gh opn' tn hv pl := by
  obtain ⟨a1, a2, a3, a4, a5, a6, a7, a8, a9, a10, a11, a12⟩ := h
  refine ⟨a1, fun k hk => ?_, fun j hj => by omega, a4, a5, a6, a7, a8, a9, a10, a11, a12⟩
  rcases a2 k hk with ⟨j, h1, h2⟩ | h
  · omega
  · exact Or.inr h
theorem lpg.frame (h : lpg o n P op lk fi fs se ss tg gh tn hv pl) {o2 : Nat} (ho : o + o2 = 1)
    (e1 : frb o2 op op') (e2 : frb o2 lk lk') (e3 : frb o2 fi fi') (e4 : frb o2 fs fs') (e5 : frb o2 se se') (e6 : frb o2 ss ss') (e7 : frb o2 tg tg') (e8 : frb o2 gh gh') (e9 : frb o2 tn tn') (e10 : frb o2 hv hv') (e11 : frq o2 pl pl') :
    lpg o n P op' lk' fi' fs' se' ss' tg' gh' tn' hv' pl' := by
  obtain ⟨sn, fn, wn, h0, h1, h2, h3, h4⟩ := h
  have := h0.2.2.2.2.2.1
  exact ⟨sn, fn, wn, pgm_frame h0 (by omega) (by omega) ho e1 e2 e3 e4 e5 e6 e7 e8 e9 e10 e11, h1, h2, h3, h4⟩
end PF
