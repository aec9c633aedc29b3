section LST
variable {n z n' z' s v d : Nat} {kd ow sb f1 f2 ts kp nm en kc kd' ow' sb' f1' f2' ts' kp' nm' en' kc' : Nat → Nat} {tm fo fl fr tm' fo' fl' fr' : Nat → Int32}
/-- what a statement that is read has -/
def lsc (n z : Nat) (kd f1 f2 ts kp nm kc : Nat → Nat) (tm fo fl fr : Nat → Int32) (i : Nat) : Prop :=
  (kd i = 2 → nm i < 6 ∧ trm (tm i)) ∧ (kd i = 8 → ts i < z ∧ tsn fo fl fr (ts i) ≤ kc i ∧ i < f1 i ∧ f1 i < n ∧ i < f2 i ∧ f2 i < n) ∧
  (kd i = 12 → ts i < z ∧ kp i < z ∧ tsn fo fl fr (ts i) + tsn fo fl fr (kp i) ≤ kc i ∧ i < f1 i ∧ f1 i < n ∧ (nm i = 4294967295 ∨ (nm i < 10 ∧ trm (tm i)))) ∧ (kd i = 17 ∨ kd i = 123 → ts i < z ∧ tsn fo fl fr (ts i) ≤ kc i)
def lst (n z : Nat) (kd ow sb f1 f2 ts kp nm en kc : Nat → Nat) (tm fo fl fr : Nat → Int32) : Prop :=
  n ≤ 20 ∧ lsp n kd ow sb en ∧ (∀ i, i < n → en i ≤ n → lsc n z kd f1 f2 ts kp nm kc tm fo fl fr i) ∧ sms kc 0 n ≤ z
theorem lsc.up {i : Nat} (h : lsc n z kd f1 f2 ts kp nm kc tm fo fl fr i) (hn : n ≤ n') (hz : z ≤ z') (ht : ∀ j, j < z → tsn fo' fl' fr' j = tsn fo fl fr j)
    (e1 : kd' i = kd i) (e2 : f1' i = f1 i) (e3 : f2' i = f2 i) (e4 : ts' i = ts i) (e5 : kp' i = kp i) (e6 : nm' i = nm i) (e7 : kc i ≤ kc' i) (e8 : tm' i = tm i) : lsc n' z' kd' f1' f2' ts' kp' nm' kc' tm' fo' fl' fr' i := by
  obtain ⟨a1, a2, a3, a4⟩ := h
  unfold lsc
  rw [e1, e2, e3, e4, e5, e6, e8]
  refine ⟨a1, fun q => ?_, fun q => ?_, fun q => ?_⟩
  · obtain ⟨b1, b2, b3, b4, b5, b6⟩ := a2 q
    exact ⟨by omega, by rw [ht _ b1]; omega, b3, by omega, b5, by omega⟩
  · obtain ⟨b1, b2, b3, b4, b5, b6⟩ := a3 q
    exact ⟨by omega, by omega, by rw [ht _ b1, ht _ b2]; omega, b4, by omega, b6⟩
  · obtain ⟨b1, b2⟩ := a4 q
    exact ⟨by omega, by rw [ht _ b1]; omega⟩
theorem sms_sup {f : Nat → Nat} {i x : Nat} (hi : i < n) : sms (sup f i x) 0 n + f i = sms f 0 n + x := by
  induction n with
  | zero => omega
  | succ n ih =>
    show sms (sup f i x) 0 n + sup f i x (0 + n) + f i = sms f 0 n + f (0 + n) + x
    rw [Nat.zero_add]
    by_cases e : i = n
    · subst e
      rw [sup_eq, sms_congr (g := f) (fun k hk => sup_ne (by omega))]; omega
    · rw [sup_ne (by omega)]
      have := ih (by omega); omega
theorem sms_off {f : Nat → Nat} {i x : Nat} (hi : n ≤ i) : sms (sup f i x) 0 n = sms f 0 n := sms_congr (fun k hk => sup_ne (by omega))
theorem lst.z0 : lst 0 0 kd ow sb f1 f2 ts kp nm en kc tm fo fl fr := ⟨by omega, fun i hi => by omega, fun i hi => by omega, Nat.le_refl _⟩
/-- a statement more, that is to be read -/
theorem lst.add {q o : Nat} (h : lst n z kd ow sb f1 f2 ts kp nm en kc tm fo fl fr) (hn : n < 20) (hq : knd q) (ho : o = 4294967295 ∨ (o < n ∧ en o = 100)) :
    lst (n + 1) z (sup kd n q) (sup ow n o) (sup sb n 4294967295) (sup f1 n 4294967295) (sup f2 n 4294967295) ts kp (sup nm n 4294967295) (sup en n 100) (sup kc n 0) tm fo fl fr := by
  obtain ⟨a1, a2, a3, a4⟩ := h
  refine ⟨by omega, fun i hi => ?_, fun i hi hc => ?_, ?_⟩
  · by_cases e : i = n
    · subst e
      unfold lsb
      rw [sup_eq, sup_eq, sup_eq, sup_eq]
      refine ⟨hq, ?_, ⟨by omega, Or.inr rfl⟩, Or.inl rfl⟩
      rcases ho with ho | ⟨h1, h2⟩
      · exact Or.inl ho
      · exact Or.inr ⟨h1, by rw [sup_ne (by omega)]; omega⟩
    · obtain ⟨b1, b2, b3, b4⟩ := a2 i (by omega)
      unfold lsb
      rw [sup_ne e, sup_ne e, sup_ne e, sup_ne e]
      refine ⟨b1, ?_, ⟨b3.1, ?_⟩, ?_⟩
      · rcases b2 with b2 | ⟨h1, h2⟩
        · exact Or.inl b2
        · exact Or.inr ⟨h1, by rw [sup_ne (by omega)]; exact h2⟩
      · rcases b3.2 with q | q
        · exact Or.inl (by omega)
        · exact Or.inr q
      · rcases b4 with b4 | ⟨h1, h2⟩
        · exact Or.inl b4
        · exact Or.inr ⟨h1, by omega⟩
  · by_cases e : i = n
    · subst e; rw [sup_eq] at hc; omega
    · rw [sup_ne e] at hc
      have hb := (a2 i (by omega)).2.2.1.2
      exact (a3 i (by omega) (by omega)).up (by omega) (Nat.le_refl _) (fun j _ => rfl) (sup_ne e) (sup_ne e) (sup_ne e) rfl rfl (sup_ne e) (by rw [sup_ne e]; exact Nat.le_refl _) rfl
  · show sms (sup kc n 0) 0 n + sup kc n 0 (0 + n) ≤ z
    rw [Nat.zero_add, sup_eq, sms_off (Nat.le_refl _)]; omega
/-- nodes more, on the account of a statement that is being read; its own rows may have changed -/
theorem lst.read (h : lst n z kd ow sb f1 f2 ts kp nm en kc tm fo fl fr) (hz : z ≤ z') (ht : ∀ j, j < z → tsn fo' fl' fr' j = tsn fo fl fr j) (hs : s < n) (hen : en s = 100) (hd : d ≤ z' - z)
    (e2 : ∀ i, i ≠ s → f1' i = f1 i) (e3 : ∀ i, i ≠ s → f2' i = f2 i) (e4 : ∀ i, i ≠ s → ts' i = ts i) (e5 : ∀ i, i ≠ s → kp' i = kp i) (e6 : ∀ i, i ≠ s → nm' i = nm i) (e8 : ∀ i, i ≠ s → tm' i = tm i) :
    lst n z' kd ow sb f1' f2' ts' kp' nm' en (sup kc s (kc s + d)) tm' fo' fl' fr' := by
  obtain ⟨a1, a2, a3, a4⟩ := h
  refine ⟨a1, a2, fun i hi hc => ?_, ?_⟩
  · have e : i ≠ s := fun e => by subst e; omega
    exact (a3 i hi hc).up (Nat.le_refl _) hz ht rfl (e2 i e) (e3 i e) (e4 i e) (e5 i e) (e6 i e) (by rw [sup_ne e]; exact Nat.le_refl _) (e8 i e)
  · have := sms_sup (f := kc) (x := kc s + d) hs
    omega
theorem lst.same (h : lst n z kd ow sb f1 f2 ts kp nm en kc tm fo fl fr) (hs : s < n) (hen : en s = 100)
    (e2 : ∀ i, i ≠ s → f1' i = f1 i) (e3 : ∀ i, i ≠ s → f2' i = f2 i) (e4 : ∀ i, i ≠ s → ts' i = ts i) (e5 : ∀ i, i ≠ s → kp' i = kp i) (e6 : ∀ i, i ≠ s → nm' i = nm i) (e8 : ∀ i, i ≠ s → tm' i = tm i) : lst n z kd ow sb f1' f2' ts' kp' nm' en kc tm' fo fl fr := by
  obtain ⟨a1, a2, a3, a4⟩ := h
  refine ⟨a1, a2, fun i hi hc => ?_, a4⟩
  have e : i ≠ s := fun e => by subst e; omega
  exact (a3 i hi hc).up (Nat.le_refl _) (Nat.le_refl _) (fun j _ => rfl) rfl (e2 i e) (e3 i e) (e4 i e) (e5 i e) (e6 i e) (Nat.le_refl _) (e8 i e)
/-- a statement is read -/
theorem lst.close (h : lst n z kd ow sb f1 f2 ts kp nm en kc tm fo fl fr) (hs : s < n) (hen : en s = 100) (hin : ∀ i, s < i → i < n → en i ≤ n) (hc : lsc n z kd f1 f2 ts kp nm kc tm fo fl fr s) : lst n z kd ow sb f1 f2 ts kp nm (sup en s n) kc tm fo fl fr := by
  obtain ⟨a1, a2, a3, a4⟩ := h
  refine ⟨a1, fun i hi => ?_, fun i hi hq => ?_, a4⟩
  · obtain ⟨b1, b2, b3, b4⟩ := a2 i hi
    unfold lsb
    by_cases e : i = s
    · subst e
      rw [sup_eq]
      refine ⟨b1, ?_, ⟨by omega, Or.inl (Nat.le_refl _)⟩, ?_⟩
      · rcases b2 with b2 | ⟨h1, h2⟩
        · exact Or.inl b2
        · exact Or.inr ⟨h1, by rw [sup_ne (by omega)]; omega⟩
      · rcases b4 with b4 | ⟨h1, h2⟩
        · exact Or.inl b4
        · omega
    · rw [sup_ne e]
      refine ⟨b1, ?_, b3, b4⟩
      rcases b2 with b2 | ⟨h1, h2⟩
      · exact Or.inl b2
      · refine Or.inr ⟨h1, ?_⟩
        by_cases e2 : ow i = s
        · rw [e2, sup_eq]; exact hin i (by omega) hi
        · rw [sup_ne e2]; exact h2
  · by_cases e : i = s
    · subst e; exact hc
    · rw [sup_ne e] at hq; exact a3 i hi hq
/-- a statement is followed by another -/
theorem lst.sib (h : lst n z kd ow sb f1 f2 ts kp nm en kc tm fo fl fr) (hs : en s ≤ v) (hv : v < n) : lst n z kd ow (sup sb s v) f1 f2 ts kp nm en kc tm fo fl fr := by
  obtain ⟨a1, a2, a3, a4⟩ := h
  refine ⟨a1, fun i hi => ?_, a3, a4⟩
  obtain ⟨b1, b2, b3, b4⟩ := a2 i hi
  unfold lsb
  by_cases e : i = s
  · subst e; rw [sup_eq]; exact ⟨b1, b2, b3, Or.inr ⟨hs, hv⟩⟩
  · rw [sup_ne e]; exact ⟨b1, b2, b3, b4⟩
end LST
section SAM
variable {n s m : Nat} {kd ow sb f1 f2 ts kp nm en kc kd' ow' sb' f1' f2' ts' kp' nm' en' kc' kd'' ow'' sb'' f1'' f2'' ts'' kp'' nm'' en'' kc'' : Nat → Nat} {tm tm' tm'' : Nat → Int32}
/-- the statements below n are as they were -/
def sam (n : Nat) (kd ow sb f1 f2 ts kp nm en kc kd' ow' sb' f1' f2' ts' kp' nm' en' kc' : Nat → Nat) (tm tm' : Nat → Int32) : Prop := ∀ i, i < n → kd' i = kd i ∧ ow' i = ow i ∧ sb' i = sb i ∧ f1' i = f1 i ∧ f2' i = f2 i ∧ ts' i = ts i ∧ kp' i = kp i ∧ nm' i = nm i ∧ en' i = en i ∧ kc' i = kc i ∧ tm' i = tm i
/-- all but s, which keeps its place -/
def sae (s n : Nat) (kd ow sb f1 f2 ts kp nm en kc kd' ow' sb' f1' f2' ts' kp' nm' en' kc' : Nat → Nat) (tm tm' : Nat → Int32) : Prop := (∀ i, i < n → i ≠ s → kd' i = kd i ∧ ow' i = ow i ∧ sb' i = sb i ∧ f1' i = f1 i ∧ f2' i = f2 i ∧ ts' i = ts i ∧ kp' i = kp i ∧ nm' i = nm i ∧ en' i = en i ∧ kc' i = kc i ∧ tm' i = tm i) ∧ kd' s = kd s ∧ ow' s = ow s ∧ sb' s = sb s ∧ en' s = en s
/-- the claims -/
def clm (br cl : Nat) (ck co : Nat → Nat) (n : Nat) (kd nm : Nat → Nat) : Prop := sms (fun i => ifq (kd i) 8) 0 n ≤ br ∧ ∀ c, c < cl → (ck c = 0 ∧ co c = 4294967295) ∨ (co c < n ∧ ((ck c = 4 ∧ kd (co c) = 123) ∨ ((ck c = 1 ∨ ck c = 2) ∧ kd (co c) = 12) ∨ (ck c = 3 ∧ kd (co c) = 12 ∧ nm (co c) < 128)))
theorem clm.up {br cl : Nat} {ck co : Nat → Nat} (h : clm br cl ck co n kd nm) (hk : ∀ i, i < n → kd' i = kd i ∧ (nm i < 128 → nm' i < 128)) : clm br cl ck co n kd' nm' := by
  obtain ⟨h0, h⟩ := h
  refine ⟨?_, fun c hc => ?_⟩
  · rw [sms_congr (g := fun i => ifq (kd i) 8) (fun k hk1 => by show ifq (kd' _) 8 = ifq (kd _) 8; rw [(hk _ (by omega)).1])]; exact h0
  rcases h c hc with a | ⟨a, b⟩
  · exact Or.inl a
  · obtain ⟨k1, k2⟩ := hk _ a
    refine Or.inr ⟨by omega, ?_⟩
    rw [k1]
    rcases b with b | b | ⟨b1, b2, b3⟩
    · exact Or.inl b
    · exact Or.inr (Or.inl b)
    · exact Or.inr (Or.inr ⟨b1, b2, k2 b3⟩)
theorem clm.add {br br' cl q v : Nat} {ck co : Nat → Nat} (h : clm br cl ck co n kd nm) (hb : br' = br + ifq q 8) : clm br' cl ck co (n + 1) (sup kd n q) (sup nm n v) := by
  obtain ⟨h0, h⟩ := h
  refine ⟨?_, fun c hc => ?_⟩
  · show sms (fun i => ifq (sup kd n q i) 8) 0 n + ifq (sup kd n q (0 + n)) 8 ≤ br'
    rw [Nat.zero_add, sup_eq, sms_congr (g := fun i => ifq (kd i) 8) (fun k hk1 => by show ifq (sup kd n q _) 8 = ifq (kd _) 8; rw [sup_ne (by omega)])]
    omega
  rcases h c hc with a | ⟨a, b⟩
  · exact Or.inl a
  · rw [sup_ne (by omega), sup_ne (by omega)]
    exact Or.inr ⟨by omega, b⟩
theorem clm.one {br cl u q o : Nat} {ck co xck xco : Nat → Nat} (h : clm br cl ck co n kd nm) (hx : (xck = ck ∧ xco = co ∧ u = cl ∧ 29 ≤ cl) ∨ (xck = sup ck cl q ∧ xco = sup co cl o ∧ u = cl + 1 ∧ cl < 29)) (ho : o < n) (hq : (q = 4 ∧ kd o = 123) ∨ ((q = 1 ∨ q = 2) ∧ kd o = 12) ∨ (q = 3 ∧ kd o = 12 ∧ nm o < 128)) : clm br u xck xco n kd nm := by
  rcases hx with ⟨e1, e2, e3, _⟩ | ⟨e1, e2, e3, _⟩
  · subst e1; subst e2; subst e3; exact h
  · subst e1; subst e2; subst e3
    refine ⟨h.1, fun c hc => ?_⟩
    by_cases e : c = cl
    · subst e; rw [sup_eq, sup_eq]; exact Or.inr ⟨ho, hq⟩
    · rw [sup_ne e, sup_ne e]; exact h.2 c (by omega)
theorem sam.rf : sam n kd ow sb f1 f2 ts kp nm en kc kd ow sb f1 f2 ts kp nm en kc tm tm := fun _ _ => ⟨rfl, rfl, rfl, rfl, rfl, rfl, rfl, rfl, rfl, rfl, rfl⟩
theorem sam.tr (a : sam n kd ow sb f1 f2 ts kp nm en kc kd' ow' sb' f1' f2' ts' kp' nm' en' kc' tm tm') (b : sam m kd' ow' sb' f1' f2' ts' kp' nm' en' kc' kd'' ow'' sb'' f1'' f2'' ts'' kp'' nm'' en'' kc'' tm' tm'') (h : n ≤ m) : sam n kd ow sb f1 f2 ts kp nm en kc kd'' ow'' sb'' f1'' f2'' ts'' kp'' nm'' en'' kc'' tm tm'' := fun i hi => by
  obtain ⟨x1, x2, x3, x4, x5, x6, x7, x8, x9, x10, x11⟩ := a i hi
  obtain ⟨y1, y2, y3, y4, y5, y6, y7, y8, y9, y10, y11⟩ := b i (by omega)
  exact ⟨y1.trans x1, y2.trans x2, y3.trans x3, y4.trans x4, y5.trans x5, y6.trans x6, y7.trans x7, y8.trans x8, y9.trans x9, y10.trans x10, y11.trans x11⟩
theorem sup128 {f : Nat → Nat} {i v : Nat} (h : f i < 128) (hv : v < 128) : sup f s v i < 128 := by
  unfold sup
  split
  · exact hv
  · exact h
/-- those from a on are read -/
def cls (a n : Nat) (en : Nat → Nat) : Prop := ∀ i, a ≤ i → i < n → en i ≤ n
end SAM
