/-- condition j of a list -/
def cth : List cdT → Nat → cdT
  | [], _ => (0, 0, [])
  | c :: _, 0 => c
  | _ :: l, k + 1 => cth l k
theorem cth_l : ∀ {l m : List cdT} {k : Nat}, k < l.length → cth (l ++ m) k = cth l k
  | [], _, _, h => absurd h (Nat.not_lt_zero _)
  | _ :: _, _, 0, _ => rfl
  | _ :: l, _, k + 1, h => cth_l (l := l) (k := k) (Nat.lt_of_succ_lt_succ h)
theorem cth_e : ∀ {l : List cdT} {c : cdT}, cth (l ++ [c]) l.length = c
  | [], _ => rfl
  | _ :: l, _ => cth_e (l := l)
theorem cth_mem : ∀ {l : List cdT} {k : Nat}, k < l.length → cth l k ∈ l
  | [], _, h => absurd h (Nat.not_lt_zero _)
  | _ :: _, 0, _ => List.mem_cons_self
  | _ :: l, k + 1, h => List.mem_cons_of_mem _ (cth_mem (l := l) (k := k) (Nat.lt_of_succ_lt_succ h))
section CDLA
variable {ck cm ca cz : Nat → Nat} {kp : Nat → Int32} {L : List cdT} {n j : Nat}
theorem cdl_len : ∀ n, (cdl ck cm ca cz kp n).length = n
  | 0 => rfl
  | n + 1 => by
    show (cdl ck cm ca cz kp n ++ [cdD ck cm ca cz kp n]).length = n + 1
    rw [List.length_append, cdl_len n]; rfl
theorem cdl_at : ∀ (n j : Nat), j < n → cth (cdl ck cm ca cz kp n) j = cdD ck cm ca cz kp j
  | 0, _, h => absurd h (Nat.not_lt_zero _)
  | n + 1, j, h => by
    show cth (cdl ck cm ca cz kp n ++ [cdD ck cm ca cz kp n]) j = _
    by_cases e : j = n
    · subst e
      have h9 := cth_e (l := cdl ck cm ca cz kp j) (c := cdD ck cm ca cz kp j)
      rw [cdl_len] at h9
      exact h9
    · rw [cth_l (by rw [cdl_len]; omega)]
      exact cdl_at n j (by omega)
theorem cdl_n (h : cdl ck cm ca cz kp n = L) : n = L.length := by rw [← h, cdl_len]
theorem cdl_f (h : cdl ck cm ca cz kp n = L) (hj : j < n) : sgl kp (6 * ca j) (cz j) = (cth L j).2.2 := by
  rw [← h, cdl_at n j hj]; rfl
end CDLA
/-- what is written so far, and what still waits -/
def syQ (l : List sgT) (T : List Int32) (ot : Nat → Int32) (os : Nat) (pz : Nat → Int32) (n : Nat) : Prop := nbl 9999999 l → lsi ot os ++ wtl l pz n = T
section SYQ
variable {l : List sgT} {T : List Int32} {ot ot2 pz kp : Nat → Int32} {os os2 n v v9 p1 : Nat} {z x y : Int32}
theorem syQ_0 (hv : v < 2 ^ 31) : syQ l (ftx l v) ot 0 (upd pz 0 (nI v)) 1 := fun _ => by
  show [] ++ wtl l (upd pz 0 (nI v)) (0 + 1) = ftx l v
  rw [wtl_pn hv]
  exact List.append_nil _
theorem syQ_c (h : syQ l T ot os pz (n + 1)) (hc : pz n < 0) (ez : z = -pz n) : syQ l T (upd ot os z) (os + 1) pz n := fun q => by
  have h9 := h q
  rw [wtl_c hc] at h9
  rw [lsi_upd, ez, List.append_assoc]
  exact h9
theorem syQ_a (h : syQ l T ot os pz (n + 1)) (ev : pz n = nI v) (hv : v < 2 ^ 31) (hl : v < l.length) (ha8 : ath l v = dec kp p1) (h08 : kp p1 = 0) (hq : paQ (adc kp p1) ot os ot2 os2) : syQ l T ot2 os2 pz n := fun q => by
  have h9 := h q
  have ha : ath l v = adc kp p1 := by
    obtain ⟨_, b⟩ := q _ (ath_mem hl)
    rw [ha8] at b ⊢
    exact dec_adc h08 (dec_cok h08 (b (dec_c0 h08)).2 (by omega))
  have h6 : (ath l v).1 < 6 := by rw [ha]; exact wcd_lt
  obtain ⟨_, b⟩ := q _ (ath_mem hl)
  obtain ⟨b1, b2⟩ := b h6
  rw [ha] at b1 b2
  rw [wtl_n ev hv, ftx_a h6, ha] at h9
  rw [hq (by unfold abI; have := b1.2; omega) (by unfold abI; have := b2.2; omega), List.append_assoc]
  exact h9
theorem syQ_n (h : syQ l T ot os pz (n + 1)) (ev : pz n = nI v) (hv : v < 2 ^ 31) (h6 : (ath l v).1 = 6) (h1 : 1 ≤ v) : syQ l T (upd ot os 33) (os + 1) (upd pz n (nI (v - 1))) (n + 1) := fun q => by
  have h9 := h q
  rw [wtl_n ev hv, ftx_n h6 h1] at h9
  rw [lsi_upd, wtl_pn (by omega), List.append_assoc]
  exact h9
theorem syQ_b (h : syQ l T ot os pz (n + 1)) (ev : pz n = nI v) (hv : v < 2 ^ 31) (h7 : 7 ≤ (ath l v).1) (h1 : 1 ≤ v) (e9 : v9 = v - 1 - szl l (v - 1)) (hy : y < 0) (ey : -y = if (ath l v).1 = 7 then 38 else 124) : syQ l T (upd ot os 40) (os + 1) (upd (upd (upd (upd pz n (-41)) (n + 1) (nI (v - 1))) (n + 2) y) (n + 3) (nI v9)) (n + 4) := fun q => by
  have h9 := h q
  rw [wtl_n ev hv, ftx_b h7 h1] at h9
  rw [lsi_upd, wtl_p4 (by decide) (by omega) hy (by omega), ey, e9, show -(-41 : Int32) = 41 by decide]
  rw [← h9]
  simp only [List.append_assoc, List.cons_append, List.nil_append]
theorem syQ.fin (h : syQ l T ot os pz n) (hn : n = 0) : nbl 9999999 l → lsi ot os = T := fun q => by
  have h9 := h q
  rw [hn] at h9
  exact (List.append_nil _).symm.trans h9
end SYQ
theorem say_38 : -(-38 : Int32) = 38 := by decide
theorem say_124 : -(-124 : Int32) = 124 := by decide
