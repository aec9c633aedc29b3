theorem wd_132 : ((Jvm.Cond.fieldLink "TripleDesk$Maker" (29 : Nat) "TripleDesk$Maker" "listing" "LTripleDesk$Listing;")) ∈ lw_gd := lw_gd_in (i := 132) (by decide +kernel) rfl
theorem wd_269 : ((Jvm.Cond.fieldLink "TripleDesk$Maker" (64 : Nat) "TripleDesk$Listing" "nodes" "LTripleDesk$Nodes;")) ∈ lw_gd := lw_gd_in (i := 269) (by decide +kernel) rfl
theorem wd_290 : ((Jvm.Cond.fieldLink "TripleDesk$Maker" (71 : Nat) "TripleDesk$Listing" "kept" "[S")) ∈ lw_gd := lw_gd_in (i := 290) (by decide +kernel) rfl
theorem wd_294 : ((Jvm.Cond.fieldLink "TripleDesk$Maker" (77 : Nat) "TripleDesk$Listing" "term" "[I")) ∈ lw_gd := lw_gd_in (i := 294) (by decide +kernel) rfl
theorem wd_298 : ((Jvm.Cond.fieldLink "TripleDesk$Maker" (74 : Nat) "TripleDesk$Listing" "name" "[B")) ∈ lw_gd := lw_gd_in (i := 298) (by decide +kernel) rfl
/-- how many nodes what is said at s may have -/
def wpw (kd kc : Nat → Nat) (n B s : Nat) : Nat := 2 ^ (sms (fun i => ifq (kd i) 8) 0 n - sms (fun i => ifq (kd i) 8) 0 s) * (B + (sms (fun i => 2 * kc i + 6) 0 n - sms (fun i => 2 * kc i + 6) 0 s))
theorem sms_one {f : Nat → Nat} {i n : Nat} (h : i < n) : f i ≤ sms f 0 n := by
  have h1 := sms_mono (B := 0) (f := f) (show i + 1 ≤ n by omega)
  have h2 : sms f 0 (i + 1) = sms f 0 i + f (0 + i) := rfl
  rw [Nat.zero_add] at h2
  omega
section WPW
variable {kd kc : Nat → Nat} {n B s j : Nat}
theorem wpw_B : B ≤ wpw kd kc n B s := by
  unfold wpw
  exact Nat.le_trans (Nat.le_add_right _ _) (Nat.le_mul_of_pos_left _ (Nat.two_pow_pos _))
theorem wpw_mono (h : s ≤ j) : wpw kd kc n B j ≤ wpw kd kc n B s := by
  unfold wpw
  have h1 := sms_mono (B := 0) (f := fun i => ifq (kd i) 8) h
  have h2 := sms_mono (B := 0) (f := fun i => 2 * kc i + 6) h
  exact Nat.mul_le_mul (Nat.pow_le_pow_right (by decide) (by omega)) (by omega)
theorem wpw_no (h : s < n) : wpw kd kc n B (s + 1) + 2 * kc s + 6 ≤ wpw kd kc n B s := by
  unfold wpw
  have h1 := sms_mono (B := 0) (f := fun i => ifq (kd i) 8) (show s ≤ s + 1 by omega)
  have h2 := sms_mono (B := 0) (f := fun i => 2 * kc i + 6) (show s + 1 ≤ n by omega)
  have h3 : sms (fun i => 2 * kc i + 6) 0 (s + 1) = sms (fun i => 2 * kc i + 6) 0 s + (2 * kc (0 + s) + 6) := rfl
  rw [Nat.zero_add] at h3
  have h4 : 2 ^ (sms (fun i => ifq (kd i) 8) 0 n - sms (fun i => ifq (kd i) 8) 0 (s + 1)) ≤ 2 ^ (sms (fun i => ifq (kd i) 8) 0 n - sms (fun i => ifq (kd i) 8) 0 s) := Nat.pow_le_pow_right (by decide) (by omega)
  have h5 : 1 ≤ 2 ^ (sms (fun i => ifq (kd i) 8) 0 n - sms (fun i => ifq (kd i) 8) 0 s) := Nat.two_pow_pos _
  rw [show B + (sms (fun i => 2 * kc i + 6) 0 n - sms (fun i => 2 * kc i + 6) 0 s) = (B + (sms (fun i => 2 * kc i + 6) 0 n - sms (fun i => 2 * kc i + 6) 0 (s + 1))) + (2 * kc s + 6) by omega]
  generalize B + (sms (fun i => 2 * kc i + 6) 0 n - sms (fun i => 2 * kc i + 6) 0 (s + 1)) = X
  generalize 2 ^ (sms (fun i => ifq (kd i) 8) 0 n - sms (fun i => ifq (kd i) 8) 0 (s + 1)) = Y at *
  generalize 2 ^ (sms (fun i => ifq (kd i) 8) 0 n - sms (fun i => ifq (kd i) 8) 0 s) = Z at *
  rw [Nat.mul_add Z X]
  have h6 := Nat.mul_le_mul_right X h4
  have h7 := Nat.mul_le_mul_right (2 * kc s + 6) h5
  omega
theorem wpw_if (h : s < n) (hk : kd s = 8) : 2 * wpw kd kc n B (s + 1) + 2 * kc s + 6 ≤ wpw kd kc n B s := by
  unfold wpw
  have h2 := sms_mono (B := 0) (f := fun i => 2 * kc i + 6) (show s + 1 ≤ n by omega)
  have h3 : sms (fun i => 2 * kc i + 6) 0 (s + 1) = sms (fun i => 2 * kc i + 6) 0 s + (2 * kc (0 + s) + 6) := rfl
  have g2 := sms_mono (B := 0) (f := fun i => ifq (kd i) 8) (show s + 1 ≤ n by omega)
  have g3 : sms (fun i => ifq (kd i) 8) 0 (s + 1) = sms (fun i => ifq (kd i) 8) 0 s + ifq (kd (0 + s)) 8 := rfl
  rw [Nat.zero_add] at h3 g3
  rw [hk, show ifq 8 8 = 1 from rfl] at g3
  rw [show sms (fun i => ifq (kd i) 8) 0 n - sms (fun i => ifq (kd i) 8) 0 s = (sms (fun i => ifq (kd i) 8) 0 n - sms (fun i => ifq (kd i) 8) 0 (s + 1)) + 1 by omega, Nat.pow_succ]
  have h5 : 1 ≤ 2 ^ (sms (fun i => ifq (kd i) 8) 0 n - sms (fun i => ifq (kd i) 8) 0 (s + 1)) := Nat.two_pow_pos _
  rw [show B + (sms (fun i => 2 * kc i + 6) 0 n - sms (fun i => 2 * kc i + 6) 0 s) = (B + (sms (fun i => 2 * kc i + 6) 0 n - sms (fun i => 2 * kc i + 6) 0 (s + 1))) + (2 * kc s + 6) by omega]
  generalize B + (sms (fun i => 2 * kc i + 6) 0 n - sms (fun i => 2 * kc i + 6) 0 (s + 1)) = X
  generalize 2 ^ (sms (fun i => ifq (kd i) 8) 0 n - sms (fun i => ifq (kd i) 8) 0 (s + 1)) = Y at *
  rw [Nat.mul_add (Y * 2) X]
  have h6 : Y * 2 * X = 2 * (Y * X) := by rw [Nat.mul_comm Y 2, Nat.mul_assoc]
  have h7 := Nat.mul_le_mul_right (2 * kc s + 6) (show 1 ≤ Y * 2 by omega)
  omega
theorem sms_lin {n : Nat} : sms (fun i => 2 * kc i + 6) 0 n = 2 * sms kc 0 n + 6 * n := by
  induction n with
  | zero => rfl
  | succ n ih =>
    show sms (fun i => 2 * kc i + 6) 0 n + (2 * kc (0 + n) + 6) = 2 * (sms kc 0 n + kc (0 + n)) + 6 * (n + 1)
    omega
theorem wpw_top {z : Nat} (hf : sms (fun i => ifq (kd i) 8) 0 n ≤ 4) (hk : sms kc 0 n ≤ z) (hn : n ≤ 20) : wpw kd kc n B s ≤ 16 * (B + 2 * z + 120) := by
  unfold wpw
  have h1 := sms_lin (kc := kc) (n := n)
  have h2 : 2 ^ (sms (fun i => ifq (kd i) 8) 0 n - sms (fun i => ifq (kd i) 8) 0 s) ≤ 2 ^ 4 := Nat.pow_le_pow_right (by decide) (by omega)
  exact Nat.mul_le_mul h2 (by omega)
end WPW
/-- a program, whole, with the nodes that each statement has -/
def lsw (n z : Nat) (kd ow sb f1 f2 ts kp nm en kc : Nat → Nat) (tm fo fl fr : Nat → Int32) : Prop := lst n z kd ow sb f1 f2 ts kp nm en kc tm fo fl fr ∧ (∀ i, i < n → en i ≤ n) ∧ z ≤ 450
section LSW
variable {n z i : Nat} {kd ow sb f1 f2 ts kp nm en kc : Nat → Nat} {tm fo fl fr : Nat → Int32}
theorem lsw.bk (h : lsw n z kd ow sb f1 f2 ts kp nm en kc tm fo fl fr) (hi : i < n) : kc i ≤ 450 ∧ n ≤ 20 ∧ z ≤ 450 := by
  have h1 := sms_one (f := kc) hi
  have h2 := h.1.2.2.2
  have h3 := h.2.2
  exact ⟨by omega, h.1.1, h3⟩
theorem lsw.k (h : lsw n z kd ow sb f1 f2 ts kp nm en kc tm fo fl fr) (hi : i < n) : knd (kd i) := (h.1.2.1 i hi).1
theorem lsw.set (h : lsw n z kd ow sb f1 f2 ts kp nm en kc tm fo fl fr) (hi : i < n) (q : kd i = 2) : nm i < 6 ∧ trm (tm i) := (h.1.2.2.1 i hi (h.2.1 i hi)).1 q
theorem lsw.iff (h : lsw n z kd ow sb f1 f2 ts kp nm en kc tm fo fl fr) (hi : i < n) (q : kd i = 8) : ts i < z ∧ tsn fo fl fr (ts i) ≤ kc i ∧ i < f1 i ∧ f1 i < n ∧ i < f2 i ∧ f2 i < n := (h.1.2.2.1 i hi (h.2.1 i hi)).2.1 q
theorem lsw.wh (h : lsw n z kd ow sb f1 f2 ts kp nm en kc tm fo fl fr) (hi : i < n) (q : kd i = 12) : ts i < z ∧ kp i < z ∧ tsn fo fl fr (ts i) + tsn fo fl fr (kp i) ≤ kc i ∧ i < f1 i ∧ f1 i < n ∧ (nm i = 4294967295 ∨ (nm i < 10 ∧ trm (tm i))) := (h.1.2.2.1 i hi (h.2.1 i hi)).2.2.1 q
theorem lsw.tst (h : lsw n z kd ow sb f1 f2 ts kp nm en kc tm fo fl fr) (hi : i < n) (q : kd i = 17 ∨ kd i = 123) : ts i < z ∧ tsn fo fl fr (ts i) ≤ kc i := (h.1.2.2.1 i hi (h.2.1 i hi)).2.2.2 q
end LSW
theorem trm_nm {b : Nat} (h : b ≤ 10) : trm (nI b) := ⟨b, h, by
  rcases (show b = 0 ∨ b = 1 ∨ b = 2 ∨ b = 3 ∨ b = 4 ∨ b = 5 ∨ b = 6 ∨ b = 7 ∨ b = 8 ∨ b = 9 ∨ b = 10 by omega) with h | h | h | h | h | h | h | h | h | h | h <;> subst h <;> decide⟩
abbrev b_Maker_endOfBody : ByteArray := prog_5_method_10_code
def y_Maker_endOfBody : MethodName := ⟨R_Maker, "endOfBody", "(I)I"⟩
theorem d_Maker_endOfBody_0 : decode b_Maker_endOfBody 0 = .ok (.aload_n 0, 1) := by decide +kernel
theorem d_Maker_endOfBody_1 : decode b_Maker_endOfBody 1 = .ok (.aload_n 0, 1) := by decide +kernel
theorem d_Maker_endOfBody_2 : decode b_Maker_endOfBody 2 = .ok (.getfield 29, 3) := by decide +kernel
theorem d_Maker_endOfBody_5 : decode b_Maker_endOfBody 5 = .ok (.getfield 64, 3) := by decide +kernel
theorem d_Maker_endOfBody_8 : decode b_Maker_endOfBody 8 = .ok (.aload_n 0, 1) := by decide +kernel
theorem d_Maker_endOfBody_9 : decode b_Maker_endOfBody 9 = .ok (.getfield 29, 3) := by decide +kernel
theorem d_Maker_endOfBody_12 : decode b_Maker_endOfBody 12 = .ok (.getfield 71, 3) := by decide +kernel
theorem d_Maker_endOfBody_15 : decode b_Maker_endOfBody 15 = .ok (.iload_n 1, 1) := by decide +kernel
theorem d_Maker_endOfBody_16 : decode b_Maker_endOfBody 16 = .ok (.saload, 1) := by decide +kernel
theorem d_Maker_endOfBody_17 : decode b_Maker_endOfBody 17 = .ok (.invokevirtual 46, 3) := by decide +kernel
theorem d_Maker_endOfBody_20 : decode b_Maker_endOfBody 20 = .ok (.istore_n 2, 1) := by decide +kernel
theorem d_Maker_endOfBody_21 : decode b_Maker_endOfBody 21 = .ok (.aload_n 0, 1) := by decide +kernel
theorem d_Maker_endOfBody_22 : decode b_Maker_endOfBody 22 = .ok (.getfield 29, 3) := by decide +kernel
theorem d_Maker_endOfBody_25 : decode b_Maker_endOfBody 25 = .ok (.getfield 74, 3) := by decide +kernel
theorem d_Maker_endOfBody_28 : decode b_Maker_endOfBody 28 = .ok (.iload_n 1, 1) := by decide +kernel
theorem d_Maker_endOfBody_29 : decode b_Maker_endOfBody 29 = .ok (.baload, 1) := by decide +kernel
theorem d_Maker_endOfBody_30 : decode b_Maker_endOfBody 30 = .ok (.iconst (-1), 1) := by decide +kernel
theorem d_Maker_endOfBody_31 : decode b_Maker_endOfBody 31 = .ok (.if_icmp .ne 5, 3) := by decide +kernel
theorem d_Maker_endOfBody_34 : decode b_Maker_endOfBody 34 = .ok (.iload_n 2, 1) := by decide +kernel
theorem d_Maker_endOfBody_35 : decode b_Maker_endOfBody 35 = .ok (.ireturn, 1) := by decide +kernel
theorem d_Maker_endOfBody_36 : decode b_Maker_endOfBody 36 = .ok (.aload_n 0, 1) := by decide +kernel
theorem d_Maker_endOfBody_37 : decode b_Maker_endOfBody 37 = .ok (.getfield 12, 3) := by decide +kernel
theorem d_Maker_endOfBody_40 : decode b_Maker_endOfBody 40 = .ok (.iconst 0, 1) := by decide +kernel
theorem d_Maker_endOfBody_41 : decode b_Maker_endOfBody 41 = .ok (.aload_n 0, 1) := by decide +kernel
theorem d_Maker_endOfBody_42 : decode b_Maker_endOfBody 42 = .ok (.aload_n 0, 1) := by decide +kernel
theorem d_Maker_endOfBody_43 : decode b_Maker_endOfBody 43 = .ok (.getfield 29, 3) := by decide +kernel
theorem d_Maker_endOfBody_46 : decode b_Maker_endOfBody 46 = .ok (.getfield 77, 3) := by decide +kernel
theorem d_Maker_endOfBody_49 : decode b_Maker_endOfBody 49 = .ok (.iload_n 1, 1) := by decide +kernel
theorem d_Maker_endOfBody_50 : decode b_Maker_endOfBody 50 = .ok (.iaload, 1) := by decide +kernel
theorem d_Maker_endOfBody_51 : decode b_Maker_endOfBody 51 = .ok (.invokevirtual 99, 3) := by decide +kernel
theorem d_Maker_endOfBody_54 : decode b_Maker_endOfBody 54 = .ok (.aload_n 0, 1) := by decide +kernel
theorem d_Maker_endOfBody_55 : decode b_Maker_endOfBody 55 = .ok (.getfield 29, 3) := by decide +kernel
theorem d_Maker_endOfBody_58 : decode b_Maker_endOfBody 58 = .ok (.getfield 74, 3) := by decide +kernel
theorem d_Maker_endOfBody_61 : decode b_Maker_endOfBody 61 = .ok (.iload_n 1, 1) := by decide +kernel
theorem d_Maker_endOfBody_62 : decode b_Maker_endOfBody 62 = .ok (.baload, 1) := by decide +kernel
theorem d_Maker_endOfBody_63 : decode b_Maker_endOfBody 63 = .ok (.invokevirtual 57, 3) := by decide +kernel
theorem d_Maker_endOfBody_66 : decode b_Maker_endOfBody 66 = .ok (.istore_n 3, 1) := by decide +kernel
theorem d_Maker_endOfBody_67 : decode b_Maker_endOfBody 67 = .ok (.aload_n 0, 1) := by decide +kernel
theorem d_Maker_endOfBody_68 : decode b_Maker_endOfBody 68 = .ok (.getfield 12, 3) := by decide +kernel
theorem d_Maker_endOfBody_71 : decode b_Maker_endOfBody 71 = .ok (.bipush 7, 2) := by decide +kernel
theorem d_Maker_endOfBody_73 : decode b_Maker_endOfBody 73 = .ok (.iload_n 2, 1) := by decide +kernel
theorem d_Maker_endOfBody_74 : decode b_Maker_endOfBody 74 = .ok (.iload_n 3, 1) := by decide +kernel
theorem d_Maker_endOfBody_75 : decode b_Maker_endOfBody 75 = .ok (.invokevirtual 57, 3) := by decide +kernel
theorem d_Maker_endOfBody_78 : decode b_Maker_endOfBody 78 = .ok (.ireturn, 1) := by decide +kernel
set_option maxHeartbeats 40000000 in
set_option maxRecDepth 100000 in
theorem c_K_endOfBody (l : Launch) (D : va_G) (ax : Nat → ClassId) (c0 c1 : Nat) (s_made : Int32) (sd : Nat → Int32) (n0 n1 n2 n3 cp z9 : Nat) (fo fl fr : Nat → Int32) (h0 h1 h2 h3 zs cs : Nat) (so sl sr : Nat → Int32) (a0 a1 a2 a3 za ca : Nat) (ao al ar : Nat → Int32) (g0 g1 g2 g3 g4 g5 g6 g7 g8 g9 ga gb cl ln br lp va : Nat) (kd ow sb f1 f2 te kp nm ck co : Nat → Nat) (tm : Nat → Int32) (MX : Nat) (en kc : Nat → Nat) (lz9 l0 po : List sgT) (h9 : Nat → Nat × Int32) (IT : Nat → itT) (X Y : Nat → List itT) (s9 : Nat) (sz tz : Nat) (hcp : 8 ≤ cp) (hz9 : z9 ≤ cp) (hmx : cp ≤ MX) (hMX : MX ≤ 100000) (hfo : bts fo cp) (hnv : ndv fo fl fr z9) (hsd : ∀ j, j ≤ 10 → trm (sd j)) (hzs : zs ≤ cs) (hcs : cs ≤ 100000) (hsv : ndv so sl sr zs) (hza : za ≤ ca) (hca : ca ≤ 100000) (hz1 : 1 ≤ za) (hz4 : za ≤ 450) (hav : ndv ao al ar za) (hat : tsn ao al ar (za - 1) ≤ 450) (hlw : lsw ln zs kd ow sb f1 f2 te kp nm en kc tm so sl sr) (hlg : lgQ so sl sr ao al ar zs za ln kd ow sb f1 f2 te kp nm tm lz9 po IT X Y) (hL9 : ndl fo fl fr l0 ∧ l0.length = z9) (hsq : sdq sd h9) (hs9 : s9 < ln) (hk12 : kd s9 = 12) (hbd : 2 * (z9 + 460) ≤ MX) : Met l y_Maker_endOfBody (xws (.code y_Maker_endOfBody b_Maker_endOfBody 4 (some .int))) ({ frames := 1000, cells := MX - cp, slots := 6 * (MX - cp), locals := 21000 }) (va_Pc [.ref c0, .int (nI s9)] (xo3 D ax [(c0, .inr (3, [.ref n0, .ref c1, .ref g0, .ref a0, .int s_made])), (c1, .inl (ax 0, 16, .inl sd)), (n0, .inr (4, [.ref n1, .ref n2, .ref n3, .int (nI z9)])), (n1, .inl (ax 1, cp, .inl fo)), (n2, .inl (ax 0, cp, .inl fl)), (n3, .inl (ax 0, cp, .inl fr)), (h0, .inr (4, [.ref h1, .ref h2, .ref h3, .int (nI zs)])), (h1, .inl (ax 1, cs, .inl so)), (h2, .inl (ax 0, cs, .inl sl)), (h3, .inl (ax 0, cs, .inl sr)), (a0, .inr (4, [.ref a1, .ref a2, .ref a3, .int (nI za)])), (a1, .inl (ax 1, ca, .inl ao)), (a2, .inl (ax 0, ca, .inl al)), (a3, .inl (ax 0, ca, .inl ar)), (g0, .inr (2, [.ref h0, .ref g1, .ref g2, .ref g3, .ref g4, .ref g5, .ref g6, .ref g7, .ref g8, .ref g9, .ref ga, .ref gb, .int (nI cl), .int (nI ln), .int (nI br), .int (nI lp), .int (nI va)])), (g1, .inl (ax 1, 20, .inl (fun j => nI (kd j)))), (g2, .inl (ax 1, 20, .inl (fun j => nI (ow j)))), (g3, .inl (ax 1, 20, .inl (fun j => nI (sb j)))), (g4, .inl (ax 1, 20, .inl (fun j => nI (f1 j)))), (g5, .inl (ax 1, 20, .inl (fun j => nI (f2 j)))), (g6, .inl (ax 2, 20, .inl (fun j => nI (te j)))), (g7, .inl (ax 2, 20, .inl (fun j => nI (kp j)))), (g8, .inl (ax 0, 20, .inl tm)), (g9, .inl (ax 1, 20, .inl (fun j => nI (nm j)))), (ga, .inl (ax 1, 29, .inl (fun j => nI (ck j)))), (gb, .inl (ax 1, 29, .inl (fun j => nI (co j))))] sz tz)) ((va_Qi (fun (r : Int32) (u : Nat → Nat) => r = nI (u 5) ∧ (z9 ≤ u 3 ∧ u 3 ≤ u 4 ∧ cp ≤ u 4 ∧ u 4 ≤ MX ∧ dbl cp (u 4) ∧ u 5 + 1 = u 3 ∧ u 3 ≤ z9 + 460)) (fun (u : Nat → Nat) (t9 : State) => ∃ xsd : Nat → Int32, ∃ xfo : Nat → Int32, ∃ xfl : Nat → Int32, ∃ xfr : Nat → Int32, (t9.heap.size ≤ sz + (u 4 - cp)) ∧ (tsl t9.heap ≤ tz + (6 * (u 4 - cp))) ∧ (ndv xfo xfl xfr (u 3)) ∧ (bts xfo (u 4)) ∧ (∀ i, i < z9 → tsn xfo xfl xfr i = tsn fo fl fr i) ∧ (tsn xfo xfl xfr (u 5) + z9 ≤ u 3) ∧ (∀ j, j ≤ 10 → trm (xsd j)) ∧ (ndl xfo xfl xfr (l0 ++ ptL h9 (odF (IT s9))) ∧ (l0 ++ ptL h9 (odF (IT s9))).length = u 3) ∧ (∃ d, cmpl d (ptL h9 (odF (IT s9)))) ∧ (sdq xsd h9) ∧ va_P D classes [(c0, .inr (3, [.ref n0, .ref c1, .ref g0, .ref a0, .int s_made])), (c1, .inl (ax 0, 16, .inl xsd)), (n0, .inr (4, [.ref (u 0), .ref (u 1), .ref (u 2), .int (nI (u 3))])), (u 0, .inl (ax 1, u 4, .inl xfo)), (u 1, .inl (ax 0, u 4, .inl xfl)), (u 2, .inl (ax 0, u 4, .inl xfr)), (h0, .inr (4, [.ref h1, .ref h2, .ref h3, .int (nI zs)])), (h1, .inl (ax 1, cs, .inl so)), (h2, .inl (ax 0, cs, .inl sl)), (h3, .inl (ax 0, cs, .inl sr)), (a0, .inr (4, [.ref a1, .ref a2, .ref a3, .int (nI za)])), (a1, .inl (ax 1, ca, .inl ao)), (a2, .inl (ax 0, ca, .inl al)), (a3, .inl (ax 0, ca, .inl ar)), (g0, .inr (2, [.ref h0, .ref g1, .ref g2, .ref g3, .ref g4, .ref g5, .ref g6, .ref g7, .ref g8, .ref g9, .ref ga, .ref gb, .int (nI cl), .int (nI ln), .int (nI br), .int (nI lp), .int (nI va)])), (g1, .inl (ax 1, 20, .inl (fun j => nI (kd j)))), (g2, .inl (ax 1, 20, .inl (fun j => nI (ow j)))), (g3, .inl (ax 1, 20, .inl (fun j => nI (sb j)))), (g4, .inl (ax 1, 20, .inl (fun j => nI (f1 j)))), (g5, .inl (ax 1, 20, .inl (fun j => nI (f2 j)))), (g6, .inl (ax 2, 20, .inl (fun j => nI (te j)))), (g7, .inl (ax 2, 20, .inl (fun j => nI (kp j)))), (g8, .inl (ax 0, 20, .inl tm)), (g9, .inl (ax 1, 20, .inl (fun j => nI (nm j)))), (ga, .inl (ax 1, 29, .inl (fun j => nI (ck j)))), (gb, .inl (ax 1, 29, .inl (fun j => nI (co j))))] t9.heap ∧ va_D (va_A [(c0, .inr (3, [.ref n0, .ref c1, .ref g0, .ref a0, .int s_made])), (c1, .inl (ax 0, 16, .inl sd)), (n0, .inr (4, [.ref n1, .ref n2, .ref n3, .int (nI z9)])), (n1, .inl (ax 1, cp, .inl fo)), (n2, .inl (ax 0, cp, .inl fl)), (n3, .inl (ax 0, cp, .inl fr)), (h0, .inr (4, [.ref h1, .ref h2, .ref h3, .int (nI zs)])), (h1, .inl (ax 1, cs, .inl so)), (h2, .inl (ax 0, cs, .inl sl)), (h3, .inl (ax 0, cs, .inl sr)), (a0, .inr (4, [.ref a1, .ref a2, .ref a3, .int (nI za)])), (a1, .inl (ax 1, ca, .inl ao)), (a2, .inl (ax 0, ca, .inl al)), (a3, .inl (ax 0, ca, .inl ar)), (g0, .inr (2, [.ref h0, .ref g1, .ref g2, .ref g3, .ref g4, .ref g5, .ref g6, .ref g7, .ref g8, .ref g9, .ref ga, .ref gb, .int (nI cl), .int (nI ln), .int (nI br), .int (nI lp), .int (nI va)])), (g1, .inl (ax 1, 20, .inl (fun j => nI (kd j)))), (g2, .inl (ax 1, 20, .inl (fun j => nI (ow j)))), (g3, .inl (ax 1, 20, .inl (fun j => nI (sb j)))), (g4, .inl (ax 1, 20, .inl (fun j => nI (f1 j)))), (g5, .inl (ax 1, 20, .inl (fun j => nI (f2 j)))), (g6, .inl (ax 2, 20, .inl (fun j => nI (te j)))), (g7, .inl (ax 2, 20, .inl (fun j => nI (kp j)))), (g8, .inl (ax 0, 20, .inl tm)), (g9, .inl (ax 1, 20, .inl (fun j => nI (nm j)))), (ga, .inl (ax 1, 29, .inl (fun j => nI (ck j)))), (gb, .inl (ax 1, 29, .inl (fun j => nI (co j))))] sz) [(c0, .inr (3, [.ref n0, .ref c1, .ref g0, .ref a0, .int s_made])), (c1, .inl (ax 0, 16, .inl xsd)), (n0, .inr (4, [.ref (u 0), .ref (u 1), .ref (u 2), .int (nI (u 3))])), (u 0, .inl (ax 1, u 4, .inl xfo)), (u 1, .inl (ax 0, u 4, .inl xfl)), (u 2, .inl (ax 0, u 4, .inl xfr)), (h0, .inr (4, [.ref h1, .ref h2, .ref h3, .int (nI zs)])), (h1, .inl (ax 1, cs, .inl so)), (h2, .inl (ax 0, cs, .inl sl)), (h3, .inl (ax 0, cs, .inl sr)), (a0, .inr (4, [.ref a1, .ref a2, .ref a3, .int (nI za)])), (a1, .inl (ax 1, ca, .inl ao)), (a2, .inl (ax 0, ca, .inl al)), (a3, .inl (ax 0, ca, .inl ar)), (g0, .inr (2, [.ref h0, .ref g1, .ref g2, .ref g3, .ref g4, .ref g5, .ref g6, .ref g7, .ref g8, .ref g9, .ref ga, .ref gb, .int (nI cl), .int (nI ln), .int (nI br), .int (nI lp), .int (nI va)])), (g1, .inl (ax 1, 20, .inl (fun j => nI (kd j)))), (g2, .inl (ax 1, 20, .inl (fun j => nI (ow j)))), (g3, .inl (ax 1, 20, .inl (fun j => nI (sb j)))), (g4, .inl (ax 1, 20, .inl (fun j => nI (f1 j)))), (g5, .inl (ax 1, 20, .inl (fun j => nI (f2 j)))), (g6, .inl (ax 2, 20, .inl (fun j => nI (te j)))), (g7, .inl (ax 2, 20, .inl (fun j => nI (kp j)))), (g8, .inl (ax 0, 20, .inl tm)), (g9, .inl (ax 1, 20, .inl (fun j => nI (nm j)))), (ga, .inl (ax 1, 29, .inl (fun j => nI (ck j)))), (gb, .inl (ax 1, 29, .inl (fun j => nI (co j))))]) (va_A [(c0, .inr (3, [.ref n0, .ref c1, .ref g0, .ref a0, .int s_made])), (c1, .inl (ax 0, 16, .inl sd)), (n0, .inr (4, [.ref n1, .ref n2, .ref n3, .int (nI z9)])), (n1, .inl (ax 1, cp, .inl fo)), (n2, .inl (ax 0, cp, .inl fl)), (n3, .inl (ax 0, cp, .inl fr)), (h0, .inr (4, [.ref h1, .ref h2, .ref h3, .int (nI zs)])), (h1, .inl (ax 1, cs, .inl so)), (h2, .inl (ax 0, cs, .inl sl)), (h3, .inl (ax 0, cs, .inl sr)), (a0, .inr (4, [.ref a1, .ref a2, .ref a3, .int (nI za)])), (a1, .inl (ax 1, ca, .inl ao)), (a2, .inl (ax 0, ca, .inl al)), (a3, .inl (ax 0, ca, .inl ar)), (g0, .inr (2, [.ref h0, .ref g1, .ref g2, .ref g3, .ref g4, .ref g5, .ref g6, .ref g7, .ref g8, .ref g9, .ref ga, .ref gb, .int (nI cl), .int (nI ln), .int (nI br), .int (nI lp), .int (nI va)])), (g1, .inl (ax 1, 20, .inl (fun j => nI (kd j)))), (g2, .inl (ax 1, 20, .inl (fun j => nI (ow j)))), (g3, .inl (ax 1, 20, .inl (fun j => nI (sb j)))), (g4, .inl (ax 1, 20, .inl (fun j => nI (f1 j)))), (g5, .inl (ax 1, 20, .inl (fun j => nI (f2 j)))), (g6, .inl (ax 2, 20, .inl (fun j => nI (te j)))), (g7, .inl (ax 2, 20, .inl (fun j => nI (kp j)))), (g8, .inl (ax 0, 20, .inl tm)), (g9, .inl (ax 1, 20, .inl (fun j => nI (nm j)))), (ga, .inl (ax 1, 29, .inl (fun j => nI (ck j)))), (gb, .inl (ax 1, 29, .inl (fun j => nI (co j))))] sz))) (MX - cp) (6 * (MX - cp)) (va_A [(c0, .inr (3, [.ref n0, .ref c1, .ref g0, .ref a0, .int s_made])), (c1, .inl (ax 0, 16, .inl sd)), (n0, .inr (4, [.ref n1, .ref n2, .ref n3, .int (nI z9)])), (n1, .inl (ax 1, cp, .inl fo)), (n2, .inl (ax 0, cp, .inl fl)), (n3, .inl (ax 0, cp, .inl fr)), (h0, .inr (4, [.ref h1, .ref h2, .ref h3, .int (nI zs)])), (h1, .inl (ax 1, cs, .inl so)), (h2, .inl (ax 0, cs, .inl sl)), (h3, .inl (ax 0, cs, .inl sr)), (a0, .inr (4, [.ref a1, .ref a2, .ref a3, .int (nI za)])), (a1, .inl (ax 1, ca, .inl ao)), (a2, .inl (ax 0, ca, .inl al)), (a3, .inl (ax 0, ca, .inl ar)), (g0, .inr (2, [.ref h0, .ref g1, .ref g2, .ref g3, .ref g4, .ref g5, .ref g6, .ref g7, .ref g8, .ref g9, .ref ga, .ref gb, .int (nI cl), .int (nI ln), .int (nI br), .int (nI lp), .int (nI va)])), (g1, .inl (ax 1, 20, .inl (fun j => nI (kd j)))), (g2, .inl (ax 1, 20, .inl (fun j => nI (ow j)))), (g3, .inl (ax 1, 20, .inl (fun j => nI (sb j)))), (g4, .inl (ax 1, 20, .inl (fun j => nI (f1 j)))), (g5, .inl (ax 1, 20, .inl (fun j => nI (f2 j)))), (g6, .inl (ax 2, 20, .inl (fun j => nI (te j)))), (g7, .inl (ax 2, 20, .inl (fun j => nI (kp j)))), (g8, .inl (ax 0, 20, .inl tm)), (g9, .inl (ax 1, 20, .inl (fun j => nI (nm j)))), (ga, .inl (ax 1, 29, .inl (fun j => nI (ck j)))), (gb, .inl (ax 1, 29, .inl (fun j => nI (co j))))] sz) := by
  refine Met.ofW (cc := b_Maker_endOfBody) (maxL := 4) (ret := (some .int)) (by decide) rfl ?_
  intro p e s m args below meth c s₁ B hml hv
  obtain ⟨rfl, ⟨hsz, hP, hK, hD0⟩, htz⟩ := hv
  have hx := B.exec
  have hb := B.bytes
  have hr := B.returns
  have hts := xw_hts B.pre
  have hown : s.vm.findClass R_Maker = some m.cls := findClass_of_methodNamed B.named
  have hlocks := B.notSynchronized
  subst hsz
  subst htz
  have hD := hD0.self (sz := s.heap.size)
  have hN := xz_entry hP
  generalize hAe : va_A [(c0, .inr (3, [.ref n0, .ref c1, .ref g0, .ref a0, .int s_made])), (c1, .inl (ax 0, 16, .inl sd)), (n0, .inr (4, [.ref n1, .ref n2, .ref n3, .int (nI z9)])), (n1, .inl (ax 1, cp, .inl fo)), (n2, .inl (ax 0, cp, .inl fl)), (n3, .inl (ax 0, cp, .inl fr)), (h0, .inr (4, [.ref h1, .ref h2, .ref h3, .int (nI zs)])), (h1, .inl (ax 1, cs, .inl so)), (h2, .inl (ax 0, cs, .inl sl)), (h3, .inl (ax 0, cs, .inl sr)), (a0, .inr (4, [.ref a1, .ref a2, .ref a3, .int (nI za)])), (a1, .inl (ax 1, ca, .inl ao)), (a2, .inl (ax 0, ca, .inl al)), (a3, .inl (ax 0, ca, .inl ar)), (g0, .inr (2, [.ref h0, .ref g1, .ref g2, .ref g3, .ref g4, .ref g5, .ref g6, .ref g7, .ref g8, .ref g9, .ref ga, .ref gb, .int (nI cl), .int (nI ln), .int (nI br), .int (nI lp), .int (nI va)])), (g1, .inl (ax 1, 20, .inl (fun j => nI (kd j)))), (g2, .inl (ax 1, 20, .inl (fun j => nI (ow j)))), (g3, .inl (ax 1, 20, .inl (fun j => nI (sb j)))), (g4, .inl (ax 1, 20, .inl (fun j => nI (f1 j)))), (g5, .inl (ax 1, 20, .inl (fun j => nI (f2 j)))), (g6, .inl (ax 2, 20, .inl (fun j => nI (te j)))), (g7, .inl (ax 2, 20, .inl (fun j => nI (kp j)))), (g8, .inl (ax 0, 20, .inl tm)), (g9, .inl (ax 1, 20, .inl (fun j => nI (nm j)))), (ga, .inl (ax 1, 29, .inl (fun j => nI (ck j)))), (gb, .inl (ax 1, 29, .inl (fun j => nI (co j))))] s.heap.size = A at hD hN ⊢
  have hA : ∀ q : Nat, s.heap.size ≤ q → A q := fun q h => by rw [← hAe]; exact Or.inr h
  have hS : va_S A s.heap s.heap [] := va_S.rf
  have hl0 := lv_entry ([.ref c0, .int (nI s9)]) (n := 4) (Nat.le_of_ble_eq_true rfl)
  rw [lg_entry_eq]
  generalize (lg_sl ([.ref c0, .int (nI s9)]) ++ List.replicate (4 - (lg_sl ([.ref c0, .int (nI s9)])).length) Slot.unset).toArray = ls at hl0 ⊢
  have hl1 : lv_has ls 4 [(0, .ref c0), (1, .int (nI s9))] := hl0
  refine xw_gen (fun Z9 hQe => ?_)
  obtain ⟨hkc, hln, hzz⟩ := hlw.bk hs9
  obtain ⟨hte, hkp, htk, hf1a, hf1b, hnm⟩ := hlw.wh hs9 hk12
  refine lv_aload_n hx hb d_Maker_endOfBody_0 rfl (lv_at hl1 0 rfl) ?_
  refine lv_aload_n hx hb d_Maker_endOfBody_1 rfl (lv_at hl1 0 rfl) ?_
  refine va_get (D := D) (ci := 3) (v := .ref g0) (C := R_Maker) (T := F_Maker) (N := 5) hx hb hts i_Maker hown hK.1 hP 0 rfl rfl 2 (by decide) (hts _ wd_132) (fun _ h9 => h9) rfl d_Maker_endOfBody_2 ?_
  refine va_get (D := D) (ci := 2) (v := .ref h0) (C := R_Listing) (T := F_Listing) (N := 17) hx hb hts i_Listing hown hK.1 hP 14 rfl rfl 0 (by decide) (hts _ wd_269) (fun _ h9 => h9) rfl d_Maker_endOfBody_5 ?_
  refine lv_aload_n hx hb d_Maker_endOfBody_8 rfl (lv_at hl1 0 rfl) ?_
  refine va_get (D := D) (ci := 3) (v := .ref g0) (C := R_Maker) (T := F_Maker) (N := 5) hx hb hts i_Maker hown hK.1 hP 0 rfl rfl 2 (by decide) (hts _ wd_132) (fun _ h9 => h9) rfl d_Maker_endOfBody_9 ?_
  refine va_get (D := D) (ci := 2) (v := .ref g7) (C := R_Listing) (T := F_Listing) (N := 17) hx hb hts i_Listing hown hK.1 hP 14 rfl rfl 7 (by decide) (hts _ wd_290) (fun _ h9 => h9) rfl d_Maker_endOfBody_12 ?_
  refine lv_iload_n hx hb d_Maker_endOfBody_15 rfl (lv_at hl1 1 rfl) ?_
  refine va_sald hx hb hK.1 hP 21 2 rfl rfl (vp_in_nI (by first | assumption | omega) (by decide)) d_Maker_endOfBody_16 ?_
  refine W.eq (g2 := F0 m 17 ls [.int (nI (kp s9)), .ref h0, .ref c0]) (by rw [nI_clamp (by first | exact Nat.lt_of_lt_of_le (by assumption) (by decide) | exact Nat.lt_of_le_of_lt (by assumption) (by decide) | omega)]) ?_
  obtain ⟨hPc, hDc, hFc, hCs⟩ := xw_sub3 (wc := [(c0, .inr (3, [.ref n0, .ref c1, (.ref g0), (.ref a0), .int s_made])), (c1, .inl (ax 0, 16, .inl sd)), (n0, .inr (4, [.ref n1, .ref n2, .ref n3, .int (nI z9)])), (n1, .inl (ax 1, cp, .inl fo)), (n2, .inl (ax 0, cp, .inl fl)), (n3, .inl (ax 0, cp, .inl fr)), (h0, .inr (4, [.ref h1, .ref h2, .ref h3, .int (nI zs)])), (h1, .inl (ax 1, cs, .inl so)), (h2, .inl (ax 0, cs, .inl sl)), (h3, .inl (ax 0, cs, .inl sr))]) hP hD hS hA [0, 1, 2, 3, 4, 5, 6, 7, 8, 9] (by decide) rfl
  have hz := xz_of hN hS
  refine wk_know (fun hk8 hk9 => ?_)
  refine va_calli (va_runV (As := [.ref h0, .int (nI (kp s9))]) (rest := []) ⟨hx, hb, hml, hown, hts⟩ ((K_copy_all l (kp s9)) D ax c0 c1 (.ref g0) (.ref a0) s_made sd n0 n1 n2 n3 cp z9 fo fl fr h0 h1 h2 h3 zs cs so sl sr MX lz9 l0 h9 1023 s.heap.size (tsl s.heap) (by first | assumption | omega) (by first | assumption | omega) (by first | assumption | omega) (by first | assumption | omega) (by assumption) (by assumption) (by assumption) hzs hcs (by first | assumption | omega) hsv (by first | assumption | omega) hlg.1 (by assumption) (sdq.s (by assumption))) (xcV (n := 2) hts wd_776 wd_4 wd_773 wd_775 ps_23 rfl rfl (by decide +kernel) ⟨(show (50 + 2 * (kp s9)) + 1 ≤ (1000) by omega), (show 8 + (5 + 11) + (2000 + 40 * (kp s9)) ≤ (21000) by omega)⟩) (xpV3 (ci := 3) (q0 := 0) (As := [.ref h0, .int (nI (kp s9))]) hPc hK hz hDc rfl rfl) rfl rfl hl1.1 rfl (lv_room (Nat.le_of_ble_eq_true rfl)) d_Maker_endOfBody_17 ⟨(show (0) + (MX - cp) ≤ (MX - cp) by omega), (show (0) + (6 * (MX - cp)) ≤ (6 * (MX - cp)) by omega)⟩) hS (fun q _ h => hFc q h) hFc (fun r_3 u_1 t H_2 locs ht hvm hw hB hz1 hk1 hS1 => ?_)
  try dsimp only at hw
  obtain ⟨hw, hs_4, hs_5, hs_6, hs_7, hs_8, hs_9, hs_10⟩ := hw
  subst hw
  obtain ⟨x_11, x_12, x_13, hg8, hg9, hx_14, hx_15, hx_16, hx_17, hx_18, hx_19, hP1, hD1⟩ := hB
  rw [ht] at hg8 hg9 hP1
  have hjn := xw_join3 (wl := [(a0, .inr (4, [.ref a1, .ref a2, .ref a3, .int (nI za)])), (a1, .inl (ax 1, ca, .inl ao)), (a2, .inl (ax 0, ca, .inl al)), (a3, .inl (ax 0, ca, .inl ar)), (g0, .inr (2, [.ref h0, .ref g1, .ref g2, .ref g3, .ref g4, .ref g5, .ref g6, .ref g7, .ref g8, .ref g9, .ref ga, .ref gb, .int (nI cl), .int (nI ln), .int (nI br), .int (nI lp), .int (nI va)])), (g1, .inl (ax 1, 20, .inl (fun j => nI (kd j)))), (g2, .inl (ax 1, 20, .inl (fun j => nI (ow j)))), (g3, .inl (ax 1, 20, .inl (fun j => nI (sb j)))), (g4, .inl (ax 1, 20, .inl (fun j => nI (f1 j)))), (g5, .inl (ax 1, 20, .inl (fun j => nI (f2 j)))), (g6, .inl (ax 2, 20, .inl (fun j => nI (te j)))), (g7, .inl (ax 2, 20, .inl (fun j => nI (kp j)))), (g8, .inl (ax 0, 20, .inl tm)), (g9, .inl (ax 1, 20, .inl (fun j => nI (nm j)))), (ga, .inl (ax 1, 29, .inl (fun j => nI (ck j)))), (gb, .inl (ax 1, 29, .inl (fun j => nI (co j)))), (c0, .inr (3, [.ref n0, .ref c1, .ref g0, .ref a0, .int s_made])), (c1, .inl (ax 0, 16, .inl sd)), (n0, .inr (4, [.ref (u_1 0), .ref (u_1 1), .ref (u_1 2), .int (nI (u_1 3))])), ((u_1 0), .inl (ax 1, u_1 4, .inl x_11)), ((u_1 1), .inl (ax 0, u_1 4, .inl x_12)), ((u_1 2), .inl (ax 0, u_1 4, .inl x_13)), (h0, .inr (4, [.ref h1, .ref h2, .ref h3, .int (nI zs)])), (h1, .inl (ax 1, cs, .inl so)), (h2, .inl (ax 0, cs, .inl sl)), (h3, .inl (ax 0, cs, .inl sr))]) hP hD [0, 1, 2, 3, 4, 5, 6, 7, 8, 9] [10, 11, 12, 13, 14, 15, 16, 17, 18, 19, 20, 21, 22, 23, 24, 25] hCs (by decide) (by decide) hk1 hFc hP1 hD1 rfl
  clear hP1 hD1
  clear hPc hDc hFc hCs hz hz1 hk1 ht hvm
  clear hP hD hS
  have hS := hS1
  obtain ⟨hP, hD⟩ := hjn
  clear hS1
  refine wk_narrow (k := u_1 4 - cp) (n := 6 * (u_1 4 - cp)) (by first | assumption | omega) (by first | assumption | omega) ?_
  clear hk8 hk9 hg8 hg9
  have hK_20 : ∀ i, i < z9 → tsn x_11 x_12 x_13 i = tsn fo fl fr i := fun i hi => hx_16 i hi
  refine lv_istore_n (lv' := [(2, .int (nI (u_1 5))), (0, .ref c0), (1, .int (nI s9))]) hx hb d_Maker_endOfBody_20 rfl hl1 (by decide) rfl (fun ls hl2 => ?_)
  clear hl1; have hl1 := hl2; clear hl2
  refine lv_aload_n hx hb d_Maker_endOfBody_21 rfl (lv_at hl1 1 rfl) ?_
  refine va_get (D := D) (ci := 3) (v := .ref g0) (C := R_Maker) (T := F_Maker) (N := 5) hx hb hts i_Maker hown hK.1 hP 16 rfl rfl 2 (by decide) (hts _ wd_132) (fun _ h9 => h9) rfl d_Maker_endOfBody_22 ?_
  refine va_get (D := D) (ci := 2) (v := .ref g9) (C := R_Listing) (T := F_Listing) (N := 17) hx hb hts i_Listing hown hK.1 hP 4 rfl rfl 9 (by decide) (hts _ wd_298) (fun _ h9 => h9) rfl d_Maker_endOfBody_25 ?_
  refine lv_iload_n hx hb d_Maker_endOfBody_28 rfl (lv_at hl1 2 rfl) ?_
  refine va_bald hx hb hK.1 hP 13 1 rfl rfl (vp_in_nI (by first | assumption | omega) (by decide)) d_Maker_endOfBody_29 ?_
  refine W.eq (g2 := F0 m 30 ls [.int (nI (nm s9))]) (by rw [nI_clamp (by first | exact Nat.lt_of_lt_of_le (by assumption) (by decide) | exact Nat.lt_of_le_of_lt (by assumption) (by decide) | omega)]) ?_
  refine lv_iconst (v := (-1)) hx hb d_Maker_endOfBody_30 (by decide) ?_
  by_cases hn_21 : nm s9 = 4294967295
  · refine W.eq (g2 := F0 m 31 ls [.int (-1), .int (-1)]) (by rw [hn_21, nIm]) ?_
    refine lv_icmp_ne (tgt := 36) hx hb d_Maker_endOfBody_31 (by decide) (fun c_22 => ?_) (fun c_22 => ?_)
    · first | exact absurd c_22 (by decide) | exact absurd (by decide) c_22
    refine lv_iload_n hx hb d_Maker_endOfBody_34 rfl (lv_at hl1 0 rfl) ?_
    rw [← hQe]
    refine wk_know (fun hk8 hk9 => ?_)
    refine W.widen (k := MX - cp) (n := 6 * (MX - cp)) (by first | assumption | omega) (by first | assumption | omega) ?_
    obtain ⟨hP9, hD9⟩ := xw_sub2 (wc := (fun (u : Nat → Nat) (xsd : Nat → Int32) (xfo : Nat → Int32) (xfl : Nat → Int32) (xfr : Nat → Int32) => [(c0, .inr (3, [.ref n0, .ref c1, .ref g0, .ref a0, .int s_made])), (c1, .inl (ax 0, 16, .inl xsd)), (n0, .inr (4, [.ref (u 0), .ref (u 1), .ref (u 2), .int (nI (u 3))])), (u 0, .inl (ax 1, u 4, .inl xfo)), (u 1, .inl (ax 0, u 4, .inl xfl)), (u 2, .inl (ax 0, u 4, .inl xfr)), (h0, .inr (4, [.ref h1, .ref h2, .ref h3, .int (nI zs)])), (h1, .inl (ax 1, cs, .inl so)), (h2, .inl (ax 0, cs, .inl sl)), (h3, .inl (ax 0, cs, .inl sr)), (a0, .inr (4, [.ref a1, .ref a2, .ref a3, .int (nI za)])), (a1, .inl (ax 1, ca, .inl ao)), (a2, .inl (ax 0, ca, .inl al)), (a3, .inl (ax 0, ca, .inl ar)), (g0, .inr (2, [.ref h0, .ref g1, .ref g2, .ref g3, .ref g4, .ref g5, .ref g6, .ref g7, .ref g8, .ref g9, .ref ga, .ref gb, .int (nI cl), .int (nI ln), .int (nI br), .int (nI lp), .int (nI va)])), (g1, .inl (ax 1, 20, .inl (fun j => nI (kd j)))), (g2, .inl (ax 1, 20, .inl (fun j => nI (ow j)))), (g3, .inl (ax 1, 20, .inl (fun j => nI (sb j)))), (g4, .inl (ax 1, 20, .inl (fun j => nI (f1 j)))), (g5, .inl (ax 1, 20, .inl (fun j => nI (f2 j)))), (g6, .inl (ax 2, 20, .inl (fun j => nI (te j)))), (g7, .inl (ax 2, 20, .inl (fun j => nI (kp j)))), (g8, .inl (ax 0, 20, .inl tm)), (g9, .inl (ax 1, 20, .inl (fun j => nI (nm j)))), (ga, .inl (ax 1, 29, .inl (fun j => nI (ck j)))), (gb, .inl (ax 1, 29, .inl (fun j => nI (co j))))]) (ixn [(u_1 0), (u_1 1), (u_1 2), (u_1 3), (u_1 4), (u_1 5)]) sd x_11 x_12 x_13) hP hD [16, 17, 18, 19, 20, 21, 22, 23, 24, 25, 0, 1, 2, 3, 4, 5, 6, 7, 8, 9, 10, 11, 12, 13, 14, 15] (by decide) rfl
    have hex0 : ndv x_11 x_12 x_13 ((u_1 3)) := hx_14
    have hex1 : bts x_11 ((u_1 4)) := (by assumption)
    have hex2 : ∀ i, i < z9 → tsn x_11 x_12 x_13 i = tsn fo fl fr i := hK_20
    have hex3 : tsn x_11 x_12 x_13 ((u_1 5)) + z9 ≤ (u_1 3) := (by first | assumption | omega)
    have hex4 : ∀ j, j ≤ 10 → trm (sd j) := hsd
    have hex5 : ndl x_11 x_12 x_13 (l0 ++ ptL h9 (odF (IT s9))) ∧ (l0 ++ ptL h9 (odF (IT s9))).length = (u_1 3) := (by rw [q_od0 hlg hs9 hk12 hn_21]; exact hx_18)
    have hex6 : ∃ d, cmpl d (ptL h9 (odF (IT s9))) := (by rw [q_od0 hlg hs9 hk12 hn_21]; exact ⟨_, hx_19⟩)
    have hex7 : sdq sd h9 := hsq
    have hg8 : H_2.size ≤ s.heap.size + ((u_1 4) - cp) := by omega
    have hg9 : tsl H_2 ≤ tsl s.heap + (6 * ((u_1 4) - cp)) := by omega
    have hsp0 : z9 ≤ (u_1 3) := (by first | assumption | omega)
    have hsp1 : (u_1 3) ≤ (u_1 4) := (by first | assumption | omega)
    have hsp2 : cp ≤ (u_1 4) := (by first | assumption | omega)
    have hsp3 : (u_1 4) ≤ MX := (by first | assumption | omega)
    have hsp4 : dbl cp ((u_1 4)) := hs_8
    have hsp5 : (u_1 5) + 1 = (u_1 3) := (by first | assumption | omega)
    have hsp6 : (u_1 3) ≤ z9 + 460 := (by first | assumption | omega)
    exact W.iret (v := nI (u_1 5)) hx hb hr (fun t ht hW => ⟨⟨nI (u_1 5), ixn [(u_1 0), (u_1 1), (u_1 2), (u_1 3), (u_1 4), (u_1 5)], rfl, ⟨rfl, ⟨hsp0, hsp1, hsp2, hsp3, hsp4, hsp5, hsp6⟩⟩, ⟨sd, x_11, x_12, x_13, by rw [ht]; exact hg8, by rw [ht]; exact hg9, hex0, hex1, hex2, hex3, hex4, hex5, hex6, hex7, by rw [ht]; exact hP9, hD9⟩⟩, hS.F ht⟩) hS.2.2 d_Maker_endOfBody_35
  · have hn_21l : nm s9 < 2 ^ 31 := by have h9 := (hnm.resolve_left hn_21).1; omega
    refine lv_icmp_ne (tgt := 36) hx hb d_Maker_endOfBody_31 (by decide) (fun c_23 => ?_) (fun c_23 => ?_)
    rotate_right
    · exact absurd c_23 (nIm1 (by first | assumption | omega))
    obtain ⟨hn10, htm⟩ := hnm.resolve_left hn_21
    have hit := ((hlg.2.2.2 s9 hs9).2.2.2.2.2 hk12).2.2.2.2.resolve_left (fun q => hn_21 q.1)
    have hit6 := hit.1
    refine lv_aload_n hx hb d_Maker_endOfBody_36 rfl (lv_at hl1 1 rfl) ?_
    refine va_get (D := D) (ci := 3) (v := .ref n0) (C := R_Maker) (T := F_Maker) (N := 5) hx hb hts i_Maker hown hK.1 hP 16 rfl rfl 0 (by decide) (hts _ wd_129) (fun _ h9 => h9) rfl d_Maker_endOfBody_37 ?_
    refine lv_iconst (v := 0) hx hb d_Maker_endOfBody_40 (by decide) ?_
    refine lv_aload_n hx hb d_Maker_endOfBody_41 rfl (lv_at hl1 1 rfl) ?_
    refine lv_aload_n hx hb d_Maker_endOfBody_42 rfl (lv_at hl1 1 rfl) ?_
    refine va_get (D := D) (ci := 3) (v := .ref g0) (C := R_Maker) (T := F_Maker) (N := 5) hx hb hts i_Maker hown hK.1 hP 16 rfl rfl 2 (by decide) (hts _ wd_132) (fun _ h9 => h9) rfl d_Maker_endOfBody_43 ?_
    refine va_get (D := D) (ci := 2) (v := .ref g8) (C := R_Listing) (T := F_Listing) (N := 17) hx hb hts i_Listing hown hK.1 hP 4 rfl rfl 8 (by decide) (hts _ wd_294) (fun _ h9 => h9) rfl d_Maker_endOfBody_46 ?_
    refine lv_iload_n hx hb d_Maker_endOfBody_49 rfl (lv_at hl1 2 rfl) ?_
    refine va_iald hx hb hK.1 hP 12 0 rfl rfl (vp_in_nI (by first | assumption | omega) (by decide)) d_Maker_endOfBody_50 ?_
    refine W.eq (g2 := F0 m 51 ls [.int (tm s9), .ref c0, .int 0, .ref n0]) (by rw [nI_clamp (by first | exact Nat.lt_of_lt_of_le (by assumption) (by decide) | exact Nat.lt_of_le_of_lt (by assumption) (by decide) | omega)]) ?_
    obtain ⟨hPc, hDc, hFc, hCs⟩ := xw_sub3 (wc := [(c0, .inr (3, [.ref n0, .ref c1, (.ref g0), (.ref a0), .int s_made])), (c1, .inl (ax 0, 16, .inl sd))]) hP hD hS hA [16, 17] (by decide) rfl
    have hz := xz_of hN hS
    refine va_calli (va_runV (As := [.int (tm s9)]) (rest := [.int 0, .ref n0]) ⟨hx, hb, hml, hown, hts⟩ (c_K_put l D ax c0 c1 (.ref g0) (.ref a0) s_made sd n0 (tm s9) ((IT s9).2.2.2.1) h9 H_2.size hsd (by assumption) hsq.1 hit.2.2.2.2.1 hit.2.2.2.1) (xcV (n := 1) hts wd_780 wd_4 wd_777 wd_779 ps_24 rfl rfl (by decide +kernel) ⟨(show (10) + 1 ≤ (1000) by omega), (show 8 + (2 + 11) + (400) ≤ (21000) by omega)⟩) (xpV (ci := 3) (q0 := 0) (As := [.int (tm s9)]) hPc hK hz hDc rfl rfl) rfl rfl hl1.1 rfl (lv_room (Nat.le_of_ble_eq_true rfl)) d_Maker_endOfBody_51 ⟨(show (u_1 4 - cp) + (0) ≤ (MX - cp) by omega), (show (6 * (u_1 4 - cp)) + (0) ≤ (6 * (MX - cp)) by omega)⟩) hS (fun q _ h => hFc q h) hFc (fun r_26 u_24 t H_25 locs ht hvm hw hB hz1 hk1 hS1 => ?_)
    try dsimp only at hw
    obtain ⟨hw, hs_27, hs_28⟩ := hw
    subst hw
    obtain ⟨hP1, hD1⟩ := hB
    rw [ht] at hP1
    have hjn := xw_join3 (wl := [(a0, .inr (4, [.ref a1, .ref a2, .ref a3, .int (nI za)])), (a1, .inl (ax 1, ca, .inl ao)), (a2, .inl (ax 0, ca, .inl al)), (a3, .inl (ax 0, ca, .inl ar)), (g0, .inr (2, [.ref h0, .ref g1, .ref g2, .ref g3, .ref g4, .ref g5, .ref g6, .ref g7, .ref g8, .ref g9, .ref ga, .ref gb, .int (nI cl), .int (nI ln), .int (nI br), .int (nI lp), .int (nI va)])), (g1, .inl (ax 1, 20, .inl (fun j => nI (kd j)))), (g2, .inl (ax 1, 20, .inl (fun j => nI (ow j)))), (g3, .inl (ax 1, 20, .inl (fun j => nI (sb j)))), (g4, .inl (ax 1, 20, .inl (fun j => nI (f1 j)))), (g5, .inl (ax 1, 20, .inl (fun j => nI (f2 j)))), (g6, .inl (ax 2, 20, .inl (fun j => nI (te j)))), (g7, .inl (ax 2, 20, .inl (fun j => nI (kp j)))), (g8, .inl (ax 0, 20, .inl tm)), (g9, .inl (ax 1, 20, .inl (fun j => nI (nm j)))), (ga, .inl (ax 1, 29, .inl (fun j => nI (ck j)))), (gb, .inl (ax 1, 29, .inl (fun j => nI (co j)))), (n0, .inr (4, [.ref (u_1 0), .ref (u_1 1), .ref (u_1 2), .int (nI (u_1 3))])), ((u_1 0), .inl (ax 1, u_1 4, .inl x_11)), ((u_1 1), .inl (ax 0, u_1 4, .inl x_12)), ((u_1 2), .inl (ax 0, u_1 4, .inl x_13)), (h0, .inr (4, [.ref h1, .ref h2, .ref h3, .int (nI zs)])), (h1, .inl (ax 1, cs, .inl so)), (h2, .inl (ax 0, cs, .inl sl)), (h3, .inl (ax 0, cs, .inl sr)), (c0, .inr (3, [.ref n0, .ref c1, .ref g0, .ref a0, .int s_made])), (c1, .inl (ax 0, 16, .inl sd))]) hP hD [16, 17] [0, 1, 2, 3, 4, 5, 6, 7, 8, 9, 10, 11, 12, 13, 14, 15, 18, 19, 20, 21, 22, 23, 24, 25] hCs (by decide) (by decide) hk1 hFc hP1 hD1 rfl
    clear hP1 hD1
    clear hPc hDc hFc hCs hz hz1 hk1 ht hvm
    clear hP hD hS
    have hS := hS1
    obtain ⟨hP, hD⟩ := hjn
    clear hS1
    refine lv_aload_n hx hb d_Maker_endOfBody_54 rfl (lv_at hl1 1 rfl) ?_
    refine va_get (D := D) (ci := 3) (v := .ref g0) (C := R_Maker) (T := F_Maker) (N := 5) hx hb hts i_Maker hown hK.1 hP 24 rfl rfl 2 (by decide) (hts _ wd_132) (fun _ h9 => h9) rfl d_Maker_endOfBody_55 ?_
    refine va_get (D := D) (ci := 2) (v := .ref g9) (C := R_Listing) (T := F_Listing) (N := 17) hx hb hts i_Listing hown hK.1 hP 4 rfl rfl 9 (by decide) (hts _ wd_298) (fun _ h9 => h9) rfl d_Maker_endOfBody_58 ?_
    refine lv_iload_n hx hb d_Maker_endOfBody_61 rfl (lv_at hl1 2 rfl) ?_
    refine va_bald hx hb hK.1 hP 13 1 rfl rfl (vp_in_nI (by first | assumption | omega) (by decide)) d_Maker_endOfBody_62 ?_
    refine W.eq (g2 := F0 m 63 ls [.int (nI (nm s9)), .int (nI (u_24 0)), .int 0, .ref n0]) (by rw [nI_clamp (by first | exact Nat.lt_of_lt_of_le (by assumption) (by decide) | exact Nat.lt_of_le_of_lt (by assumption) (by decide) | omega)]) ?_
    obtain ⟨hPc, hDc, hFc, hCs⟩ := xw_sub3 (wc := [(n0, .inr (4, [.ref (u_1 0), .ref (u_1 1), .ref (u_1 2), .int (nI (u_1 3))])), ((u_1 0), .inl (ax 1, u_1 4, .inl x_11)), ((u_1 1), .inl (ax 0, u_1 4, .inl x_12)), ((u_1 2), .inl (ax 0, u_1 4, .inl x_13))]) hP hD hS hA [16, 17, 18, 19] (by decide) rfl
    have hz := xz_of hN hS
    refine wk_know (fun hk8 hk9 => ?_)
    refine va_calli (va_runV (As := [.int 0, .int (nI (u_24 0)), .int (nI (nm s9))]) (rest := []) ⟨hx, hb, hml, hown, hts⟩ (c_Nodes_add l D ax n0 (u_1 0) (u_1 1) (u_1 2) (u_1 4) (u_1 3) x_11 x_12 x_13 MX 0 (nI (u_24 0)) (nI (nm s9)) H_25.size (tsl H_25) (by first | assumption | omega) (by first | assumption | omega) (by first | assumption | omega) (by first | assumption | omega) (by first | assumption | omega) (by assumption)) (xcV (n := 3) hts wd_350 wd_5 wd_781 wd_348 wd_349 rfl rfl (by decide +kernel) ⟨(show (30) + 1 ≤ (1000) by omega), (show 8 + (4 + 11) + (1200) ≤ (21000) by omega)⟩) (xpV3 (ci := 4) (q0 := 0) (As := [.int 0, .int (nI (u_24 0)), .int (nI (nm s9))]) hPc hK hz hDc rfl rfl) rfl rfl hl1.1 rfl (lv_room (Nat.le_of_ble_eq_true rfl)) d_Maker_endOfBody_63 ⟨(show (u_1 4 - cp) + (MX - (u_1 4)) ≤ (MX - cp) by omega), (show (6 * (u_1 4 - cp)) + (6 * (MX - (u_1 4))) ≤ (6 * (MX - cp)) by omega)⟩) hS (fun q _ h => hFc q h) hFc (fun r_31 u_29 t H_30 locs ht hvm hw hB hz1 hk1 hS1 => ?_)
    try dsimp only at hw
    obtain ⟨hw, hs_32, hs_33, hs_34, hs_35⟩ := hw
    subst hw
    obtain ⟨x_36, x_37, x_38, hg8, hg9, hx_39, hx_40, hP1, hD1⟩ := hB
    rw [ht] at hg8 hg9 hP1
    have hjn := xw_join3 (wl := [(a0, .inr (4, [.ref a1, .ref a2, .ref a3, .int (nI za)])), (a1, .inl (ax 1, ca, .inl ao)), (a2, .inl (ax 0, ca, .inl al)), (a3, .inl (ax 0, ca, .inl ar)), (g0, .inr (2, [.ref h0, .ref g1, .ref g2, .ref g3, .ref g4, .ref g5, .ref g6, .ref g7, .ref g8, .ref g9, .ref ga, .ref gb, .int (nI cl), .int (nI ln), .int (nI br), .int (nI lp), .int (nI va)])), (g1, .inl (ax 1, 20, .inl (fun j => nI (kd j)))), (g2, .inl (ax 1, 20, .inl (fun j => nI (ow j)))), (g3, .inl (ax 1, 20, .inl (fun j => nI (sb j)))), (g4, .inl (ax 1, 20, .inl (fun j => nI (f1 j)))), (g5, .inl (ax 1, 20, .inl (fun j => nI (f2 j)))), (g6, .inl (ax 2, 20, .inl (fun j => nI (te j)))), (g7, .inl (ax 2, 20, .inl (fun j => nI (kp j)))), (g8, .inl (ax 0, 20, .inl tm)), (g9, .inl (ax 1, 20, .inl (fun j => nI (nm j)))), (ga, .inl (ax 1, 29, .inl (fun j => nI (ck j)))), (gb, .inl (ax 1, 29, .inl (fun j => nI (co j)))), (h0, .inr (4, [.ref h1, .ref h2, .ref h3, .int (nI zs)])), (h1, .inl (ax 1, cs, .inl so)), (h2, .inl (ax 0, cs, .inl sl)), (h3, .inl (ax 0, cs, .inl sr)), (c0, .inr (3, [.ref n0, .ref c1, .ref g0, .ref a0, .int s_made])), (c1, .inl (ax 0, 16, .inl sd)), (n0, .inr (4, [.ref (u_29 0), .ref (u_29 1), .ref (u_29 2), .int (nI ((u_1 3) + 1))])), ((u_29 0), .inl (ax 1, u_29 3, .inl x_36)), ((u_29 1), .inl (ax 0, u_29 3, .inl x_37)), ((u_29 2), .inl (ax 0, u_29 3, .inl x_38))]) hP hD [16, 17, 18, 19] [0, 1, 2, 3, 4, 5, 6, 7, 8, 9, 10, 11, 12, 13, 14, 15, 20, 21, 22, 23, 24, 25] hCs (by decide) (by decide) hk1 hFc hP1 hD1 rfl
    clear hP1 hD1
    clear hPc hDc hFc hCs hz hz1 hk1 ht hvm
    clear hP hD hS
    have hS := hS1
    obtain ⟨hP, hD⟩ := hjn
    clear hS1
    refine wk_narrow (k := u_1 4 - cp + (u_29 3 - (u_1 4))) (n := 6 * (u_1 4 - cp) + (6 * (u_29 3 - (u_1 4)))) (by first | assumption | omega) (by first | assumption | omega) ?_
    clear hk8 hk9 hg8 hg9
    have hZ_41 : ndl x_36 x_37 x_38 ((l0 ++ ptL h9 (sub9 lz9 (kp s9))) ++ [(0, ptT h9 (IT s9).2.2.2.1, ptT h9 (nm s9, 0))]) ∧ ((l0 ++ ptL h9 (sub9 lz9 (kp s9))) ++ [(0, ptT h9 (IT s9).2.2.2.1, ptT h9 (nm s9, 0))]).length = (u_1 3) + 1 := atm_q (s := (0, ptT h9 (IT s9).2.2.2.1, ptT h9 (nm s9, 0))) hx_18 (show (0 : Nat) < 6 by decide) hx_39 hs_28 (by rw [ptT_g (hsq.2.2 _ (by first | assumption | omega) (by first | assumption | omega)), tmI_z])
    have hY_42 : ∃ d, cmpl d ([(0, ptT h9 (IT s9).2.2.2.1, ptT h9 (nm s9, 0))]) := cmx_a (s := (0, ptT h9 (IT s9).2.2.2.1, ptT h9 (nm s9, 0))) (show (0 : Nat) < 6 by decide)
    have hV_43 : ndv x_36 x_37 x_38 ((u_1 3) + 1) := hx_14.add hx_39 (nd_atom (o := 0) (by decide) hs_27 (trm_nm (by first | assumption | omega)))
    have hT_44 : tsn x_36 x_37 x_38 (u_1 3) = 1 := nad.atom (o := 0) (by decide) hx_39
    have hG_45 : ∀ i, i < u_1 3 → tsn x_36 x_37 x_38 i = tsn x_11 x_12 x_13 i := fun i hi => nad.keep (by first | assumption | omega) hx_14 hx_39 hi
    have hB_46 : tsn x_36 x_37 x_38 (u_1 3) + (u_1 3) ≤ ((u_1 3) + 1) := by omega
    have hK_47 : ∀ i, i < z9 → tsn x_36 x_37 x_38 i = tsn fo fl fr i := fun i hi => (hG_45 i (by first | assumption | omega)).trans (hK_20 i hi)
    have hS_48 : tsn x_36 x_37 x_38 (u_1 5) + z9 ≤ (u_1 3) := by rw [hG_45 (u_1 5) (by first | assumption | omega)]; exact hx_17
    refine lv_istore_n (lv' := [(3, .int (nI (u_1 3))), (2, .int (nI (u_1 5))), (0, .ref c0), (1, .int (nI s9))]) hx hb d_Maker_endOfBody_66 rfl hl1 (by decide) rfl (fun ls hl2 => ?_)
    clear hl1; have hl1 := hl2; clear hl2
    refine lv_aload_n hx hb d_Maker_endOfBody_67 rfl (lv_at hl1 2 rfl) ?_
    refine va_get (D := D) (ci := 3) (v := .ref n0) (C := R_Maker) (T := F_Maker) (N := 5) hx hb hts i_Maker hown hK.1 hP 20 rfl rfl 0 (by decide) (hts _ wd_129) (fun _ h9 => h9) rfl d_Maker_endOfBody_68 ?_
    refine lv_bipush (v := 7) hx hb d_Maker_endOfBody_71 (by decide) ?_
    refine lv_iload_n hx hb d_Maker_endOfBody_73 rfl (lv_at hl1 1 rfl) ?_
    refine lv_iload_n hx hb d_Maker_endOfBody_74 rfl (lv_at hl1 0 rfl) ?_
    obtain ⟨hPc, hDc, hFc, hCs⟩ := xw_sub3 (wc := [(n0, .inr (4, [.ref (u_29 0), .ref (u_29 1), .ref (u_29 2), .int (nI ((u_1 3) + 1))])), ((u_29 0), .inl (ax 1, u_29 3, .inl x_36)), ((u_29 1), .inl (ax 0, u_29 3, .inl x_37)), ((u_29 2), .inl (ax 0, u_29 3, .inl x_38))]) hP hD hS hA [22, 23, 24, 25] (by decide) rfl
    have hz := xz_of hN hS
    refine wk_know (fun hk8 hk9 => ?_)
    refine va_calli (va_runV (As := [.int 7, .int (nI (u_1 5)), .int (nI (u_1 3))]) (rest := []) ⟨hx, hb, hml, hown, hts⟩ (c_Nodes_add l D ax n0 (u_29 0) (u_29 1) (u_29 2) (u_29 3) ((u_1 3) + 1) x_36 x_37 x_38 MX 7 (nI (u_1 5)) (nI (u_1 3)) H_30.size (tsl H_30) (by first | assumption | omega) (by first | assumption | omega) (by first | assumption | omega) (by first | assumption | omega) (by first | assumption | omega) (by assumption)) (xcV (n := 3) hts wd_350 wd_5 wd_781 wd_348 wd_349 rfl rfl (by decide +kernel) ⟨(show (30) + 1 ≤ (1000) by omega), (show 8 + (4 + 11) + (1200) ≤ (21000) by omega)⟩) (xpV3 (ci := 4) (q0 := 0) (As := [.int 7, .int (nI (u_1 5)), .int (nI (u_1 3))]) hPc hK hz hDc rfl rfl) rfl rfl hl1.1 rfl (lv_room (Nat.le_of_ble_eq_true rfl)) d_Maker_endOfBody_75 ⟨(show (u_1 4 - cp + (u_29 3 - (u_1 4))) + (MX - (u_29 3)) ≤ (MX - cp) by omega), (show (6 * (u_1 4 - cp) + (6 * (u_29 3 - (u_1 4)))) + (6 * (MX - (u_29 3))) ≤ (6 * (MX - cp)) by omega)⟩) hS (fun q _ h => hFc q h) hFc (fun r_51 u_49 t H_50 locs ht hvm hw hB hz1 hk1 hS1 => ?_)
    try dsimp only at hw
    obtain ⟨hw, hs_52, hs_53, hs_54, hs_55⟩ := hw
    subst hw
    obtain ⟨x_56, x_57, x_58, hg8, hg9, hx_59, hx_60, hP1, hD1⟩ := hB
    rw [ht] at hg8 hg9 hP1
    have hjn := xw_join3 (wl := [(a0, .inr (4, [.ref a1, .ref a2, .ref a3, .int (nI za)])), (a1, .inl (ax 1, ca, .inl ao)), (a2, .inl (ax 0, ca, .inl al)), (a3, .inl (ax 0, ca, .inl ar)), (g0, .inr (2, [.ref h0, .ref g1, .ref g2, .ref g3, .ref g4, .ref g5, .ref g6, .ref g7, .ref g8, .ref g9, .ref ga, .ref gb, .int (nI cl), .int (nI ln), .int (nI br), .int (nI lp), .int (nI va)])), (g1, .inl (ax 1, 20, .inl (fun j => nI (kd j)))), (g2, .inl (ax 1, 20, .inl (fun j => nI (ow j)))), (g3, .inl (ax 1, 20, .inl (fun j => nI (sb j)))), (g4, .inl (ax 1, 20, .inl (fun j => nI (f1 j)))), (g5, .inl (ax 1, 20, .inl (fun j => nI (f2 j)))), (g6, .inl (ax 2, 20, .inl (fun j => nI (te j)))), (g7, .inl (ax 2, 20, .inl (fun j => nI (kp j)))), (g8, .inl (ax 0, 20, .inl tm)), (g9, .inl (ax 1, 20, .inl (fun j => nI (nm j)))), (ga, .inl (ax 1, 29, .inl (fun j => nI (ck j)))), (gb, .inl (ax 1, 29, .inl (fun j => nI (co j)))), (h0, .inr (4, [.ref h1, .ref h2, .ref h3, .int (nI zs)])), (h1, .inl (ax 1, cs, .inl so)), (h2, .inl (ax 0, cs, .inl sl)), (h3, .inl (ax 0, cs, .inl sr)), (c0, .inr (3, [.ref n0, .ref c1, .ref g0, .ref a0, .int s_made])), (c1, .inl (ax 0, 16, .inl sd)), (n0, .inr (4, [.ref (u_49 0), .ref (u_49 1), .ref (u_49 2), .int (nI (((u_1 3) + 1) + 1))])), ((u_49 0), .inl (ax 1, u_49 3, .inl x_56)), ((u_49 1), .inl (ax 0, u_49 3, .inl x_57)), ((u_49 2), .inl (ax 0, u_49 3, .inl x_58))]) hP hD [22, 23, 24, 25] [0, 1, 2, 3, 4, 5, 6, 7, 8, 9, 10, 11, 12, 13, 14, 15, 16, 17, 18, 19, 20, 21] hCs (by decide) (by decide) hk1 hFc hP1 hD1 rfl
    clear hP1 hD1
    clear hPc hDc hFc hCs hz hz1 hk1 ht hvm
    clear hP hD hS
    have hS := hS1
    obtain ⟨hP, hD⟩ := hjn
    clear hS1
    refine wk_narrow (k := u_1 4 - cp + (u_29 3 - (u_1 4)) + (u_49 3 - (u_29 3))) (n := 6 * (u_1 4 - cp) + (6 * (u_29 3 - (u_1 4))) + (6 * (u_49 3 - (u_29 3)))) (by first | assumption | omega) (by first | assumption | omega) ?_
    clear hk8 hk9 hg8 hg9
    have hZ_61 : ndl x_56 x_57 x_58 (l0 ++ (ptL h9 (sub9 lz9 (kp s9)) ++ [(0, ptT h9 (IT s9).2.2.2.1, ptT h9 (nm s9, 0))] ++ [opS 2])) ∧ (l0 ++ (ptL h9 (sub9 lz9 (kp s9)) ++ [(0, ptT h9 (IT s9).2.2.2.1, ptT h9 (nm s9, 0))] ++ [opS 2])).length = ((u_1 3) + 1) + 1 := bin_q (o := 2) (by decide) hx_18.2 hZ_41 hY_42 (by first | assumption | omega) (by first | assumption | omega) hx_59
    have hY_62 : ∃ d, cmpl d ((ptL h9 (sub9 lz9 (kp s9)) ++ [(0, ptT h9 (IT s9).2.2.2.1, ptT h9 (nm s9, 0))] ++ [opS 2])) := cmx_b (by decide) ⟨_, hx_19⟩ hY_42
    have hV_63 : ndv x_56 x_57 x_58 (((u_1 3) + 1) + 1) := hV_43.add hx_59 (nd_bin (o := 7) (by decide) (by first | assumption | omega) (by first | assumption | omega))
    have hT_64 : tsn x_56 x_57 x_58 ((u_1 3) + 1) = 1 + tsn x_36 x_37 x_38 (u_1 5) + tsn x_36 x_37 x_38 (u_1 3) := nad.bin (o := 7) (by first | assumption | omega) hV_43 (by decide) (by first | assumption | omega) (by first | assumption | omega) hx_59
    have hG_65 : ∀ i, i < (u_1 3) + 1 → tsn x_56 x_57 x_58 i = tsn x_36 x_37 x_38 i := fun i hi => nad.keep (by first | assumption | omega) hV_43 hx_59 hi
    have hB_66 : tsn x_56 x_57 x_58 ((u_1 3) + 1) + z9 ≤ (((u_1 3) + 1) + 1) := by omega
    have hK_67 : ∀ i, i < z9 → tsn x_56 x_57 x_58 i = tsn fo fl fr i := fun i hi => (hG_65 i (by first | assumption | omega)).trans (hK_47 i hi)
    rw [← hQe]
    refine wk_know (fun hk8 hk9 => ?_)
    refine W.widen (k := MX - cp) (n := 6 * (MX - cp)) (by first | assumption | omega) (by first | assumption | omega) ?_
    obtain ⟨hP9, hD9⟩ := xw_sub2 (wc := (fun (u : Nat → Nat) (xsd : Nat → Int32) (xfo : Nat → Int32) (xfl : Nat → Int32) (xfr : Nat → Int32) => [(c0, .inr (3, [.ref n0, .ref c1, .ref g0, .ref a0, .int s_made])), (c1, .inl (ax 0, 16, .inl xsd)), (n0, .inr (4, [.ref (u 0), .ref (u 1), .ref (u 2), .int (nI (u 3))])), (u 0, .inl (ax 1, u 4, .inl xfo)), (u 1, .inl (ax 0, u 4, .inl xfl)), (u 2, .inl (ax 0, u 4, .inl xfr)), (h0, .inr (4, [.ref h1, .ref h2, .ref h3, .int (nI zs)])), (h1, .inl (ax 1, cs, .inl so)), (h2, .inl (ax 0, cs, .inl sl)), (h3, .inl (ax 0, cs, .inl sr)), (a0, .inr (4, [.ref a1, .ref a2, .ref a3, .int (nI za)])), (a1, .inl (ax 1, ca, .inl ao)), (a2, .inl (ax 0, ca, .inl al)), (a3, .inl (ax 0, ca, .inl ar)), (g0, .inr (2, [.ref h0, .ref g1, .ref g2, .ref g3, .ref g4, .ref g5, .ref g6, .ref g7, .ref g8, .ref g9, .ref ga, .ref gb, .int (nI cl), .int (nI ln), .int (nI br), .int (nI lp), .int (nI va)])), (g1, .inl (ax 1, 20, .inl (fun j => nI (kd j)))), (g2, .inl (ax 1, 20, .inl (fun j => nI (ow j)))), (g3, .inl (ax 1, 20, .inl (fun j => nI (sb j)))), (g4, .inl (ax 1, 20, .inl (fun j => nI (f1 j)))), (g5, .inl (ax 1, 20, .inl (fun j => nI (f2 j)))), (g6, .inl (ax 2, 20, .inl (fun j => nI (te j)))), (g7, .inl (ax 2, 20, .inl (fun j => nI (kp j)))), (g8, .inl (ax 0, 20, .inl tm)), (g9, .inl (ax 1, 20, .inl (fun j => nI (nm j)))), (ga, .inl (ax 1, 29, .inl (fun j => nI (ck j)))), (gb, .inl (ax 1, 29, .inl (fun j => nI (co j))))]) (ixn [(u_49 0), (u_49 1), (u_49 2), (((u_1 3) + 1) + 1), (u_49 3), ((u_1 3) + 1)]) sd x_56 x_57 x_58) hP hD [20, 21, 22, 23, 24, 25, 16, 17, 18, 19, 0, 1, 2, 3, 4, 5, 6, 7, 8, 9, 10, 11, 12, 13, 14, 15] (by decide) rfl
    have hex0 : ndv x_56 x_57 x_58 ((((u_1 3) + 1) + 1)) := hV_63
    have hex1 : bts x_56 ((u_49 3)) := (by assumption)
    have hex2 : ∀ i, i < z9 → tsn x_56 x_57 x_58 i = tsn fo fl fr i := hK_67
    have hex3 : tsn x_56 x_57 x_58 (((u_1 3) + 1)) + z9 ≤ (((u_1 3) + 1) + 1) := (by first | assumption | omega)
    have hex4 : ∀ j, j ≤ 10 → trm (sd j) := hsd
    have hex5 : ndl x_56 x_57 x_58 (l0 ++ ptL h9 (odF (IT s9))) ∧ (l0 ++ ptL h9 (odF (IT s9))).length = (((u_1 3) + 1) + 1) := (by rw [q_od1 hlg hs9 hk12 hn_21]; exact hZ_61)
    have hex6 : ∃ d, cmpl d (ptL h9 (odF (IT s9))) := (by rw [q_od1 hlg hs9 hk12 hn_21]; exact hY_62)
    have hex7 : sdq sd h9 := hsq
    have hg8 : H_50.size ≤ s.heap.size + ((u_49 3) - cp) := by omega
    have hg9 : tsl H_50 ≤ tsl s.heap + (6 * ((u_49 3) - cp)) := by omega
    have hsp0 : z9 ≤ (((u_1 3) + 1) + 1) := (by first | assumption | omega)
    have hsp1 : (((u_1 3) + 1) + 1) ≤ (u_49 3) := (by first | assumption | omega)
    have hsp2 : cp ≤ (u_49 3) := (by first | assumption | omega)
    have hsp3 : (u_49 3) ≤ MX := (by first | assumption | omega)
    have hsp4 : dbl cp ((u_49 3)) := ((hs_8.tr hs_35).tr hs_55)
    have hsp5 : ((u_1 3) + 1) + 1 = (((u_1 3) + 1) + 1) := (by first | assumption | omega)
    have hsp6 : (((u_1 3) + 1) + 1) ≤ z9 + 460 := (by first | assumption | omega)
    exact W.iret (v := nI ((u_1 3) + 1)) hx hb hr (fun t ht hW => ⟨⟨nI ((u_1 3) + 1), ixn [(u_49 0), (u_49 1), (u_49 2), (((u_1 3) + 1) + 1), (u_49 3), ((u_1 3) + 1)], rfl, ⟨rfl, ⟨hsp0, hsp1, hsp2, hsp3, hsp4, hsp5, hsp6⟩⟩, ⟨sd, x_56, x_57, x_58, by rw [ht]; exact hg8, by rw [ht]; exact hg9, hex0, hex1, hex2, hex3, hex4, hex5, hex6, hex7, by rw [ht]; exact hP9, hD9⟩⟩, hS.F ht⟩) hS.2.2 d_Maker_endOfBody_78
