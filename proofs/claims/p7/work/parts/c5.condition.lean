abbrev b_Reader_condition : ByteArray := prog_9_method_9_code
def y_Reader_condition : MethodName := ⟨R_Reader, "condition", "(Z)I"⟩
theorem d_Reader_condition_0 : decode b_Reader_condition 0 = .ok (.aload_n 0, 1) := by decide +kernel
theorem d_Reader_condition_1 : decode b_Reader_condition 1 = .ok (.iload_n 1, 1) := by decide +kernel
theorem d_Reader_condition_2 : decode b_Reader_condition 2 = .ok (.putfield 119, 3) := by decide +kernel
theorem d_Reader_condition_5 : decode b_Reader_condition 5 = .ok (.aload_n 0, 1) := by decide +kernel
theorem d_Reader_condition_6 : decode b_Reader_condition 6 = .ok (.iconst 0, 1) := by decide +kernel
theorem d_Reader_condition_7 : decode b_Reader_condition 7 = .ok (.putfield 123, 3) := by decide +kernel
theorem d_Reader_condition_10 : decode b_Reader_condition 10 = .ok (.aload_n 0, 1) := by decide +kernel
theorem d_Reader_condition_11 : decode b_Reader_condition 11 = .ok (.iconst 0, 1) := by decide +kernel
theorem d_Reader_condition_12 : decode b_Reader_condition 12 = .ok (.invokevirtual 126, 3) := by decide +kernel
theorem d_Reader_condition_15 : decode b_Reader_condition 15 = .ok (.ireturn, 1) := by decide +kernel
set_option maxHeartbeats 40000000 in
set_option maxRecDepth 100000 in
theorem c_R_condition (l : Launch) (D : va_G) (ax : Nat → ClassId) (r0 k0 k1 k2 : Nat) (vl : Value) (tb : Nat → Int32) (tk : Nat → Nat) (ta tf nx am cn ts th : Nat) (gh9 at9 : Nat) (gh : Nat) (n0 n1 n2 n3 cp z9 : Nat) (fo fl fr : Nat → Int32) (MX : Nat) (l0 : List sgT) (sz tz : Nat) (hkz : tkz tk cn) (hrs : rst tk tf nx am ta cn) (hta : ta ≤ cn) (hnx : nx < 128) (ham : am < 1024) (hgh : gh ≤ 1) (hcp : 8 ≤ cp) (hz9 : z9 ≤ cp) (hmx : cp ≤ MX) (hMX : MX ≤ 60000) (hbd : 2 * (z9 + (cn - ta) + 1) ≤ MX) (hfo : bts fo cp) (hnd : okf tf (ndv fo fl fr z9)) (hL9 : okf tf (ndl fo fl fr l0 ∧ l0.length = z9)) : Met l y_Reader_condition (xws (.code y_Reader_condition b_Reader_condition 2 (some .int))) ({ frames := 160, cells := MX - cp, slots := 6 * (MX - cp), locals := 6400 }) (va_Pc [.ref r0, .int (nI gh)] (xo3 D ax [(r0, .inr (7, [.ref k0, vl, .ref n0, .int (nI gh9), .int (nI at9)])), (k0, .inr (9, [.ref k1, .ref k2, .int (nI ts), .int (nI th), .int (nI ta), .int (nI tf), .int (nI nx), .int (nI am)])), (k1, .inl (ax 1, 400, .inl tb)), (k2, .inl (ax 0, 401, .inl (fun j => nI (tk j)))), (n0, .inr (4, [.ref n1, .ref n2, .ref n3, .int (nI z9)])), (n1, .inl (ax 1, cp, .inl fo)), (n2, .inl (ax 0, cp, .inl fl)), (n3, .inl (ax 0, cp, .inl fr))] sz tz)) ((va_Qi (fun (r : Int32) (u : Nat → Nat) => r = nI (u 10) ∧ (rst tk (u 1) (u 2) (u 3) (u 0) cn ∧ u 0 ≤ cn ∧ u 2 < 128 ∧ u 3 < 1024 ∧ ta ≤ u 0 ∧ ftf tf ≤ ftf (u 1) ∧ z9 ≤ u 7 ∧ u 7 + ta ≤ z9 + u 0 + ftf (u 1) ∧ u 7 ≤ u 8 ∧ cp ≤ u 8 ∧ u 8 ≤ MX ∧ u 9 ≤ 8 ∧ okf (u 1) (u 10 + 1 = u 7) ∧ ftf (u 1) ≤ 1 ∧ smk (u 10))) (fun (u : Nat → Nat) (t9 : State) => ∃ xfo : Nat → Int32, ∃ xfl : Nat → Int32, ∃ xfr : Nat → Int32, ∃ xm : List sgT, (t9.heap.size ≤ sz + (u 8 - cp)) ∧ (tsl t9.heap ≤ tz + (6 * (u 8 - cp))) ∧ (okf (u 1) (ndv xfo xfl xfr (u 7))) ∧ (bts xfo (u 8)) ∧ (okf (u 1) (tsn xfo xfl xfr (u 10) ≤ u 7 - z9)) ∧ (okf (u 1) (∀ i, i < z9 → tsn xfo xfl xfr i = tsn fo fl fr i)) ∧ (okf (u 1) (ndl xfo xfl xfr (l0 ++ xm) ∧ u 7 = z9 + xm.length)) ∧ (cng tk gh tf ta xm (u 1) (u 0)) ∧ va_P D classes [(r0, .inr (7, [.ref k0, vl, .ref n0, .int (nI gh), .int (nI (u 9))])), (k0, .inr (9, [.ref k1, .ref k2, .int (nI ts), .int (nI th), .int (nI (u 0)), .int (nI (u 1)), .int (nI (u 2)), .int (nI (u 3))])), (k1, .inl (ax 1, 400, .inl tb)), (k2, .inl (ax 0, 401, .inl (fun j => nI (tk j)))), (n0, .inr (4, [.ref (u 4), .ref (u 5), .ref (u 6), .int (nI (u 7))])), (u 4, .inl (ax 1, u 8, .inl xfo)), (u 5, .inl (ax 0, u 8, .inl xfl)), (u 6, .inl (ax 0, u 8, .inl xfr))] t9.heap ∧ va_D (va_A [(r0, .inr (7, [.ref k0, vl, .ref n0, .int (nI gh9), .int (nI at9)])), (k0, .inr (9, [.ref k1, .ref k2, .int (nI ts), .int (nI th), .int (nI ta), .int (nI tf), .int (nI nx), .int (nI am)])), (k1, .inl (ax 1, 400, .inl tb)), (k2, .inl (ax 0, 401, .inl (fun j => nI (tk j)))), (n0, .inr (4, [.ref n1, .ref n2, .ref n3, .int (nI z9)])), (n1, .inl (ax 1, cp, .inl fo)), (n2, .inl (ax 0, cp, .inl fl)), (n3, .inl (ax 0, cp, .inl fr))] sz) [(r0, .inr (7, [.ref k0, vl, .ref n0, .int (nI gh), .int (nI (u 9))])), (k0, .inr (9, [.ref k1, .ref k2, .int (nI ts), .int (nI th), .int (nI (u 0)), .int (nI (u 1)), .int (nI (u 2)), .int (nI (u 3))])), (k1, .inl (ax 1, 400, .inl tb)), (k2, .inl (ax 0, 401, .inl (fun j => nI (tk j)))), (n0, .inr (4, [.ref (u 4), .ref (u 5), .ref (u 6), .int (nI (u 7))])), (u 4, .inl (ax 1, u 8, .inl xfo)), (u 5, .inl (ax 0, u 8, .inl xfl)), (u 6, .inl (ax 0, u 8, .inl xfr))]) (va_A [(r0, .inr (7, [.ref k0, vl, .ref n0, .int (nI gh9), .int (nI at9)])), (k0, .inr (9, [.ref k1, .ref k2, .int (nI ts), .int (nI th), .int (nI ta), .int (nI tf), .int (nI nx), .int (nI am)])), (k1, .inl (ax 1, 400, .inl tb)), (k2, .inl (ax 0, 401, .inl (fun j => nI (tk j)))), (n0, .inr (4, [.ref n1, .ref n2, .ref n3, .int (nI z9)])), (n1, .inl (ax 1, cp, .inl fo)), (n2, .inl (ax 0, cp, .inl fl)), (n3, .inl (ax 0, cp, .inl fr))] sz))) (MX - cp) (6 * (MX - cp)) (va_A [(r0, .inr (7, [.ref k0, vl, .ref n0, .int (nI gh9), .int (nI at9)])), (k0, .inr (9, [.ref k1, .ref k2, .int (nI ts), .int (nI th), .int (nI ta), .int (nI tf), .int (nI nx), .int (nI am)])), (k1, .inl (ax 1, 400, .inl tb)), (k2, .inl (ax 0, 401, .inl (fun j => nI (tk j)))), (n0, .inr (4, [.ref n1, .ref n2, .ref n3, .int (nI z9)])), (n1, .inl (ax 1, cp, .inl fo)), (n2, .inl (ax 0, cp, .inl fl)), (n3, .inl (ax 0, cp, .inl fr))] sz) := by
  refine Met.ofW (cc := b_Reader_condition) (maxL := 2) (ret := (some .int)) (by decide) rfl ?_
  intro p e s m args below meth c s₁ B hml hv
  obtain ⟨rfl, ⟨hsz, hP, hK, hD0⟩, htz⟩ := hv
  have hx := B.exec
  have hb := B.bytes
  have hr := B.returns
  have hts := xw_hts B.pre
  have hown : s.vm.findClass R_Reader = some m.cls := findClass_of_methodNamed B.named
  have hlocks := B.notSynchronized
  subst hsz
  subst htz
  have hD := hD0.self (sz := s.heap.size)
  have hN := xz_entry hP
  generalize hAe : va_A [(r0, .inr (7, [.ref k0, vl, .ref n0, .int (nI gh9), .int (nI at9)])), (k0, .inr (9, [.ref k1, .ref k2, .int (nI ts), .int (nI th), .int (nI ta), .int (nI tf), .int (nI nx), .int (nI am)])), (k1, .inl (ax 1, 400, .inl tb)), (k2, .inl (ax 0, 401, .inl (fun j => nI (tk j)))), (n0, .inr (4, [.ref n1, .ref n2, .ref n3, .int (nI z9)])), (n1, .inl (ax 1, cp, .inl fo)), (n2, .inl (ax 0, cp, .inl fl)), (n3, .inl (ax 0, cp, .inl fr))] s.heap.size = A at hD hN ⊢
  have hA : ∀ q : Nat, s.heap.size ≤ q → A q := fun q h => by rw [← hAe]; exact Or.inr h
  have hS : va_S A s.heap s.heap [] := va_S.rf
  have hl0 := lv_entry ([.ref r0, .int (nI gh)]) (n := 2) (Nat.le_of_ble_eq_true rfl)
  rw [lg_entry_eq]
  generalize (lg_sl ([.ref r0, .int (nI gh)]) ++ List.replicate (2 - (lg_sl ([.ref r0, .int (nI gh)])).length) Slot.unset).toArray = ls at hl0 ⊢
  have hl1 : lv_has ls 2 [(0, .ref r0), (1, .int (nI gh))] := hl0
  refine xw_gen (fun Z9 hQe => ?_)
  refine lv_aload_n hx hb d_Reader_condition_0 rfl (lv_at hl1 0 rfl) ?_
  refine lv_iload_n hx hb d_Reader_condition_1 rfl (lv_at hl1 1 rfl) ?_
  refine va_put (D := D) (ci := 7) (v := .int (nI gh)) (ty := .boolean) (C := R_Reader) (T := F_Reader) (N := 5) hx hb hts i_Reader t_Reader t_Reader_ok n_Reader hown hK.1 hP hD hS 0 rfl rfl 3 (by decide) (hts _ wd_78) (fun _ h9 => h9) rfl (by decide +kernel) (nI_bool (by first | assumption | omega)) (fits_z (by first | assumption | omega)) (Nat.le_of_ble_eq_true rfl) d_Reader_condition_2 (fun H_1 locs hP1 hD1 hS1 => ?_)
  clear hP hD hS
  have hS := hS1
  have hW7 : (fun w9 : va_W => va_P D classes w9 H_1 ∧ va_D A w9) [(r0, .inr (7, [.ref k0, vl, .ref n0, .int (nI gh), .int (nI at9)])), (k0, .inr (9, [.ref k1, .ref k2, .int (nI ts), .int (nI th), .int (nI ta), .int (nI tf), .int (nI nx), .int (nI am)])), (k1, .inl (ax 1, 400, .inl tb)), (k2, .inl (ax 0, 401, .inl (fun j => nI (tk j)))), (n0, .inr (4, [.ref n1, .ref n2, .ref n3, .int (nI z9)])), (n1, .inl (ax 1, cp, .inl fo)), (n2, .inl (ax 0, cp, .inl fl)), (n3, .inl (ax 0, cp, .inl fr))] := ⟨hP1, hD1⟩
  obtain ⟨hP, hD⟩ := hW7
  clear hP1 hD1 hS1
  refine lv_aload_n hx hb d_Reader_condition_5 rfl (lv_at hl1 0 rfl) ?_
  refine lv_iconst (v := 0) hx hb d_Reader_condition_6 (by decide) ?_
  refine va_put (D := D) (ci := 7) (v := .int 0) (ty := .int) (C := R_Reader) (T := F_Reader) (N := 5) hx hb hts i_Reader t_Reader t_Reader_ok n_Reader hown hK.1 hP hD hS 0 rfl rfl 4 (by decide) (hts _ wd_79) (fun _ h9 => h9) rfl (by decide +kernel) rfl rfl (Nat.le_of_ble_eq_true rfl) d_Reader_condition_7 (fun H_2 locs hP1 hD1 hS1 => ?_)
  clear hP hD hS
  have hS := hS1
  have hW7 : (fun w9 : va_W => va_P D classes w9 H_2 ∧ va_D A w9) [(r0, .inr (7, [.ref k0, vl, .ref n0, .int (nI gh), .int 0])), (k0, .inr (9, [.ref k1, .ref k2, .int (nI ts), .int (nI th), .int (nI ta), .int (nI tf), .int (nI nx), .int (nI am)])), (k1, .inl (ax 1, 400, .inl tb)), (k2, .inl (ax 0, 401, .inl (fun j => nI (tk j)))), (n0, .inr (4, [.ref n1, .ref n2, .ref n3, .int (nI z9)])), (n1, .inl (ax 1, cp, .inl fo)), (n2, .inl (ax 0, cp, .inl fl)), (n3, .inl (ax 0, cp, .inl fr))] := ⟨hP1, hD1⟩
  obtain ⟨hP, hD⟩ := hW7
  clear hP1 hD1 hS1
  refine lv_aload_n hx hb d_Reader_condition_10 rfl (lv_at hl1 0 rfl) ?_
  refine lv_iconst (v := 0) hx hb d_Reader_condition_11 (by decide) ?_
  obtain ⟨hPc, hDc, hFc, hCs⟩ := xw_sub3 (wc := [(r0, .inr (7, [.ref k0, vl, .ref n0, .int (nI gh), .int (nI 0)])), (k0, .inr (9, [.ref k1, .ref k2, .int (nI ts), .int (nI th), .int (nI ta), .int (nI tf), .int (nI nx), .int (nI am)])), (k1, .inl (ax 1, 400, .inl tb)), (k2, .inl (ax 0, 401, .inl (fun j => nI (tk j)))), (n0, .inr (4, [.ref n1, .ref n2, .ref n3, .int (nI z9)])), (n1, .inl (ax 1, cp, .inl fo)), (n2, .inl (ax 0, cp, .inl fl)), (n3, .inl (ax 0, cp, .inl fr))]) hP hD hS hA [0, 1, 2, 3, 4, 5, 6, 7] (by decide) rfl
  have hz := xz_of hN hS
  refine wk_know (fun hk8 hk9 => ?_)
  refine va_calli (va_runV (As := [.int 0]) (rest := []) ⟨hx, hb, hml, hown, hts⟩ (c_R_ors l 0 (by first | assumption | omega) (R_part_all l 10 0 rfl) D ax r0 k0 k1 k2 vl tb tk ta tf nx am cn ts th gh 0 n0 n1 n2 n3 cp z9 fo fl fr MX l0 ([]) H_2.size (tsl H_2) hkz (by assumption) (by first | assumption | omega) (by first | assumption | omega) (by first | assumption | omega) (by first | assumption | omega) (by first | assumption | omega) (by first | assumption | omega) (by first | assumption | omega) (by first | assumption | omega) (by first | assumption | omega) (by first | assumption | omega) (by assumption) (by assumption) (by assumption) rfl hda_0 hda_0) (xcV (n := 1) hts wd_543 wd_3 wd_540 wd_542 ps_8 rfl rfl (by decide +kernel) ⟨(show (44 + 10 * (11 - 0)) + 1 ≤ (160) by omega), (show 8 + (4 + 11) + (1800 + 400 * (11 - 0)) ≤ (6400) by omega)⟩) (xpV3 (ci := 7) (q0 := 0) (As := [.int 0]) hPc hK hz hDc rfl rfl) rfl rfl hl1.1 rfl (lv_room (Nat.le_of_ble_eq_true rfl)) d_Reader_condition_12 ⟨(show (0) + (MX - cp) ≤ (MX - cp) by omega), (show (0) + (6 * (MX - cp)) ≤ (6 * (MX - cp)) by omega)⟩) hS (fun q _ h => hFc q h) hFc (fun r_5 u_3 t H_4 locs ht hvm hw hB hz1 hk1 hS1 => ?_)
  try dsimp only at hw
  obtain ⟨hw, hs_6, hs_7, hs_8, hs_9, hs_10, hs_11, hs_12, hs_13, hs_14, hs_15, hs_16, hs_17, hs_18, hs_19, hs_20, hs_21⟩ := hw
  subst hw
  obtain ⟨x_22, x_23, x_24, x_25, hg8, hg9, hx_26, hx_27, hx_28, hx_29, hx_30, hx_31, hP1, hD1⟩ := hB
  rw [ht] at hg8 hg9 hP1
  have hjn := xw_join3 (wl := [(r0, .inr (7, [.ref k0, vl, .ref n0, .int (nI gh), .int (nI (u_3 9))])), (k0, .inr (9, [.ref k1, .ref k2, .int (nI ts), .int (nI th), .int (nI (u_3 0)), .int (nI (u_3 1)), .int (nI (u_3 2)), .int (nI (u_3 3))])), (k1, .inl (ax 1, 400, .inl tb)), (k2, .inl (ax 0, 401, .inl (fun j => nI (tk j)))), (n0, .inr (4, [.ref (u_3 4), .ref (u_3 5), .ref (u_3 6), .int (nI (u_3 7))])), ((u_3 4), .inl (ax 1, u_3 8, .inl x_22)), ((u_3 5), .inl (ax 0, u_3 8, .inl x_23)), ((u_3 6), .inl (ax 0, u_3 8, .inl x_24))]) hP hD [0, 1, 2, 3, 4, 5, 6, 7] [] hCs (by decide) (by decide) hk1 hFc hP1 hD1 rfl
  clear hP1 hD1
  clear hPc hDc hFc hCs hz hz1 hk1 ht hvm
  clear hP hD hS
  have hS := hS1
  obtain ⟨hP, hD⟩ := hjn
  clear hS1
  refine wk_narrow (k := u_3 8 - cp) (n := 6 * (u_3 8 - cp)) (by first | assumption | omega) (by first | assumption | omega) ?_
  clear hk8 hk9 hg8 hg9
  rw [← hQe]
  refine wk_know (fun hk8 hk9 => ?_)
  refine W.widen (k := MX - cp) (n := 6 * (MX - cp)) (by first | assumption | omega) (by first | assumption | omega) ?_
  obtain ⟨hP9, hD9⟩ := xw_sub2 (wc := (fun (u : Nat → Nat) (xfo : Nat → Int32) (xfl : Nat → Int32) (xfr : Nat → Int32) (xm : List sgT) => [(r0, .inr (7, [.ref k0, vl, .ref n0, .int (nI gh), .int (nI (u 9))])), (k0, .inr (9, [.ref k1, .ref k2, .int (nI ts), .int (nI th), .int (nI (u 0)), .int (nI (u 1)), .int (nI (u 2)), .int (nI (u 3))])), (k1, .inl (ax 1, 400, .inl tb)), (k2, .inl (ax 0, 401, .inl (fun j => nI (tk j)))), (n0, .inr (4, [.ref (u 4), .ref (u 5), .ref (u 6), .int (nI (u 7))])), (u 4, .inl (ax 1, u 8, .inl xfo)), (u 5, .inl (ax 0, u 8, .inl xfl)), (u 6, .inl (ax 0, u 8, .inl xfr))]) (ixn [(u_3 0), (u_3 1), (u_3 2), (u_3 3), (u_3 4), (u_3 5), (u_3 6), (u_3 7), (u_3 8), (u_3 9), (u_3 10)]) x_22 x_23 x_24 x_25) hP hD [0, 1, 2, 3, 4, 5, 6, 7] (by decide) rfl
  have hex0 : okf ((u_3 1)) (ndv x_22 x_23 x_24 ((u_3 7))) := (by assumption)
  have hex1 : bts x_22 ((u_3 8)) := (by assumption)
  have hex2 : okf ((u_3 1)) (tsn x_22 x_23 x_24 ((u_3 10)) ≤ (u_3 7) - z9) := (by assumption)
  have hex3 : okf ((u_3 1)) (∀ i, i < z9 → tsn x_22 x_23 x_24 i = tsn fo fl fr i) := (by assumption)
  have hex4 : okf ((u_3 1)) (ndl x_22 x_23 x_24 (l0 ++ x_25) ∧ (u_3 7) = z9 + x_25.length) := hx_30
  have hex5 : cng tk gh tf ta x_25 ((u_3 1)) ((u_3 0)) := (cng_of hx_31 (by first | assumption | omega) hs_21 hs_6)
  have hg8 : H_4.size ≤ s.heap.size + ((u_3 8) - cp) := by omega
  have hg9 : tsl H_4 ≤ tsl s.heap + (6 * ((u_3 8) - cp)) := by omega
  have hsp0 : rst tk ((u_3 1)) ((u_3 2)) ((u_3 3)) ((u_3 0)) cn := (by assumption)
  have hsp1 : (u_3 0) ≤ cn := (by first | assumption | omega)
  have hsp2 : (u_3 2) < 128 := (by first | assumption | omega)
  have hsp3 : (u_3 3) < 1024 := (by first | assumption | omega)
  have hsp4 : ta ≤ (u_3 0) := (by first | assumption | omega)
  have hsp5 : ftf tf ≤ ftf ((u_3 1)) := (by first | assumption | omega)
  have hsp6 : z9 ≤ (u_3 7) := (by first | assumption | omega)
  have hsp7 : (u_3 7) + ta ≤ z9 + (u_3 0) + ftf ((u_3 1)) := (by first | assumption | omega)
  have hsp8 : (u_3 7) ≤ (u_3 8) := (by first | assumption | omega)
  have hsp9 : cp ≤ (u_3 8) := (by first | assumption | omega)
  have hsp10 : (u_3 8) ≤ MX := (by first | assumption | omega)
  have hsp11 : (u_3 9) ≤ 8 := (by first | assumption | omega)
  have hsp12 : okf ((u_3 1)) ((u_3 10) + 1 = (u_3 7)) := (by assumption)
  have hsp13 : ftf ((u_3 1)) ≤ 1 := (by first | assumption | omega)
  have hsp14 : smk ((u_3 10)) := (by assumption)
  exact W.iret (v := nI (u_3 10)) hx hb hr (fun t ht hW => ⟨⟨nI (u_3 10), ixn [(u_3 0), (u_3 1), (u_3 2), (u_3 3), (u_3 4), (u_3 5), (u_3 6), (u_3 7), (u_3 8), (u_3 9), (u_3 10)], rfl, ⟨rfl, ⟨hsp0, hsp1, hsp2, hsp3, hsp4, hsp5, hsp6, hsp7, hsp8, hsp9, hsp10, hsp11, hsp12, hsp13, hsp14⟩⟩, ⟨x_22, x_23, x_24, x_25, by rw [ht]; exact hg8, by rw [ht]; exact hg9, hex0, hex1, hex2, hex3, hex4, hex5, by rw [ht]; exact hP9, hD9⟩⟩, hS.F ht⟩) hS.2.2 d_Reader_condition_15
