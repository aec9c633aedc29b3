abbrev R_Str : String := "java/lang/String"
abbrev R_StrL : String := "java/lang/StringLatin1"
abbrev R_Pcd : String := "jdk/internal/util/Preconditions"
def xsl : List Nat := [4, 2, 4, 4, 2, 5, 3, 3, 2, 2, 6]
def xsb : List (List Int32) := [[115, 107, 105, 112], [105, 102], [116, 104, 101, 110], [101, 108, 115, 101], [102, 105], [119, 104, 105, 108, 101], [105, 110, 118], [118, 97, 114], [100, 111], [111, 100], [97, 115, 115, 101, 114, 116]]
def xsi : List Nat := [68, 74, 76, 78, 80, 82, 84, 86, 88, 90, 92]
def xst : List String := ["skip", "if", "then", "else", "fi", "while", "inv", "var", "do", "od", "assert"]
theorem xsl_le {i : Nat} (h : i < 11) : xsl.getD i 0 ≤ 6 := (by decide : ∀ i, i < 11 → xsl.getD i 0 ≤ 6) i h
/-- the words, and what String's methods read of its class -/
def xsr (ad av : Nat → Nat) (fm : Nat) (A : Nat → Prop) (U : State) (H : Heap) : Prop :=
  vk_S 11 xsl xsb ad av A U H ∧ (∀ i, i < 11 → vk_R "TripleDesk$Tokens" (xsi.getD i 0) (xst.getD i "") (ad i) U) ∧ va_Z "java/lang/String" "COMPACT_STRINGS" "Z" (.int 1) A U H ∧ (va_Z "jdk/internal/util/Preconditions" "SIOOBE_FORMATTER" "Ljava/util/function/BiFunction;" (.ref fm) A U H ∨ va_Z "jdk/internal/util/Preconditions" "SIOOBE_FORMATTER" "Ljava/util/function/BiFunction;" .null A U H)
theorem xsr.call {ad av : Nat → Nat} {fm : Nat} {A B : Nat → Prop} {s U : State} {H : Heap} {locs : List Loc} (h : xsr ad av fm A s s.heap) (hS : va_S A s.heap H locs) (hF : ∀ q, B q → A q) (hU : U.heap = H) (hW : s.WarmedH U.vm) : xsr ad av fm B U U.heap := by
  obtain ⟨h1, h2, h3, h4⟩ := h
  rw [hU]
  exact ⟨((h1.kept hS.2.1).narrow hF).moved hW.alike, fun i hi => (h2 i hi).warm hW, ((h3.kept hS.2.1).narrow hF).moved hW.alike, h4.imp (fun h => ((h.kept hS.2.1).narrow hF).moved hW.alike) (fun h => ((h.kept hS.2.1).narrow hF).moved hW.alike)⟩
def xo4 (D : va_G) (ax : Nat → ClassId) (ad av : Nat → Nat) (fm : Nat) (ws : va_W) (sz tz : Nat) (U : State) : Prop := xo3 D ax ws sz tz U ∧ xsr ad av fm (va_A ws sz) U U.heap
theorem xo4_blind {D : va_G} {ax : Nat → ClassId} {ad av : Nat → Nat} {fm : Nat} {ws : va_W} {sz tz : Nat} {As : List Value} : FrameBlind (va_Pc As (xo4 D ax ad av fm ws sz tz)) := by
  intro a U g mk h
  obtain ⟨h0, h1, h2⟩ := h
  obtain ⟨q0, q1⟩ := xo3_blind a U g mk ⟨h0, h1⟩
  exact ⟨q0, q1, h2.call (H := U.heap) (locs := []) (U := U.calling g mk a) ⟨Nat.le_refl _, fun _ _ _ => rfl, fun l hl => by cases hl⟩ (fun _ h => h) rfl (State.WarmedH.refl U)⟩
theorem xpS4 {D : va_G} {ax : Nat → ClassId} {ad av : Nat → Nat} {fm : Nat} {ws : va_W} {A : Nat → Prop} {s : State} {H : Heap} {locs : List Loc} {As : List Value} (hX : xsr ad av fm A s s.heap) (hS : va_S A s.heap H locs) (hF : ∀ q, va_A ws H.size q → A q) (hP : va_P D classes ws H) (hK : xk D ax s) (hz : xz s H) (hD : va_D A ws) : PreS s H (va_Pc As (xo4 D ax ad av fm ws H.size (tsl H))) As :=
  ⟨xo4_blind, fun U hU hW => ⟨rfl, ⟨⟨by rw [hU], by rw [hU]; exact hP, hK.moved hW (by rw [hU]; exact hz), hD.weaken (fun _ _ _ _ => trivial)⟩, by rw [hU]⟩, hX.call hS hF hU hW⟩⟩
/-- a call of one of a word's own methods -/
theorem xpK4 {D : va_G} {ax : Nat → ClassId} {ad av : Nat → Nat} {fm i : Nat} {ws : va_W} {A : Nat → Prop} {s : State} {H : Heap} {locs : List Loc} {As : List Value} (hi : i < 11) (hX : xsr ad av fm A s s.heap) (hS : va_S A s.heap H locs) (hF : ∀ q, va_A ws H.size q → A q) (hP : va_P D classes ws H) (hK : xk D ax s) (hz : xz s H) (hD : va_D A ws) : PreV s H "java/lang/String" (ad i) (va_Pc (.ref (ad i) :: As) (xo4 D ax ad av fm ws H.size (tsl H))) As :=
  ⟨xo4_blind, vk_recv hX.1 hi hS, fun U hU hW => ⟨rfl, ⟨⟨by rw [hU], by rw [hU]; exact hP, hK.moved hW (by rw [hU]; exact hz), hD.weaken (fun _ _ _ _ => trivial)⟩, by rw [hU]⟩, hX.call hS hF hU hW⟩⟩
theorem xpV4 {D : va_G} {ax : Nat → ClassId} {ad av : Nat → Nat} {fm : Nat} {ws : va_W} {A : Nat → Prop} {s : State} {H : Heap} {locs : List Loc} {As : List Value} {b q0 ci : Nat} {q : vw_C} {fs : List Value} (hX : xsr ad av fm A s s.heap) (hS : va_S A s.heap H locs) (hF : ∀ q, va_A ws H.size q → A q) (hP : va_P D classes ws H) (hK : xk D ax s) (hz : xz s H) (hD : va_D A ws) (hc : classes[ci]? = some q) (he : ws[q0]? = some (b, .inr (ci, fs))) : PreV s H q.1 b (va_Pc (.ref b :: As) (xo4 D ax ad av fm ws H.size (tsl H))) As :=
  ⟨xo4_blind, va_recv hK.1 hP hc he, fun U hU hW => ⟨rfl, ⟨⟨by rw [hU], by rw [hU]; exact hP, hK.moved hW (by rw [hU]; exact hz), hD.weaken (fun _ _ _ _ => trivial)⟩, by rw [hU]⟩, hX.call hS hF hU hW⟩⟩
