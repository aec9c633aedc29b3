/-- all slots of a heap -/
def tsl (H : Heap) : Nat := (H.toList.map (fun c : Cell => c.slots.size)).sum
theorem tsl_split {S T : Heap} (hs : S.size ≤ T.size) (h : ∀ (a : Nat) (c : Cell), S[a]? = some c → ∃ c' : Cell, T[a]? = some c' ∧ c'.slots.size = c.slots.size) : tsl T = tsl S + ((T.toList.drop S.size).map (fun c : Cell => c.slots.size)).sum := by
  have e : (T.toList.take S.size).map (fun c : Cell => c.slots.size) = S.toList.map (fun c : Cell => c.slots.size) := by
    apply List.ext_getElem?
    intro i
    rw [List.getElem?_map, List.getElem?_map]
    by_cases hi : i < S.size
    · rw [List.getElem?_take_of_lt hi, Array.getElem?_toList, Array.getElem?_toList]
      obtain ⟨c', h1, h2⟩ := h i S[i] (Array.getElem?_eq_getElem hi)
      rw [h1, Array.getElem?_eq_getElem hi]
      exact congrArg some h2
    · rw [List.getElem?_eq_none (by rw [List.length_take]; omega), List.getElem?_eq_none (by rw [Array.length_toList]; omega)]
  unfold tsl
  conv => lhs; rw [← List.take_append_drop S.size T.toList]
  rw [List.map_append, List.sum_append, e]
section KN
variable {p : Program} {l : Launch} {e : Env} {R : Room} {s : State} {m : MethodId} {args : Array Value} {below : List Frame} {meth : Method} {c : Code} {H : Heap} {locs : List Loc} {cells slots : Nat} {Q : State → Prop} {g : JFrame}
theorem wk_split {T : State} (X : Stand p l e R s m args below meth c T locs cells slots) : tsl T.heap = tsl s.heap + ((T.heap.toList.drop s.heap.size).map (fun c : Cell => c.slots.size)).sum := by
  obtain ⟨_, h1, h2, h3, h4, h5⟩ := X.same
  exact tsl_split h1 (fun a c hc => by
    obtain ⟨c', q1, q2, q3, q4⟩ := h5 a c hc
    exact ⟨c', q1, q3⟩)
theorem wk_know (k : H.size ≤ s.heap.size + cells → tsl H ≤ tsl s.heap + slots → W p l e R s m args below meth c H locs cells slots Q g) : W p l e R s m args below meth c H locs cells slots Q g := by
  intro T hT X
  have e := wk_split X
  obtain ⟨_, h1, h2, h3, h4, h5⟩ := X.same
  have h2' : T.heap.size ≤ s.heap.size + cells := h2
  have h4' : ((T.heap.toList.drop s.heap.size).map (fun c : Cell => c.slots.size)).sum ≤ slots := h4
  exact k (by rw [← hT]; exact h2') (by rw [← hT, e]; omega) T hT X
theorem wk_narrow {k n : Nat} (h1 : H.size ≤ s.heap.size + k) (h2 : tsl H ≤ tsl s.heap + n) (kk : W p l e R s m args below meth c H locs k n Q g) : W p l e R s m args below meth c H locs cells slots Q g := by
  intro T hT X
  have e := wk_split X
  rw [hT] at e
  refine kk T hT { X with same := ?_ }
  obtain ⟨q0, q1, q2, q3, q4, q5⟩ := X.same
  refine ⟨q0, q1, ?_, q3, ?_, q5⟩
  · show T.heap.size ≤ _
    rw [hT]; exact h1
  · show ((T.heap.toList.drop s.heap.size).map (fun c : Cell => c.slots.size)).sum ≤ n
    rw [hT]; omega
end KN
def xo3 (D : va_G) (ax : Nat → ClassId) (ws : va_W) (sz tz : Nat) (U : State) : Prop := xo D ax ws sz U ∧ tsl U.heap = tz
theorem xo3_blind {D : va_G} {ax : Nat → ClassId} {ws : va_W} {sz tz : Nat} {As : List Value} : FrameBlind (va_Pc As (xo3 D ax ws sz tz)) := by
  intro a U g mk h
  obtain ⟨h0, h1, h2⟩ := h
  obtain ⟨q0, q1⟩ := xo_blind a U g mk ⟨h0, h1⟩
  exact ⟨q0, q1, h2⟩
theorem xpS3 {D : va_G} {ax : Nat → ClassId} {ws : va_W} {A : Nat → Prop} {s : State} {H : Heap} {As : List Value} (hP : va_P D classes ws H) (hK : xk D ax s) (hz : xz s H) (hD : va_D A ws) : PreS s H (va_Pc As (xo3 D ax ws H.size (tsl H))) As :=
  ⟨xo3_blind, fun U hU hW => ⟨rfl, ⟨by rw [hU], by rw [hU]; exact hP, hK.moved hW (by rw [hU]; exact hz), hD.weaken (fun _ _ _ _ => trivial)⟩, by rw [hU]⟩⟩
theorem xpV3 {D : va_G} {ax : Nat → ClassId} {ws : va_W} {A : Nat → Prop} {s : State} {H : Heap} {As : List Value} {b q0 ci : Nat} {q : vw_C} {fs : List Value} (hP : va_P D classes ws H) (hK : xk D ax s) (hz : xz s H) (hD : va_D A ws) (hc : classes[ci]? = some q) (he : ws[q0]? = some (b, .inr (ci, fs))) : PreV s H q.1 b (va_Pc (.ref b :: As) (xo3 D ax ws H.size (tsl H))) As :=
  ⟨xo3_blind, va_recv hK.1 hP hc he, fun U hU hW => ⟨rfl, ⟨by rw [hU], by rw [hU]; exact hP, hK.moved hW (by rw [hU]; exact hz), hD.weaken (fun _ _ _ _ => trivial)⟩, by rw [hU]⟩⟩
theorem sw_no : ∀ {l : List (Int × Int)} {d x : Int}, (∀ q ∈ l, q.1 ≠ x) → Op.lookupswitch.offset l d x = d
  | [], _, _, _ => rfl
  | (a, o) :: r, d, x, h => by
    rw [Op.lookupswitch.offset_cons, if_neg (h (a, o) (List.mem_cons_self ..))]
    exact sw_no (fun q hq => h q (List.mem_cons_of_mem _ hq))
