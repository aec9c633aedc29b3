theorem x_nilP {D : va_G} {H : Heap} : va_P D classes [] H := fun k q h => by simp at h
theorem x_nilD {A : Nat → Prop} : va_D A [] := ⟨fun i j p q h => by simp at h, fun k q h => by simp at h⟩
def xe_nm : List String := ["java/lang/RuntimeException", "java/lang/Exception"]
theorem xe_ISE_Desk {D : va_G} {ax : Nat → ClassId} {args : Array Value} {s : State} (hts : ∀ w ∈ lw_gd, w.before args s = true) (hK : xk D ax s) : ∀ a ∈ Bundle.ownAtoms0 "TripleDesk" 149 "java/lang/IllegalStateException" xe_nm, a.before args s = true := by
  intro a ha
  have h : ∀ a ∈ Bundle.ownAtoms0 "TripleDesk" 149 "java/lang/IllegalStateException" xe_nm, (a ∈ lw_tbl ∧ goodWord a = true) ∨ a ∈ xk_c ∨ a ∈ xk_d ∨ a = .laysStatic "java/lang/Throwable" "UNASSIGNED_STACK" "[Ljava/lang/StackTraceElement;" ∨ a = .laysStatic "java/lang/Throwable" "SUPPRESSED_SENTINEL" "Ljava/util/List;" ∨ a = .isRef (.static "java/lang/Throwable" "UNASSIGNED_STACK" "[Ljava/lang/StackTraceElement;") ∨ a = .isRef (.static "java/lang/Throwable" "SUPPRESSED_SENTINEL" "Ljava/util/List;") := by decide +kernel
  rcases h a ha with h | h | h | rfl | rfl | rfl | rfl
  · exact hts a (List.mem_filter.mpr h)
  · have h1 := hK.2.2.2.1 a h
    simp only [xk_c, List.mem_cons, List.not_mem_nil, or_false] at h
    rcases h with rfl | rfl | rfl | rfl | rfl <;> exact va_Nw.use rfl h1
  · have h1 := hK.2.2.2.2.1 a h
    simp only [xk_d, List.mem_cons, List.not_mem_nil, or_false] at h
    rcases h with rfl | rfl | rfl | rfl | rfl | rfl <;> exact va_Nw.use rfl h1
  · exact hK.2.2.2.2.2.1.1
  · exact hK.2.2.2.2.2.2.1
  · exact hK.2.2.2.2.2.1.2
  · exact hK.2.2.2.2.2.2.2
theorem xe_IOE_Desk {D : va_G} {ax : Nat → ClassId} {args : Array Value} {s : State} (hts : ∀ w ∈ lw_gd, w.before args s = true) (hK : xk D ax s) : ∀ a ∈ Bundle.ownAtoms0 "TripleDesk" 142 "java/lang/IndexOutOfBoundsException" xe_nm, a.before args s = true := by
  intro a ha
  have h : ∀ a ∈ Bundle.ownAtoms0 "TripleDesk" 142 "java/lang/IndexOutOfBoundsException" xe_nm, (a ∈ lw_tbl ∧ goodWord a = true) ∨ a ∈ xk_c ∨ a ∈ xk_d ∨ a = .laysStatic "java/lang/Throwable" "UNASSIGNED_STACK" "[Ljava/lang/StackTraceElement;" ∨ a = .laysStatic "java/lang/Throwable" "SUPPRESSED_SENTINEL" "Ljava/util/List;" ∨ a = .isRef (.static "java/lang/Throwable" "UNASSIGNED_STACK" "[Ljava/lang/StackTraceElement;") ∨ a = .isRef (.static "java/lang/Throwable" "SUPPRESSED_SENTINEL" "Ljava/util/List;") := by decide +kernel
  rcases h a ha with h | h | h | rfl | rfl | rfl | rfl
  · exact hts a (List.mem_filter.mpr h)
  · have h1 := hK.2.2.2.1 a h
    simp only [xk_c, List.mem_cons, List.not_mem_nil, or_false] at h
    rcases h with rfl | rfl | rfl | rfl | rfl <;> exact va_Nw.use rfl h1
  · have h1 := hK.2.2.2.2.1 a h
    simp only [xk_d, List.mem_cons, List.not_mem_nil, or_false] at h
    rcases h with rfl | rfl | rfl | rfl | rfl | rfl <;> exact va_Nw.use rfl h1
  · exact hK.2.2.2.2.2.1.1
  · exact hK.2.2.2.2.2.2.1
  · exact hK.2.2.2.2.2.1.2
  · exact hK.2.2.2.2.2.2.2
