theorem x_nilP {D : va_G} {H : Heap} : va_P D classes [] H := fun k q h => by simp at h
theorem x_nilD {A : Nat → Prop} : va_D A [] := ⟨fun i j p q h => by simp at h, fun k q h => by simp at h⟩
