def lw_gd : List Cond := lw_tbl.filter goodWord
theorem lw_gd_in {w : Cond} {i : Nat} (h : tables_1[i]? = some w) (hg : goodWord w = true) : w ∈ lw_gd := List.mem_filter.mpr ⟨List.mem_append_right _ (List.mem_of_getElem? h), hg⟩
theorem lw_gd_good : ∀ w ∈ lw_gd, ∀ (args a' : Array Value) (s U : State), w.before args s = true → s.WarmedH U.vm → w.before a' U = true := fun w hw args a' s U h hW => word_at hW (good_of_word (List.mem_filter.mp hw).2) h

def xt_st (O f d : String) (U : State) : Prop := (Cond.laysStatic O f d).before #[] U = true ∧ (Cond.isRef (.static O f d)).before #[] U = true
theorem xt_st.moved {O f d : String} {U U' : State} (h : xt_st O f d U) (hA : U.vm.Alike U'.vm) (hH : ∀ (q : Nat) (cell : Cell), U.heap[q]? = some cell → cell.vm.isStatics = true → U'.heap[q]? = some cell) : xt_st O f d U' := by
  obtain ⟨h1, h2⟩ := h
  obtain ⟨c, k, i, fd, a, cell, hc, hf, hst, hsta, hcell, hiss, hcls, hlt, hty⟩ := Cond.laysStatic_spec h1
  obtain ⟨k', hf', hk'⟩ := State.fieldFound?_setVm hA hf
  have hf2 : U'.fieldFound? O f d = some (c, k', i, fd) := hf'
  have hc' : U'.vm.findClass O = some c := by rw [hA.findClass]; exact hc
  have hcell' := hH a cell hcell hiss
  have hsta' : k'.statics = some a := by rw [hk']; exact hsta
  have hty' : k'.staticTypes[fd.slot]? = some fd.type := by rw [hk']; exact hty
  constructor
  · simp [Cond.before, Cond.holds, Cond.value, hc', hf2, hst, hsta', hcell', hiss, hcls, hlt, hty']
  · simp [Cond.before, Cond.holds, Cond.value, Term.eval, State.fieldNamed?, hf, hst, hsta, hcell, hiss] at h2
    simp [Cond.before, Cond.holds, Cond.value, Term.eval, State.fieldNamed?, hf2, hst, hsta', hcell', hiss]
    exact h2
theorem xt_castable {a b : String} {U U' : State} (hA : U.vm.Alike U'.vm) (h : (Cond.castable a b).before #[] U = true) : (Cond.castable a b).before #[] U' = true := by
  simp only [Cond.before, Cond.holds, Cond.value, hA.findClass, hA.assignable] at h ⊢
  exact h
theorem xt_declares {x : MethodName} {U U' : State} (hA : U.vm.Alike U'.vm) (h : (Cond.declares x).before #[] U = true) : (Cond.declares x).before #[] U' = true := by
  have h1 := Cond.declares_setVm (args := #[]) (x := x) hA
  have h2 : (Cond.declares x).before #[] (U.setVm U'.vm) = true := by rw [h1]; exact h
  exact h2
theorem xt_nest {a : String} {i : Nat} {x : MethodName} {h0 : String} {U U' : State} (hW : U.WarmedH U'.vm) (h : (Cond.methodLinkNest a i x h0).before #[] U = true) : (Cond.methodLinkNest a i x h0).before #[] U' = true := va_Nw.warmM hW h
