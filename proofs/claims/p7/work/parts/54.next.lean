theorem ps_53 : Cond.selects "TripleDeskModel" ⟨"TripleDeskModel", "readWord", "()V"⟩ ⟨"TripleDeskModel", "readWord", "()V"⟩ ∈ lw_gd := ps_in (q := (⟨"TripleDeskModel", "readWord", "()V"⟩, 72)) (i := 53) (by decide +kernel)
theorem ps_54 : Cond.selects "TripleDeskModel" ⟨"TripleDeskModel", "readNumber", "()V"⟩ ⟨"TripleDeskModel", "readNumber", "()V"⟩ ∈ lw_gd := ps_in (q := (⟨"TripleDeskModel", "readNumber", "()V"⟩, 72)) (i := 54) (by decide +kernel)
theorem wd_1286 : ((Jvm.Cond.methodLink "TripleDeskModel" (190 : Nat) ({ cls := "TripleDeskModel", name := "readWord", desc := "()V" } : Jvm.MethodName))) ∈ lw_gd := lw_gd_in (i := 1286) (by decide +kernel) rfl
theorem wd_1288 : ((Jvm.Cond.instanceMethod ({ cls := "TripleDeskModel", name := "readWord", desc := "()V" } : Jvm.MethodName))) ∈ lw_gd := lw_gd_in (i := 1288) (by decide +kernel) rfl
theorem wd_1289 : ((Jvm.Cond.code ({ cls := "TripleDeskModel", name := "readWord", desc := "()V" } : Jvm.MethodName) prog_13_method_9_code (4 : Nat) (Option.none : Option Jvm.ClassFile.FieldType))) ∈ lw_gd := lw_gd_in (i := 1289) (by decide +kernel) rfl
theorem wd_1301 : ((Jvm.Cond.methodLink "TripleDeskModel" (193 : Nat) ({ cls := "TripleDeskModel", name := "readNumber", desc := "()V" } : Jvm.MethodName))) ∈ lw_gd := lw_gd_in (i := 1301) (by decide +kernel) rfl
theorem wd_1303 : ((Jvm.Cond.instanceMethod ({ cls := "TripleDeskModel", name := "readNumber", desc := "()V" } : Jvm.MethodName))) ∈ lw_gd := lw_gd_in (i := 1303) (by decide +kernel) rfl
theorem wd_1304 : ((Jvm.Cond.code ({ cls := "TripleDeskModel", name := "readNumber", desc := "()V" } : Jvm.MethodName) prog_13_method_10_code (1 : Nat) (Option.none : Option Jvm.ClassFile.FieldType))) ∈ lw_gd := lw_gd_in (i := 1304) (by decide +kernel) rfl
theorem wd_1305 : ((Jvm.Cond.methodLink "TripleDeskModel" (196 : Nat) ({ cls := "TripleDeskModel", name := "isSign", desc := "(I)Z" } : Jvm.MethodName))) ∈ lw_gd := lw_gd_in (i := 1305) (by decide +kernel) rfl
theorem wd_1306 : ((Jvm.Cond.static ({ cls := "TripleDeskModel", name := "isSign", desc := "(I)Z" } : Jvm.MethodName))) ∈ lw_gd := lw_gd_in (i := 1306) (by decide +kernel) rfl
theorem wd_1307 : ((Jvm.Cond.code ({ cls := "TripleDeskModel", name := "isSign", desc := "(I)Z" } : Jvm.MethodName) prog_13_method_11_code (1 : Nat) (Option.some Jvm.ClassFile.FieldType.boolean))) ∈ lw_gd := lw_gd_in (i := 1307) (by decide +kernel) rfl
def skB (g : Nat → Nat) (n : Nat) : Nat → Nat → Nat
  | 0, q => q
  | k + 1, q => if bt g n q = 32 then skB g n k (q + 1) else q
theorem sk_in {g : Nat → Nat} {n q : Nat} (h : bt g n q = 32) : q < n := by
  rcases Nat.lt_or_ge q n with h1 | h1
  · exact h1
  · rw [bt_out h1] at h; omega
theorem skB_stop {g : Nat → Nat} {n q : Nat} (h : ¬ bt g n q = 32) (k : Nat) : skB g n k q = q := by
  cases k with
  | zero => rfl
  | succ k => exact if_neg h
theorem skB_step {g : Nat → Nat} {n q : Nat} (h : bt g n q = 32) : skB g n (n - q) q = skB g n (n - (q + 1)) (q + 1) := by
  have h1 := sk_in h
  rw [show n - q = (n - (q + 1)) + 1 by omega]
  exact if_pos h
def nxB (g : Nat → Nat) (n en : Nat) : Nat := skB g n (n - en) en
/-- where the token at B ends, its kind, its value -/
def tkE (g : Nat → Nat) (n B : Nat) : Nat := if n ≤ B then B else if 97 ≤ g B ∧ g B ≤ 122 then ltE g n (n - B) B else if 48 ≤ g B ∧ g B ≤ 57 then dgE g n (n - B) B else if (g B = 58 ∨ g B = 60 ∨ g B = 62) ∧ bt g n (B + 1) = 61 then B + 2 else B + 1
def tkK (g : Nat → Nat) (n B : Nat) : Nat := if n ≤ B then 0 else if 97 ≤ g B ∧ g B ≤ 122 then rwK g n B else if 48 ≤ g B ∧ g B ≤ 57 then (if dgE g n (n - B) B - B ≤ 3 then 3 else 1) else if (g B = 58 ∨ g B = 60 ∨ g B = 62) ∧ bt g n (B + 1) = 61 then 700 + g B else if (g B = 60 ∨ g B = 62 ∨ g B = 61 ∨ g B = 35 ∨ g B = 38 ∨ g B = 124 ∨ g B = 33 ∨ g B = 40 ∨ g B = 41 ∨ g B = 123 ∨ g B = 125 ∨ g B = 59 ∨ g B = 43 ∨ g B = 45) then 200 + g B else 1
def tkV (g : Nat → Nat) (n B v : Nat) : Nat := if n ≤ B then v else if 97 ≤ g B ∧ g B ≤ 122 then rwV g n B v else if 48 ≤ g B ∧ g B ≤ 57 then dgV g n (n - B) B 0 else v
theorem sk_le {g : Nat → Nat} {n : Nat} : ∀ (k q : Nat), q ≤ n → q ≤ skB g n k q ∧ skB g n k q ≤ n := by
  intro k
  induction k with
  | zero => intro q h; exact ⟨Nat.le_refl _, h⟩
  | succ k ih =>
    intro q h
    by_cases hd : bt g n q = 32
    · have h1 := sk_in hd
      have h2 := ih (q + 1) (by omega)
      have e : skB g n (k + 1) q = skB g n k (q + 1) := if_pos hd
      rw [e]; omega
    · rw [skB_stop hd]; exact ⟨Nat.le_refl _, h⟩
theorem wo_le (q : Nat) : wo q ≤ 20 ∧ wo q ≠ 2 ∧ wo q ≠ 0 := by
  unfold wo; (repeat' split) <;> omega
theorem dgV_lt {g : Nat → Nat} {n : Nat} : ∀ (k q v : Nat), v < 20000 → dgV g n k q v < 20000 := by
  intro k
  induction k with
  | zero => intro q v h; exact h
  | succ k ih =>
    intro q v h
    by_cases hd : 48 ≤ bt g n q ∧ bt g n q ≤ 57
    · have e : dgV g n (k + 1) q v = dgV g n k (q + 1) (if v < 1000 then 10 * v + g q - 48 else v) := if_pos hd
      have h1 := dg_in hd
      rw [bt_in h1] at hd
      rw [e]; apply ih; split <;> omega
    · rw [dgV_stop hd]; exact h
theorem tk_facts {g : Nat → Nat} {n en v0 : Nat} (hen : en ≤ n) (hg : ∀ j, g j < 256) (hv : v0 < 20000) :
    en ≤ nxB g n en ∧ nxB g n en ≤ tkE g n (nxB g n en) ∧ tkE g n (nxB g n en) ≤ n ∧ (tkK g n (nxB g n en) = 0 ∨ nxB g n en < tkE g n (nxB g n en)) ∧ tkK g n (nxB g n en) < 10000 ∧ tkV g n (nxB g n en) v0 < 20000 ∧ (tkK g n (nxB g n en) ≠ 2 ∨ tkV g n (nxB g n en) v0 < 10) := by
  have hB := sk_le (g := g) (n := n) (n - en) en hen
  have hB1 : en ≤ nxB g n en := hB.1
  have hB2 : nxB g n en ≤ n := hB.2
  generalize nxB g n en = B at *
  have hgB := hg B
  by_cases h0 : n ≤ B
  · have e1 : tkE g n B = B := if_pos h0
    have e2 : tkK g n B = 0 := if_pos h0
    have e3 : tkV g n B v0 = v0 := if_pos h0
    rw [e1, e2, e3]; omega
  · by_cases h1 : 97 ≤ g B ∧ g B ≤ 122
    · have e1 : tkE g n B = ltE g n (n - B) B := (if_neg h0).trans (if_pos h1)
      have e2 : tkK g n B = rwK g n B := (if_neg h0).trans (if_pos h1)
      have e3 : tkV g n B v0 = rwV g n B v0 := (if_neg h0).trans (if_pos h1)
      have hb : 97 ≤ bt g n B ∧ bt g n B ≤ 122 := by rw [bt_in (by omega)]; exact h1
      have f1 := ltE_step hb
      have f2 := (ltE_le (g := g) (n := n) (n - (B + 1)) (B + 1) (by omega))
      have f3 := wo_le (wv g B (ltE g n (n - B) B - B))
      rw [← f1] at f2
      rw [e1, e2, e3]
      unfold rwK rwV
      refine ⟨hB1, by omega, f2.1, Or.inr (by omega), ?_, ?_, ?_⟩
      · (repeat' split) <;> omega
      · (repeat' split) <;> omega
      · (repeat' split) <;> omega
    · by_cases h2 : 48 ≤ g B ∧ g B ≤ 57
      · have e1 : tkE g n B = dgE g n (n - B) B := (if_neg h0).trans ((if_neg h1).trans (if_pos h2))
        have e2 : tkK g n B = (if dgE g n (n - B) B - B ≤ 3 then 3 else 1) := (if_neg h0).trans ((if_neg h1).trans (if_pos h2))
        have e3 : tkV g n B v0 = dgV g n (n - B) B 0 := (if_neg h0).trans ((if_neg h1).trans (if_pos h2))
        have hb : 48 ≤ bt g n B ∧ bt g n B ≤ 57 := by rw [bt_in (by omega)]; exact h2
        have f1 := dgE_step hb
        have f2 := (dgE_le (g := g) (n := n) (n - (B + 1)) (B + 1) (by omega))
        have f3 := dgV_lt (g := g) (n := n) (n - B) B 0 (by omega)
        rw [← f1] at f2
        rw [e1, e2, e3]
        refine ⟨hB1, by omega, f2.1, Or.inr (by omega), ?_, f3, ?_⟩
        · split <;> omega
        · split <;> omega
      · have e3 : tkV g n B v0 = v0 := (if_neg h0).trans ((if_neg h1).trans (if_neg h2))
        rw [e3]
        have hb1 : bt g n (B + 1) = 61 → B + 1 < n := by
          intro h
          rcases Nat.lt_or_ge (B + 1) n with h3 | h3
          · exact h3
          · rw [bt_out h3] at h; omega
        unfold tkE tkK
        rw [if_neg h0, if_neg h1, if_neg h2, if_neg h0, if_neg h1, if_neg h2]
        by_cases h3 : (g B = 58 ∨ g B = 60 ∨ g B = 62) ∧ bt g n (B + 1) = 61
        · have h4 := hb1 h3.2
          rw [if_pos h3, if_pos h3]; omega
        · rw [if_neg h3, if_neg h3]
          refine ⟨hB1, by omega, by omega, Or.inr (by omega), ?_, hv, ?_⟩
          · split <;> omega
          · split <;> omega
/-- the token that is looked at: where it begins and ends, its kind, its value -/
def tkq (g : Nat → Nat) (n b en k v : Nat) : Prop := en = tkE g n b ∧ k = tkK g n b ∧ (k ≠ 2 ∨ v < 10) ∧ (¬ (k = 2 ∨ k = 3) ∨ v = tkV g n b 0)
theorem tkq.lt {g : Nat → Nat} {n b en k v : Nat} (h : tkq g n b en k v) (hk : k = 2) : v < 10 := Or.resolve_left h.2.2.1 (fun q => q hk)
theorem wo_3 (q : Nat) : wo q ≠ 3 := by
  unfold wo; (repeat' split) <;> omega
theorem tkV_2 {g : Nat → Nat} {n B : Nat} (h : tkK g n B = 2) (v : Nat) : tkV g n B v = tkV g n B 0 := by
  unfold tkK at h
  unfold tkV
  by_cases h0 : n ≤ B
  · rw [if_pos h0] at h; omega
  · rw [if_neg h0] at h; rw [if_neg h0, if_neg h0]
    by_cases h1 : 97 ≤ g B ∧ g B ≤ 122
    · rw [if_pos h1] at h; rw [if_pos h1, if_pos h1]
      unfold rwK at h
      unfold rwV
      by_cases h2 : ltE g n (n - B) B = B + 1 ∧ (g B ≤ 102 ∨ 119 ≤ g B)
      · rw [if_pos h2, if_pos h2]
      · rw [if_neg h2] at h
        have h3 := wo_le (wv g B (ltE g n (n - B) B - B))
        split at h <;> omega
    · rw [if_neg h1] at h; rw [if_neg h1, if_neg h1]
      by_cases h2 : 48 ≤ g B ∧ g B ≤ 57
      · rw [if_pos h2, if_pos h2]
      · rw [if_neg h2] at h
        exfalso
        (repeat' split at h) <;> omega
theorem tkV_3 {g : Nat → Nat} {n B : Nat} (h : tkK g n B = 3) (v : Nat) : tkV g n B v = tkV g n B 0 := by
  unfold tkK at h
  unfold tkV
  by_cases h0 : n ≤ B
  · rw [if_pos h0] at h; omega
  · rw [if_neg h0] at h; rw [if_neg h0, if_neg h0]
    by_cases h1 : 97 ≤ g B ∧ g B ≤ 122
    · rw [if_pos h1] at h
      exfalso
      unfold rwK at h
      have h3 := wo_3 (wv g B (ltE g n (n - B) B - B))
      (repeat' split at h) <;> omega
    · rw [if_neg h1] at h; rw [if_neg h1, if_neg h1]
      by_cases h2 : 48 ≤ g B ∧ g B ≤ 57
      · rw [if_pos h2, if_pos h2]
      · rw [if_neg h2] at h
        exfalso
        (repeat' split at h) <;> omega
theorem tkq_of {g : Nat → Nat} {n en v0 b1 e1 k1 v1 : Nat} (hE : e1 = tkE g n (nxB g n en)) (hK : k1 = tkK g n (nxB g n en)) (hV : v1 = tkV g n (nxB g n en) v0) (hB : b1 = nxB g n en) (h2 : k1 ≠ 2 ∨ v1 < 10) : tkq g n b1 e1 k1 v1 := by
  subst hB
  refine ⟨hE, hK, h2, ?_⟩
  by_cases h : k1 = 2
  · exact Or.inr (hV.trans (tkV_2 (hK.symm.trans h) v0))
  · by_cases h3 : k1 = 3
    · exact Or.inr (hV.trans (tkV_3 (hK.symm.trans h3) v0))
    · exact Or.inl (by omega)
abbrev b_Model_next : ByteArray := prog_13_method_12_code
def y_Model_next : MethodName := ⟨R_Model, "next", "()V"⟩
theorem d_Model_next_0 : decode b_Model_next 0 = .ok (.aload_n 0, 1) := by decide +kernel
theorem d_Model_next_1 : decode b_Model_next 1 = .ok (.aload_n 0, 1) := by decide +kernel
theorem d_Model_next_2 : decode b_Model_next 2 = .ok (.getfield 164, 3) := by decide +kernel
theorem d_Model_next_5 : decode b_Model_next 5 = .ok (.putfield 175, 3) := by decide +kernel
theorem d_Model_next_8 : decode b_Model_next 8 = .ok (.aload_n 0, 1) := by decide +kernel
theorem d_Model_next_9 : decode b_Model_next 9 = .ok (.aload_n 0, 1) := by decide +kernel
theorem d_Model_next_10 : decode b_Model_next 10 = .ok (.getfield 175, 3) := by decide +kernel
theorem d_Model_next_13 : decode b_Model_next 13 = .ok (.invokevirtual 167, 3) := by decide +kernel
theorem d_Model_next_16 : decode b_Model_next 16 = .ok (.bipush 32, 2) := by decide +kernel
theorem d_Model_next_18 : decode b_Model_next 18 = .ok (.if_icmp .ne 16, 3) := by decide +kernel
theorem d_Model_next_21 : decode b_Model_next 21 = .ok (.aload_n 0, 1) := by decide +kernel
theorem d_Model_next_22 : decode b_Model_next 22 = .ok (.dup, 1) := by decide +kernel
theorem d_Model_next_23 : decode b_Model_next 23 = .ok (.getfield 175, 3) := by decide +kernel
theorem d_Model_next_26 : decode b_Model_next 26 = .ok (.iconst 1, 1) := by decide +kernel
theorem d_Model_next_27 : decode b_Model_next 27 = .ok (.iadd, 1) := by decide +kernel
theorem d_Model_next_28 : decode b_Model_next 28 = .ok (.putfield 175, 3) := by decide +kernel
theorem d_Model_next_31 : decode b_Model_next 31 = .ok (.goto (-23), 3) := by decide +kernel
theorem d_Model_next_34 : decode b_Model_next 34 = .ok (.aload_n 0, 1) := by decide +kernel
theorem d_Model_next_35 : decode b_Model_next 35 = .ok (.aload_n 0, 1) := by decide +kernel
theorem d_Model_next_36 : decode b_Model_next 36 = .ok (.getfield 175, 3) := by decide +kernel
theorem d_Model_next_39 : decode b_Model_next 39 = .ok (.putfield 164, 3) := by decide +kernel
theorem d_Model_next_42 : decode b_Model_next 42 = .ok (.aload_n 0, 1) := by decide +kernel
theorem d_Model_next_43 : decode b_Model_next 43 = .ok (.getfield 175, 3) := by decide +kernel
theorem d_Model_next_46 : decode b_Model_next 46 = .ok (.aload_n 0, 1) := by decide +kernel
theorem d_Model_next_47 : decode b_Model_next 47 = .ok (.getfield 156, 3) := by decide +kernel
theorem d_Model_next_50 : decode b_Model_next 50 = .ok (.if_icmp .lt 17, 3) := by decide +kernel
theorem d_Model_next_53 : decode b_Model_next 53 = .ok (.aload_n 0, 1) := by decide +kernel
theorem d_Model_next_54 : decode b_Model_next 54 = .ok (.iconst 0, 1) := by decide +kernel
theorem d_Model_next_55 : decode b_Model_next 55 = .ok (.putfield 178, 3) := by decide +kernel
theorem d_Model_next_58 : decode b_Model_next 58 = .ok (.aload_n 0, 1) := by decide +kernel
theorem d_Model_next_59 : decode b_Model_next 59 = .ok (.aload_n 0, 1) := by decide +kernel
theorem d_Model_next_60 : decode b_Model_next 60 = .ok (.getfield 156, 3) := by decide +kernel
theorem d_Model_next_63 : decode b_Model_next 63 = .ok (.putfield 175, 3) := by decide +kernel
theorem d_Model_next_66 : decode b_Model_next 66 = .ok (.return_, 1) := by decide +kernel
theorem d_Model_next_67 : decode b_Model_next 67 = .ok (.aload_n 0, 1) := by decide +kernel
theorem d_Model_next_68 : decode b_Model_next 68 = .ok (.getfield 7, 3) := by decide +kernel
theorem d_Model_next_71 : decode b_Model_next 71 = .ok (.aload_n 0, 1) := by decide +kernel
theorem d_Model_next_72 : decode b_Model_next 72 = .ok (.getfield 175, 3) := by decide +kernel
theorem d_Model_next_75 : decode b_Model_next 75 = .ok (.iaload, 1) := by decide +kernel
theorem d_Model_next_76 : decode b_Model_next 76 = .ok (.istore_n 1, 1) := by decide +kernel
theorem d_Model_next_77 : decode b_Model_next 77 = .ok (.iload_n 1, 1) := by decide +kernel
theorem d_Model_next_78 : decode b_Model_next 78 = .ok (.invokestatic 171, 3) := by decide +kernel
theorem d_Model_next_81 : decode b_Model_next 81 = .ok (.ifCond .eq 10, 3) := by decide +kernel
theorem d_Model_next_84 : decode b_Model_next 84 = .ok (.aload_n 0, 1) := by decide +kernel
theorem d_Model_next_85 : decode b_Model_next 85 = .ok (.invokevirtual 190, 3) := by decide +kernel
theorem d_Model_next_88 : decode b_Model_next 88 = .ok (.goto 111, 3) := by decide +kernel
theorem d_Model_next_91 : decode b_Model_next 91 = .ok (.iload_n 1, 1) := by decide +kernel
theorem d_Model_next_92 : decode b_Model_next 92 = .ok (.invokestatic 187, 3) := by decide +kernel
theorem d_Model_next_95 : decode b_Model_next 95 = .ok (.ifCond .eq 10, 3) := by decide +kernel
theorem d_Model_next_98 : decode b_Model_next 98 = .ok (.aload_n 0, 1) := by decide +kernel
theorem d_Model_next_99 : decode b_Model_next 99 = .ok (.invokevirtual 193, 3) := by decide +kernel
theorem d_Model_next_102 : decode b_Model_next 102 = .ok (.goto 97, 3) := by decide +kernel
theorem d_Model_next_105 : decode b_Model_next 105 = .ok (.iload_n 1, 1) := by decide +kernel
theorem d_Model_next_106 : decode b_Model_next 106 = .ok (.bipush 58, 2) := by decide +kernel
theorem d_Model_next_108 : decode b_Model_next 108 = .ok (.if_icmp .eq 15, 3) := by decide +kernel
theorem d_Model_next_111 : decode b_Model_next 111 = .ok (.iload_n 1, 1) := by decide +kernel
theorem d_Model_next_112 : decode b_Model_next 112 = .ok (.bipush 60, 2) := by decide +kernel
theorem d_Model_next_114 : decode b_Model_next 114 = .ok (.if_icmp .eq 9, 3) := by decide +kernel
theorem d_Model_next_117 : decode b_Model_next 117 = .ok (.iload_n 1, 1) := by decide +kernel
theorem d_Model_next_118 : decode b_Model_next 118 = .ok (.bipush 62, 2) := by decide +kernel
theorem d_Model_next_120 : decode b_Model_next 120 = .ok (.if_icmp .ne 22, 3) := by decide +kernel
theorem d_Model_next_123 : decode b_Model_next 123 = .ok (.aload_n 0, 1) := by decide +kernel
theorem d_Model_next_124 : decode b_Model_next 124 = .ok (.aload_n 0, 1) := by decide +kernel
theorem d_Model_next_125 : decode b_Model_next 125 = .ok (.getfield 175, 3) := by decide +kernel
theorem d_Model_next_128 : decode b_Model_next 128 = .ok (.iconst 1, 1) := by decide +kernel
theorem d_Model_next_129 : decode b_Model_next 129 = .ok (.iadd, 1) := by decide +kernel
theorem d_Model_next_130 : decode b_Model_next 130 = .ok (.invokevirtual 167, 3) := by decide +kernel
theorem d_Model_next_133 : decode b_Model_next 133 = .ok (.bipush 61, 2) := by decide +kernel
theorem d_Model_next_135 : decode b_Model_next 135 = .ok (.if_icmp .ne 7, 3) := by decide +kernel
theorem d_Model_next_138 : decode b_Model_next 138 = .ok (.iconst 1, 1) := by decide +kernel
theorem d_Model_next_139 : decode b_Model_next 139 = .ok (.goto 4, 3) := by decide +kernel
theorem d_Model_next_142 : decode b_Model_next 142 = .ok (.iconst 0, 1) := by decide +kernel
theorem d_Model_next_143 : decode b_Model_next 143 = .ok (.istore_n 2, 1) := by decide +kernel
theorem d_Model_next_144 : decode b_Model_next 144 = .ok (.aload_n 0, 1) := by decide +kernel
theorem d_Model_next_145 : decode b_Model_next 145 = .ok (.iload_n 2, 1) := by decide +kernel
theorem d_Model_next_146 : decode b_Model_next 146 = .ok (.ifCond .eq 12, 3) := by decide +kernel
theorem d_Model_next_149 : decode b_Model_next 149 = .ok (.aload_n 0, 1) := by decide +kernel
theorem d_Model_next_150 : decode b_Model_next 150 = .ok (.getfield 175, 3) := by decide +kernel
theorem d_Model_next_153 : decode b_Model_next 153 = .ok (.iconst 2, 1) := by decide +kernel
theorem d_Model_next_154 : decode b_Model_next 154 = .ok (.iadd, 1) := by decide +kernel
theorem d_Model_next_155 : decode b_Model_next 155 = .ok (.goto 9, 3) := by decide +kernel
theorem d_Model_next_158 : decode b_Model_next 158 = .ok (.aload_n 0, 1) := by decide +kernel
theorem d_Model_next_159 : decode b_Model_next 159 = .ok (.getfield 175, 3) := by decide +kernel
theorem d_Model_next_162 : decode b_Model_next 162 = .ok (.iconst 1, 1) := by decide +kernel
theorem d_Model_next_163 : decode b_Model_next 163 = .ok (.iadd, 1) := by decide +kernel
theorem d_Model_next_164 : decode b_Model_next 164 = .ok (.putfield 164, 3) := by decide +kernel
theorem d_Model_next_167 : decode b_Model_next 167 = .ok (.aload_n 0, 1) := by decide +kernel
theorem d_Model_next_168 : decode b_Model_next 168 = .ok (.iload_n 2, 1) := by decide +kernel
theorem d_Model_next_169 : decode b_Model_next 169 = .ok (.ifCond .eq 11, 3) := by decide +kernel
theorem d_Model_next_172 : decode b_Model_next 172 = .ok (.sipush 700, 3) := by decide +kernel
theorem d_Model_next_175 : decode b_Model_next 175 = .ok (.iload_n 1, 1) := by decide +kernel
theorem d_Model_next_176 : decode b_Model_next 176 = .ok (.iadd, 1) := by decide +kernel
theorem d_Model_next_177 : decode b_Model_next 177 = .ok (.goto 19, 3) := by decide +kernel
theorem d_Model_next_180 : decode b_Model_next 180 = .ok (.iload_n 1, 1) := by decide +kernel
theorem d_Model_next_181 : decode b_Model_next 181 = .ok (.invokestatic 196, 3) := by decide +kernel
theorem d_Model_next_184 : decode b_Model_next 184 = .ok (.ifCond .eq 11, 3) := by decide +kernel
theorem d_Model_next_187 : decode b_Model_next 187 = .ok (.sipush 200, 3) := by decide +kernel
theorem d_Model_next_190 : decode b_Model_next 190 = .ok (.iload_n 1, 1) := by decide +kernel
theorem d_Model_next_191 : decode b_Model_next 191 = .ok (.iadd, 1) := by decide +kernel
theorem d_Model_next_192 : decode b_Model_next 192 = .ok (.goto 4, 3) := by decide +kernel
theorem d_Model_next_195 : decode b_Model_next 195 = .ok (.iconst 1, 1) := by decide +kernel
theorem d_Model_next_196 : decode b_Model_next 196 = .ok (.putfield 178, 3) := by decide +kernel
theorem d_Model_next_199 : decode b_Model_next 199 = .ok (.return_, 1) := by decide +kernel
set_option maxHeartbeats 40000000 in
set_option maxRecDepth 100000 in
theorem c_M_next (l : Launch) (D : va_G) (ax : Nat → ClassId) (m0 m1 m2 m3 m4 m5 m6 m7 m8 m9 m10 m11 m12 m13 m14 m15 m16 m17 m18 m19 m20 m21 m22 m23 m24 m25 m26 m27 m28 m29 m30 m31 m32 m33 m34 m35 m36 m37 m38 m39 m40 m41 m42 : Nat) (s_thrown s_taped s_outSize s_kind s_begin s_failed s_isProgram s_half s_signs s_stacked s_name s_shift s_statements s_ifs s_whiles s_variants s_open s_isMade s_conditions s_kept s_tops s_used s_looked s_rows s_firstRow s_isBroken s_atoms : Int32) (n en v0 : Nat) (g : Nat → Nat) (sz : Nat) (hn : n ≤ 400) (hen : en ≤ n) (hg : ∀ j, g j < 256) (hv0 : v0 < 20000) : Met l y_Model_next (xws (.code y_Model_next b_Model_next 3 none)) ({ frames := 30, cells := 0, slots := 0, locals := 1200 }) (va_Pc [.ref m0] (xo D ax [(m0, .inr (11, [.int s_thrown, .int s_taped, .ref m1, .int (nI n), .int s_outSize, .ref m2, .int s_kind, .int (nI v0), .int s_begin, .int (nI en), .int s_failed, .ref m3, .ref m4, .ref m5, .int s_isProgram, .int s_half, .ref m6, .ref m7, .ref m8, .ref m9, .ref m10, .ref m11, .ref m12, .ref m13, .ref m14, .ref m15, .ref m16, .ref m17, .ref m18, .ref m19, .ref m20, .int s_signs, .ref m21, .int s_stacked, .ref m22, .int s_name, .int s_shift, .int s_statements, .int s_ifs, .int s_whiles, .int s_variants, .int s_open, .ref m23, .int s_isMade, .int s_conditions, .ref m24, .ref m25, .ref m26, .ref m27, .int s_kept, .ref m28, .int s_tops, .ref m29, .int s_used, .ref m30, .ref m31, .int s_looked, .int s_rows, .int s_firstRow, .ref m32, .ref m33, .ref m34, .ref m35, .ref m36, .ref m37, .ref m38, .ref m39, .ref m40, .int s_isBroken, .ref m41, .int s_atoms, .ref m42])), (m1, .inl (ax 0, 400, .inl (fun j => nI (g j))))] sz)) ((va_Qv (fun (u : Nat → Nat) => (u 1 = tkE g n (nxB g n en) ∧ u 2 = tkK g n (nxB g n en) ∧ u 3 = tkV g n (nxB g n en) v0 ∧ u 0 = nxB g n en ∧ en ≤ u 0 ∧ u 0 ≤ u 1 ∧ u 1 ≤ n ∧ tk0 (u 2) (u 0) (u 1) ∧ u 2 < 10000 ∧ u 3 < 20000 ∧ tkq g n (u 0) (u 1) (u 2) (u 3))) (xb D (va_A [(m0, .inr (11, [.int s_thrown, .int s_taped, .ref m1, .int (nI n), .int s_outSize, .ref m2, .int s_kind, .int (nI v0), .int s_begin, .int (nI en), .int s_failed, .ref m3, .ref m4, .ref m5, .int s_isProgram, .int s_half, .ref m6, .ref m7, .ref m8, .ref m9, .ref m10, .ref m11, .ref m12, .ref m13, .ref m14, .ref m15, .ref m16, .ref m17, .ref m18, .ref m19, .ref m20, .int s_signs, .ref m21, .int s_stacked, .ref m22, .int s_name, .int s_shift, .int s_statements, .int s_ifs, .int s_whiles, .int s_variants, .int s_open, .ref m23, .int s_isMade, .int s_conditions, .ref m24, .ref m25, .ref m26, .ref m27, .int s_kept, .ref m28, .int s_tops, .ref m29, .int s_used, .ref m30, .ref m31, .int s_looked, .int s_rows, .int s_firstRow, .ref m32, .ref m33, .ref m34, .ref m35, .ref m36, .ref m37, .ref m38, .ref m39, .ref m40, .int s_isBroken, .ref m41, .int s_atoms, .ref m42])), (m1, .inl (ax 0, 400, .inl (fun j => nI (g j))))] sz) (fun u => [(m0, .inr (11, [.int s_thrown, .int s_taped, .ref m1, .int (nI n), .int s_outSize, .ref m2, .int (nI (u 2)), .int (nI (u 3)), .int (nI (u 0)), .int (nI (u 1)), .int s_failed, .ref m3, .ref m4, .ref m5, .int s_isProgram, .int s_half, .ref m6, .ref m7, .ref m8, .ref m9, .ref m10, .ref m11, .ref m12, .ref m13, .ref m14, .ref m15, .ref m16, .ref m17, .ref m18, .ref m19, .ref m20, .int s_signs, .ref m21, .int s_stacked, .ref m22, .int s_name, .int s_shift, .int s_statements, .int s_ifs, .int s_whiles, .int s_variants, .int s_open, .ref m23, .int s_isMade, .int s_conditions, .ref m24, .ref m25, .ref m26, .ref m27, .int s_kept, .ref m28, .int s_tops, .ref m29, .int s_used, .ref m30, .ref m31, .int s_looked, .int s_rows, .int s_firstRow, .ref m32, .ref m33, .ref m34, .ref m35, .ref m36, .ref m37, .ref m38, .ref m39, .ref m40, .int s_isBroken, .ref m41, .int s_atoms, .ref m42])), (m1, .inl (ax 0, 400, .inl (fun j => nI (g j))))])) (va_A [(m0, .inr (11, [.int s_thrown, .int s_taped, .ref m1, .int (nI n), .int s_outSize, .ref m2, .int s_kind, .int (nI v0), .int s_begin, .int (nI en), .int s_failed, .ref m3, .ref m4, .ref m5, .int s_isProgram, .int s_half, .ref m6, .ref m7, .ref m8, .ref m9, .ref m10, .ref m11, .ref m12, .ref m13, .ref m14, .ref m15, .ref m16, .ref m17, .ref m18, .ref m19, .ref m20, .int s_signs, .ref m21, .int s_stacked, .ref m22, .int s_name, .int s_shift, .int s_statements, .int s_ifs, .int s_whiles, .int s_variants, .int s_open, .ref m23, .int s_isMade, .int s_conditions, .ref m24, .ref m25, .ref m26, .ref m27, .int s_kept, .ref m28, .int s_tops, .ref m29, .int s_used, .ref m30, .ref m31, .int s_looked, .int s_rows, .int s_firstRow, .ref m32, .ref m33, .ref m34, .ref m35, .ref m36, .ref m37, .ref m38, .ref m39, .ref m40, .int s_isBroken, .ref m41, .int s_atoms, .ref m42])), (m1, .inl (ax 0, 400, .inl (fun j => nI (g j))))] sz))) 0 0 (va_A [(m0, .inr (11, [.int s_thrown, .int s_taped, .ref m1, .int (nI n), .int s_outSize, .ref m2, .int s_kind, .int (nI v0), .int s_begin, .int (nI en), .int s_failed, .ref m3, .ref m4, .ref m5, .int s_isProgram, .int s_half, .ref m6, .ref m7, .ref m8, .ref m9, .ref m10, .ref m11, .ref m12, .ref m13, .ref m14, .ref m15, .ref m16, .ref m17, .ref m18, .ref m19, .ref m20, .int s_signs, .ref m21, .int s_stacked, .ref m22, .int s_name, .int s_shift, .int s_statements, .int s_ifs, .int s_whiles, .int s_variants, .int s_open, .ref m23, .int s_isMade, .int s_conditions, .ref m24, .ref m25, .ref m26, .ref m27, .int s_kept, .ref m28, .int s_tops, .ref m29, .int s_used, .ref m30, .ref m31, .int s_looked, .int s_rows, .int s_firstRow, .ref m32, .ref m33, .ref m34, .ref m35, .ref m36, .ref m37, .ref m38, .ref m39, .ref m40, .int s_isBroken, .ref m41, .int s_atoms, .ref m42])), (m1, .inl (ax 0, 400, .inl (fun j => nI (g j))))] sz) := by
  refine Met.ofW (cc := b_Model_next) (maxL := 3) (ret := none) (by decide) rfl ?_
  intro p e s m args below meth c s₁ B hml hv
  obtain ⟨rfl, hsz, hP, hK, hD0⟩ := hv
  have hx := B.exec
  have hb := B.bytes
  have hr := B.returns
  have hts := xw_hts B.pre
  have hown : s.vm.findClass R_Model = some m.cls := findClass_of_methodNamed B.named
  have hlocks := B.notSynchronized
  subst hsz
  have hD := hD0.self (sz := s.heap.size)
  have hN := xz_entry hP
  generalize hAe : va_A [(m0, .inr (11, [.int s_thrown, .int s_taped, .ref m1, .int (nI n), .int s_outSize, .ref m2, .int s_kind, .int (nI v0), .int s_begin, .int (nI en), .int s_failed, .ref m3, .ref m4, .ref m5, .int s_isProgram, .int s_half, .ref m6, .ref m7, .ref m8, .ref m9, .ref m10, .ref m11, .ref m12, .ref m13, .ref m14, .ref m15, .ref m16, .ref m17, .ref m18, .ref m19, .ref m20, .int s_signs, .ref m21, .int s_stacked, .ref m22, .int s_name, .int s_shift, .int s_statements, .int s_ifs, .int s_whiles, .int s_variants, .int s_open, .ref m23, .int s_isMade, .int s_conditions, .ref m24, .ref m25, .ref m26, .ref m27, .int s_kept, .ref m28, .int s_tops, .ref m29, .int s_used, .ref m30, .ref m31, .int s_looked, .int s_rows, .int s_firstRow, .ref m32, .ref m33, .ref m34, .ref m35, .ref m36, .ref m37, .ref m38, .ref m39, .ref m40, .int s_isBroken, .ref m41, .int s_atoms, .ref m42])), (m1, .inl (ax 0, 400, .inl (fun j => nI (g j))))] s.heap.size = A at hD hN ⊢
  have hA : ∀ q : Nat, s.heap.size ≤ q → A q := fun q h => by rw [← hAe]; exact Or.inr h
  have hS : va_S A s.heap s.heap [] := va_S.rf
  have hl0 := lv_entry ([.ref m0]) (n := 3) (Nat.le_of_ble_eq_true rfl)
  rw [lg_entry_eq]
  generalize (lg_sl ([.ref m0]) ++ List.replicate (3 - (lg_sl ([.ref m0])).length) Slot.unset).toArray = ls at hl0 ⊢
  have hl1 : lv_has ls 3 [(0, .ref m0)] := hl0
  refine xw_gen (fun Z9 hQe => ?_)
  refine lv_aload_n hx hb d_Model_next_0 rfl (lv_at hl1 0 rfl) ?_
  refine lv_aload_n hx hb d_Model_next_1 rfl (lv_at hl1 0 rfl) ?_
  refine va_get (D := D) (ci := 11) (v := .int (nI en)) (C := R_Model) (T := F_Model) (N := 72) hx hb hts i_Model hown hK.1 hP 0 rfl rfl 9 (by decide) (hts _ wd_1045) (fun _ h9 => h9) rfl d_Model_next_2 ?_
  refine va_put (D := D) (ci := 11) (v := .int (nI en)) (ty := .int) (C := R_Model) (T := F_Model) (N := 72) hx hb hts i_Model t_Model t_Model_ok n_Model hown hK.1 hP hD hS 0 rfl rfl 8 (by decide) (hts _ wd_1044) (fun _ h9 => h9) rfl (by decide +kernel) rfl rfl (Nat.le_of_ble_eq_true rfl) d_Model_next_5 (fun H_1 locs hP1 hD1 hS1 => ?_)
  clear hP hD hS
  have hS := hS1
  have hW7 : (fun w9 : va_W => va_P D classes w9 H_1 ∧ va_D A w9) [(m0, .inr (11, [.int s_thrown, .int s_taped, .ref m1, .int (nI n), .int s_outSize, .ref m2, .int s_kind, .int (nI v0), .int (nI en), .int (nI en), .int s_failed, .ref m3, .ref m4, .ref m5, .int s_isProgram, .int s_half, .ref m6, .ref m7, .ref m8, .ref m9, .ref m10, .ref m11, .ref m12, .ref m13, .ref m14, .ref m15, .ref m16, .ref m17, .ref m18, .ref m19, .ref m20, .int s_signs, .ref m21, .int s_stacked, .ref m22, .int s_name, .int s_shift, .int s_statements, .int s_ifs, .int s_whiles, .int s_variants, .int s_open, .ref m23, .int s_isMade, .int s_conditions, .ref m24, .ref m25, .ref m26, .ref m27, .int s_kept, .ref m28, .int s_tops, .ref m29, .int s_used, .ref m30, .ref m31, .int s_looked, .int s_rows, .int s_firstRow, .ref m32, .ref m33, .ref m34, .ref m35, .ref m36, .ref m37, .ref m38, .ref m39, .ref m40, .int s_isBroken, .ref m41, .int s_atoms, .ref m42])), (m1, .inl (ax 0, 400, .inl (fun j => nI (g j))))] := ⟨hP1, hD1⟩
  obtain ⟨hP, hD⟩ := hW7
  clear hP1 hD1 hS1
  suffices key_2 : ∀ (k : Nat) (q : Nat), n - q < k → en ≤ q → q ≤ n → skB g n (n - q) q = nxB g n en → ∀ (H : Heap) (locs : List Loc) (ls : Array Slot), va_P D classes [(m0, .inr (11, [.int s_thrown, .int s_taped, .ref m1, .int (nI n), .int s_outSize, .ref m2, .int s_kind, .int (nI v0), .int (nI q), .int (nI en), .int s_failed, .ref m3, .ref m4, .ref m5, .int s_isProgram, .int s_half, .ref m6, .ref m7, .ref m8, .ref m9, .ref m10, .ref m11, .ref m12, .ref m13, .ref m14, .ref m15, .ref m16, .ref m17, .ref m18, .ref m19, .ref m20, .int s_signs, .ref m21, .int s_stacked, .ref m22, .int s_name, .int s_shift, .int s_statements, .int s_ifs, .int s_whiles, .int s_variants, .int s_open, .ref m23, .int s_isMade, .int s_conditions, .ref m24, .ref m25, .ref m26, .ref m27, .int s_kept, .ref m28, .int s_tops, .ref m29, .int s_used, .ref m30, .ref m31, .int s_looked, .int s_rows, .int s_firstRow, .ref m32, .ref m33, .ref m34, .ref m35, .ref m36, .ref m37, .ref m38, .ref m39, .ref m40, .int s_isBroken, .ref m41, .int s_atoms, .ref m42])), (m1, .inl (ax 0, 400, .inl (fun j => nI (g j))))] H → va_D A [(m0, .inr (11, [.int s_thrown, .int s_taped, .ref m1, .int (nI n), .int s_outSize, .ref m2, .int s_kind, .int (nI v0), .int (nI q), .int (nI en), .int s_failed, .ref m3, .ref m4, .ref m5, .int s_isProgram, .int s_half, .ref m6, .ref m7, .ref m8, .ref m9, .ref m10, .ref m11, .ref m12, .ref m13, .ref m14, .ref m15, .ref m16, .ref m17, .ref m18, .ref m19, .ref m20, .int s_signs, .ref m21, .int s_stacked, .ref m22, .int s_name, .int s_shift, .int s_statements, .int s_ifs, .int s_whiles, .int s_variants, .int s_open, .ref m23, .int s_isMade, .int s_conditions, .ref m24, .ref m25, .ref m26, .ref m27, .int s_kept, .ref m28, .int s_tops, .ref m29, .int s_used, .ref m30, .ref m31, .int s_looked, .int s_rows, .int s_firstRow, .ref m32, .ref m33, .ref m34, .ref m35, .ref m36, .ref m37, .ref m38, .ref m39, .ref m40, .int s_isBroken, .ref m41, .int s_atoms, .ref m42])), (m1, .inl (ax 0, 400, .inl (fun j => nI (g j))))] → va_S A s.heap H locs → lv_has ls 3 [(0, .ref m0)] → W p l e (headSpec (xws (.code y_Model_next b_Model_next 3 none)) ({ frames := 30, cells := 0, slots := 0, locals := 1200 })).room s m ([.ref m0] : List Value).toArray below meth c H locs 0 0 Z9 (F0 m 8 ls []) from key_2 (n - en + 1) en (Nat.lt_succ_self _) (by first | assumption | omega) (by first | assumption | omega) rfl _ _ _ (hP) (hD) hS (lv_sub hl1 [0] rfl)
  intro k_3
  induction k_3 with
  | zero =>
    intro q hk_5
    exact absurd hk_5 (Nat.not_lt_zero _)
  | succ k_3 ih_4 =>
    clear hP hD hS hl1
    intro q hk_5 hq1 hq2 hE H locs ls hP hD hS hl1
    refine lv_aload_n hx hb d_Model_next_8 rfl (lv_at hl1 0 rfl) ?_
    refine lv_aload_n hx hb d_Model_next_9 rfl (lv_at hl1 0 rfl) ?_
    refine va_get (D := D) (ci := 11) (v := .int (nI q)) (C := R_Model) (T := F_Model) (N := 72) hx hb hts i_Model hown hK.1 hP 0 rfl rfl 8 (by decide) (hts _ wd_1044) (fun _ h9 => h9) rfl d_Model_next_10 ?_
    obtain ⟨hPc, hDc, hFc, hCs⟩ := xw_sub3 (wc := [(m0, .inr (11, [.int s_thrown, .int s_taped, .ref m1, .int (nI n), .int s_outSize, .ref m2, .int s_kind, .int (nI v0), .int (nI q), .int (nI en), .int s_failed, .ref m3, .ref m4, .ref m5, .int s_isProgram, .int s_half, .ref m6, .ref m7, .ref m8, .ref m9, .ref m10, .ref m11, .ref m12, .ref m13, .ref m14, .ref m15, .ref m16, .ref m17, .ref m18, .ref m19, .ref m20, .int s_signs, .ref m21, .int s_stacked, .ref m22, .int s_name, .int s_shift, .int s_statements, .int s_ifs, .int s_whiles, .int s_variants, .int s_open, .ref m23, .int s_isMade, .int s_conditions, .ref m24, .ref m25, .ref m26, .ref m27, .int s_kept, .ref m28, .int s_tops, .ref m29, .int s_used, .ref m30, .ref m31, .int s_looked, .int s_rows, .int s_firstRow, .ref m32, .ref m33, .ref m34, .ref m35, .ref m36, .ref m37, .ref m38, .ref m39, .ref m40, .int s_isBroken, .ref m41, .int s_atoms, .ref m42])), (m1, .inl (ax 0, 400, .inl (fun j => nI (g j))))]) hP hD hS hA [0, 1] (by decide) rfl
    have hz := xz_of hN hS
    refine va_calli (va_runV (As := [.int (nI q)]) (rest := []) ⟨hx, hb, hml, hown, hts⟩ (c_M_byteAt l D ax m0 m1 m2 m3 m4 m5 m6 m7 m8 m9 m10 m11 m12 m13 m14 m15 m16 m17 m18 m19 m20 m21 m22 m23 m24 m25 m26 m27 m28 m29 m30 m31 m32 m33 m34 m35 m36 m37 m38 m39 m40 m41 m42 s_thrown s_taped s_outSize s_kind (nI v0) (nI q) (nI en) s_failed s_isProgram s_half s_signs s_stacked s_name s_shift s_statements s_ifs s_whiles s_variants s_open s_isMade s_conditions s_kept s_tops s_used s_looked s_rows s_firstRow s_isBroken s_atoms n q g H.size hn (by first | assumption | omega)) (xcV (n := 1) hts wd_1282 wd_15 wd_1279 wd_1281 ps_52 rfl rfl (by decide +kernel) ⟨Nat.le_of_ble_eq_true rfl, Nat.le_of_ble_eq_true rfl⟩) (xpV (ci := 11) (q0 := 0) (As := [.int (nI q)]) hPc hK hz hDc rfl rfl) rfl rfl hl1.1 rfl (lv_room (Nat.le_of_ble_eq_true rfl)) d_Model_next_13 ⟨Nat.le_of_ble_eq_true rfl, Nat.le_of_ble_eq_true rfl⟩) hS (fun q _ h => hFc q h) hFc (fun r_8 u_6 t H_7 locs ht hvm hw hB hz1 hk1 hS1 => ?_)
    try dsimp only at hw
    subst hw
    obtain ⟨hP1, hD1⟩ := hB
    rw [ht] at hP1
    have hjn := xw_join3 (wl := [(m0, .inr (11, [.int s_thrown, .int s_taped, .ref m1, .int (nI n), .int s_outSize, .ref m2, .int s_kind, .int (nI v0), .int (nI q), .int (nI en), .int s_failed, .ref m3, .ref m4, .ref m5, .int s_isProgram, .int s_half, .ref m6, .ref m7, .ref m8, .ref m9, .ref m10, .ref m11, .ref m12, .ref m13, .ref m14, .ref m15, .ref m16, .ref m17, .ref m18, .ref m19, .ref m20, .int s_signs, .ref m21, .int s_stacked, .ref m22, .int s_name, .int s_shift, .int s_statements, .int s_ifs, .int s_whiles, .int s_variants, .int s_open, .ref m23, .int s_isMade, .int s_conditions, .ref m24, .ref m25, .ref m26, .ref m27, .int s_kept, .ref m28, .int s_tops, .ref m29, .int s_used, .ref m30, .ref m31, .int s_looked, .int s_rows, .int s_firstRow, .ref m32, .ref m33, .ref m34, .ref m35, .ref m36, .ref m37, .ref m38, .ref m39, .ref m40, .int s_isBroken, .ref m41, .int s_atoms, .ref m42])), (m1, .inl (ax 0, 400, .inl (fun j => nI (g j))))]) hP hD [0, 1] [] hCs (by decide) (by decide) hk1 hFc hP1 hD1 rfl
    clear hP1 hD1
    clear hPc hDc hFc hCs hz hz1 hk1 ht hvm
    clear hP hD hS
    have hS := hS1
    obtain ⟨hP, hD⟩ := hjn
    clear hS1
    have hbq : bt g n q < 256 := bt_lt hg
    refine lv_bipush (v := 32) hx hb d_Model_next_16 (by decide) ?_
    refine lv_icmp_ne (tgt := 34) hx hb d_Model_next_18 (by decide) (fun c_9 => ?_) (fun c_9 => ?_)
    · replace c_9 : ¬ bt g n q = 32 := fun hq9 => c_9 ((nI_eq (a := bt g n q) (b := 32) (by first | exact Nat.lt_of_lt_of_le (by assumption) (by decide) | exact Nat.lt_of_le_of_lt (by assumption) (by decide) | omega) (by decide)).mpr hq9)
      have hB2 : q = nxB g n en := by rw [← hE]; exact (skB_stop (by assumption) _).symm
      have hgq := hg q
      have hgq1 : bt g n (q + 1) < 256 := bt_lt hg
      have hTF := tk_facts (g := g) (n := n) (en := en) (v0 := v0) hen hg hv0
      refine lv_aload_n hx hb d_Model_next_34 rfl (lv_at hl1 0 rfl) ?_
      refine lv_aload_n hx hb d_Model_next_35 rfl (lv_at hl1 0 rfl) ?_
      refine va_get (D := D) (ci := 11) (v := .int (nI q)) (C := R_Model) (T := F_Model) (N := 72) hx hb hts i_Model hown hK.1 hP 0 rfl rfl 8 (by decide) (hts _ wd_1044) (fun _ h9 => h9) rfl d_Model_next_36 ?_
      refine va_put (D := D) (ci := 11) (v := .int (nI q)) (ty := .int) (C := R_Model) (T := F_Model) (N := 72) hx hb hts i_Model t_Model t_Model_ok n_Model hown hK.1 hP hD hS 0 rfl rfl 9 (by decide) (hts _ wd_1045) (fun _ h9 => h9) rfl (by decide +kernel) rfl rfl (Nat.le_of_ble_eq_true rfl) d_Model_next_39 (fun H_10 locs hP1 hD1 hS1 => ?_)
      clear hP hD hS
      have hS := hS1
      have hW7 : (fun w9 : va_W => va_P D classes w9 H_10 ∧ va_D A w9) [(m0, .inr (11, [.int s_thrown, .int s_taped, .ref m1, .int (nI n), .int s_outSize, .ref m2, .int s_kind, .int (nI v0), .int (nI q), .int (nI q), .int s_failed, .ref m3, .ref m4, .ref m5, .int s_isProgram, .int s_half, .ref m6, .ref m7, .ref m8, .ref m9, .ref m10, .ref m11, .ref m12, .ref m13, .ref m14, .ref m15, .ref m16, .ref m17, .ref m18, .ref m19, .ref m20, .int s_signs, .ref m21, .int s_stacked, .ref m22, .int s_name, .int s_shift, .int s_statements, .int s_ifs, .int s_whiles, .int s_variants, .int s_open, .ref m23, .int s_isMade, .int s_conditions, .ref m24, .ref m25, .ref m26, .ref m27, .int s_kept, .ref m28, .int s_tops, .ref m29, .int s_used, .ref m30, .ref m31, .int s_looked, .int s_rows, .int s_firstRow, .ref m32, .ref m33, .ref m34, .ref m35, .ref m36, .ref m37, .ref m38, .ref m39, .ref m40, .int s_isBroken, .ref m41, .int s_atoms, .ref m42])), (m1, .inl (ax 0, 400, .inl (fun j => nI (g j))))] := ⟨hP1, hD1⟩
      obtain ⟨hP, hD⟩ := hW7
      clear hP1 hD1 hS1
      refine lv_aload_n hx hb d_Model_next_42 rfl (lv_at hl1 0 rfl) ?_
      refine va_get (D := D) (ci := 11) (v := .int (nI q)) (C := R_Model) (T := F_Model) (N := 72) hx hb hts i_Model hown hK.1 hP 0 rfl rfl 8 (by decide) (hts _ wd_1044) (fun _ h9 => h9) rfl d_Model_next_43 ?_
      refine lv_aload_n hx hb d_Model_next_46 rfl (lv_at hl1 0 rfl) ?_
      refine va_get (D := D) (ci := 11) (v := .int (nI n)) (C := R_Model) (T := F_Model) (N := 72) hx hb hts i_Model hown hK.1 hP 0 rfl rfl 3 (by decide) (hts _ wd_1039) (fun _ h9 => h9) rfl d_Model_next_47 ?_
      refine lv_icmp_lt (tgt := 67) hx hb d_Model_next_50 (by decide) (fun c_11 => ?_) (fun c_11 => ?_)
      · replace c_11 : q < n := (nI_ltI (a := q) (b := n) (by first | exact Nat.lt_of_lt_of_le (by assumption) (by decide) | exact Nat.lt_of_le_of_lt (by assumption) (by decide) | omega) (by first | exact Nat.lt_of_lt_of_le (by assumption) (by decide) | exact Nat.lt_of_le_of_lt (by assumption) (by decide) | omega)).mp c_11
        refine lv_aload_n hx hb d_Model_next_67 rfl (lv_at hl1 0 rfl) ?_
        refine va_get (D := D) (ci := 11) (v := .ref m1) (C := R_Model) (T := F_Model) (N := 72) hx hb hts i_Model hown hK.1 hP 0 rfl rfl 2 (by decide) (hts _ wd_1038) (fun _ h9 => h9) rfl d_Model_next_68 ?_
        refine lv_aload_n hx hb d_Model_next_71 rfl (lv_at hl1 0 rfl) ?_
        refine va_get (D := D) (ci := 11) (v := .int (nI q)) (C := R_Model) (T := F_Model) (N := 72) hx hb hts i_Model hown hK.1 hP 0 rfl rfl 8 (by decide) (hts _ wd_1044) (fun _ h9 => h9) rfl d_Model_next_72 ?_
        refine va_iald hx hb hK.1 hP 1 0 rfl rfl (vp_in_nI (by first | assumption | omega) (by decide)) d_Model_next_75 ?_
        refine W.eq (g2 := F0 m 76 ls [.int (nI (g q))]) (by rw [nI_clamp (by first | exact Nat.lt_of_lt_of_le (by assumption) (by decide) | exact Nat.lt_of_le_of_lt (by assumption) (by decide) | omega)]) ?_
        refine lv_istore_n (lv' := [(1, .int (nI (g q))), (0, .ref m0)]) hx hb d_Model_next_76 rfl hl1 (by decide) rfl (fun ls hl2 => ?_)
        clear hl1; have hl1 := hl2; clear hl2
        refine lv_iload_n hx hb d_Model_next_77 rfl (lv_at hl1 0 rfl) ?_
        obtain ⟨hPc, hDc, hFc, hCs⟩ := xw_sub3 (wc := []) hP hD hS hA [] (by decide) rfl
        have hz := xz_of hN hS
        refine va_calli (va_runS (As := [.int (nI (g q))]) (rest := []) ⟨hx, hb, hml, hown, hts⟩ (c_M_isLetter l D ax (g q) H_10.size (hg _)) (xcS (n := 1) hts wd_1285 wd_15 wd_1283 wd_1284 rfl rfl (by decide +kernel) ⟨Nat.le_of_ble_eq_true rfl, Nat.le_of_ble_eq_true rfl⟩) (xpS (As := [.int (nI (g q))]) hPc hK hz hDc) rfl rfl hl1.1 rfl (lv_room (Nat.le_of_ble_eq_true rfl)) d_Model_next_78 ⟨Nat.le_of_ble_eq_true rfl, Nat.le_of_ble_eq_true rfl⟩) hS (fun q _ h => hFc q h) hFc (fun r_14 u_12 t H_13 locs ht hvm hw hB hz1 hk1 hS1 => ?_)
        try dsimp only at hw
        subst hw
        obtain ⟨hP1, hD1⟩ := hB
        rw [ht] at hP1
        have hjn := xw_join3 (wl := [(m0, .inr (11, [.int s_thrown, .int s_taped, .ref m1, .int (nI n), .int s_outSize, .ref m2, .int s_kind, .int (nI v0), .int (nI q), .int (nI q), .int s_failed, .ref m3, .ref m4, .ref m5, .int s_isProgram, .int s_half, .ref m6, .ref m7, .ref m8, .ref m9, .ref m10, .ref m11, .ref m12, .ref m13, .ref m14, .ref m15, .ref m16, .ref m17, .ref m18, .ref m19, .ref m20, .int s_signs, .ref m21, .int s_stacked, .ref m22, .int s_name, .int s_shift, .int s_statements, .int s_ifs, .int s_whiles, .int s_variants, .int s_open, .ref m23, .int s_isMade, .int s_conditions, .ref m24, .ref m25, .ref m26, .ref m27, .int s_kept, .ref m28, .int s_tops, .ref m29, .int s_used, .ref m30, .ref m31, .int s_looked, .int s_rows, .int s_firstRow, .ref m32, .ref m33, .ref m34, .ref m35, .ref m36, .ref m37, .ref m38, .ref m39, .ref m40, .int s_isBroken, .ref m41, .int s_atoms, .ref m42])), (m1, .inl (ax 0, 400, .inl (fun j => nI (g j))))]) hP hD [] [0, 1] hCs (by decide) (by decide) hk1 hFc hP1 hD1 rfl
        clear hP1 hD1
        clear hPc hDc hFc hCs hz hz1 hk1 ht hvm
        clear hP hD hS
        have hS := hS1
        obtain ⟨hP, hD⟩ := hjn
        clear hS1
        refine lv_if_eq (tgt := 91) hx hb d_Model_next_81 (by decide) (fun c_15 => ?_) (fun c_15 => ?_)
        · replace c_15 : ¬ (97 ≤ (g q) ∧ (g q) ≤ 122) := zb_n c_15
          refine lv_iload_n hx hb d_Model_next_91 rfl (lv_at hl1 0 rfl) ?_
          obtain ⟨hPc, hDc, hFc, hCs⟩ := xw_sub3 (wc := []) hP hD hS hA [] (by decide) rfl
          have hz := xz_of hN hS
          refine va_calli (va_runS (As := [.int (nI (g q))]) (rest := []) ⟨hx, hb, hml, hown, hts⟩ (c_M_isDigit l D ax (g q) H_13.size (hg _)) (xcS (n := 1) hts wd_1300 wd_15 wd_1298 wd_1299 rfl rfl (by decide +kernel) ⟨Nat.le_of_ble_eq_true rfl, Nat.le_of_ble_eq_true rfl⟩) (xpS (As := [.int (nI (g q))]) hPc hK hz hDc) rfl rfl hl1.1 rfl (lv_room (Nat.le_of_ble_eq_true rfl)) d_Model_next_92 ⟨Nat.le_of_ble_eq_true rfl, Nat.le_of_ble_eq_true rfl⟩) hS (fun q _ h => hFc q h) hFc (fun r_18 u_16 t H_17 locs ht hvm hw hB hz1 hk1 hS1 => ?_)
          try dsimp only at hw
          subst hw
          obtain ⟨hP1, hD1⟩ := hB
          rw [ht] at hP1
          have hjn := xw_join3 (wl := [(m0, .inr (11, [.int s_thrown, .int s_taped, .ref m1, .int (nI n), .int s_outSize, .ref m2, .int s_kind, .int (nI v0), .int (nI q), .int (nI q), .int s_failed, .ref m3, .ref m4, .ref m5, .int s_isProgram, .int s_half, .ref m6, .ref m7, .ref m8, .ref m9, .ref m10, .ref m11, .ref m12, .ref m13, .ref m14, .ref m15, .ref m16, .ref m17, .ref m18, .ref m19, .ref m20, .int s_signs, .ref m21, .int s_stacked, .ref m22, .int s_name, .int s_shift, .int s_statements, .int s_ifs, .int s_whiles, .int s_variants, .int s_open, .ref m23, .int s_isMade, .int s_conditions, .ref m24, .ref m25, .ref m26, .ref m27, .int s_kept, .ref m28, .int s_tops, .ref m29, .int s_used, .ref m30, .ref m31, .int s_looked, .int s_rows, .int s_firstRow, .ref m32, .ref m33, .ref m34, .ref m35, .ref m36, .ref m37, .ref m38, .ref m39, .ref m40, .int s_isBroken, .ref m41, .int s_atoms, .ref m42])), (m1, .inl (ax 0, 400, .inl (fun j => nI (g j))))]) hP hD [] [0, 1] hCs (by decide) (by decide) hk1 hFc hP1 hD1 rfl
          clear hP1 hD1
          clear hPc hDc hFc hCs hz hz1 hk1 ht hvm
          clear hP hD hS
          have hS := hS1
          obtain ⟨hP, hD⟩ := hjn
          clear hS1
          refine lv_if_eq (tgt := 105) hx hb d_Model_next_95 (by decide) (fun c_19 => ?_) (fun c_19 => ?_)
          · replace c_19 : ¬ (48 ≤ (g q) ∧ (g q) ≤ 57) := zb_n c_19
            refine lv_iload_n hx hb d_Model_next_105 rfl (lv_at hl1 0 rfl) ?_
            refine lv_bipush (v := 58) hx hb d_Model_next_106 (by decide) ?_
            refine lv_icmp_eq (tgt := 123) hx hb d_Model_next_108 (by decide) (fun c_20 => ?_) (fun c_20 => ?_)
            · replace c_20 : g q = 58 := (nI_eq (a := g q) (b := 58) (by first | exact Nat.lt_of_lt_of_le (by assumption) (by decide) | exact Nat.lt_of_le_of_lt (by assumption) (by decide) | omega) (by decide)).mp c_20
              refine lv_aload_n hx hb d_Model_next_123 rfl (lv_at hl1 1 rfl) ?_
              refine lv_aload_n hx hb d_Model_next_124 rfl (lv_at hl1 1 rfl) ?_
              refine va_get (D := D) (ci := 11) (v := .int (nI q)) (C := R_Model) (T := F_Model) (N := 72) hx hb hts i_Model hown hK.1 hP 0 rfl rfl 8 (by decide) (hts _ wd_1044) (fun _ h9 => h9) rfl d_Model_next_125 ?_
              refine lv_iconst (v := 1) hx hb d_Model_next_128 (by decide) ?_
              refine lv_iadd hx hb d_Model_next_129 ?_
              refine lv_topi (fun z_21 ez_21 => ?_)
              have ez_21 : z_21 = nI (q + 1) := ez_21.trans (nI_add q 1)
              subst ez_21
              obtain ⟨hPc, hDc, hFc, hCs⟩ := xw_sub3 (wc := [(m0, .inr (11, [.int s_thrown, .int s_taped, .ref m1, .int (nI n), .int s_outSize, .ref m2, .int s_kind, .int (nI v0), .int (nI q), .int (nI q), .int s_failed, .ref m3, .ref m4, .ref m5, .int s_isProgram, .int s_half, .ref m6, .ref m7, .ref m8, .ref m9, .ref m10, .ref m11, .ref m12, .ref m13, .ref m14, .ref m15, .ref m16, .ref m17, .ref m18, .ref m19, .ref m20, .int s_signs, .ref m21, .int s_stacked, .ref m22, .int s_name, .int s_shift, .int s_statements, .int s_ifs, .int s_whiles, .int s_variants, .int s_open, .ref m23, .int s_isMade, .int s_conditions, .ref m24, .ref m25, .ref m26, .ref m27, .int s_kept, .ref m28, .int s_tops, .ref m29, .int s_used, .ref m30, .ref m31, .int s_looked, .int s_rows, .int s_firstRow, .ref m32, .ref m33, .ref m34, .ref m35, .ref m36, .ref m37, .ref m38, .ref m39, .ref m40, .int s_isBroken, .ref m41, .int s_atoms, .ref m42])), (m1, .inl (ax 0, 400, .inl (fun j => nI (g j))))]) hP hD hS hA [0, 1] (by decide) rfl
              have hz := xz_of hN hS
              refine va_calli (va_runV (As := [.int (nI (q + 1))]) (rest := []) ⟨hx, hb, hml, hown, hts⟩ (c_M_byteAt l D ax m0 m1 m2 m3 m4 m5 m6 m7 m8 m9 m10 m11 m12 m13 m14 m15 m16 m17 m18 m19 m20 m21 m22 m23 m24 m25 m26 m27 m28 m29 m30 m31 m32 m33 m34 m35 m36 m37 m38 m39 m40 m41 m42 s_thrown s_taped s_outSize s_kind (nI v0) (nI q) (nI q) s_failed s_isProgram s_half s_signs s_stacked s_name s_shift s_statements s_ifs s_whiles s_variants s_open s_isMade s_conditions s_kept s_tops s_used s_looked s_rows s_firstRow s_isBroken s_atoms n (q + 1) g H_17.size hn (by first | assumption | omega)) (xcV (n := 1) hts wd_1282 wd_15 wd_1279 wd_1281 ps_52 rfl rfl (by decide +kernel) ⟨Nat.le_of_ble_eq_true rfl, Nat.le_of_ble_eq_true rfl⟩) (xpV (ci := 11) (q0 := 0) (As := [.int (nI (q + 1))]) hPc hK hz hDc rfl rfl) rfl rfl hl1.1 rfl (lv_room (Nat.le_of_ble_eq_true rfl)) d_Model_next_130 ⟨Nat.le_of_ble_eq_true rfl, Nat.le_of_ble_eq_true rfl⟩) hS (fun q _ h => hFc q h) hFc (fun r_24 u_22 t H_23 locs ht hvm hw hB hz1 hk1 hS1 => ?_)
              try dsimp only at hw
              subst hw
              obtain ⟨hP1, hD1⟩ := hB
              rw [ht] at hP1
              have hjn := xw_join3 (wl := [(m0, .inr (11, [.int s_thrown, .int s_taped, .ref m1, .int (nI n), .int s_outSize, .ref m2, .int s_kind, .int (nI v0), .int (nI q), .int (nI q), .int s_failed, .ref m3, .ref m4, .ref m5, .int s_isProgram, .int s_half, .ref m6, .ref m7, .ref m8, .ref m9, .ref m10, .ref m11, .ref m12, .ref m13, .ref m14, .ref m15, .ref m16, .ref m17, .ref m18, .ref m19, .ref m20, .int s_signs, .ref m21, .int s_stacked, .ref m22, .int s_name, .int s_shift, .int s_statements, .int s_ifs, .int s_whiles, .int s_variants, .int s_open, .ref m23, .int s_isMade, .int s_conditions, .ref m24, .ref m25, .ref m26, .ref m27, .int s_kept, .ref m28, .int s_tops, .ref m29, .int s_used, .ref m30, .ref m31, .int s_looked, .int s_rows, .int s_firstRow, .ref m32, .ref m33, .ref m34, .ref m35, .ref m36, .ref m37, .ref m38, .ref m39, .ref m40, .int s_isBroken, .ref m41, .int s_atoms, .ref m42])), (m1, .inl (ax 0, 400, .inl (fun j => nI (g j))))]) hP hD [0, 1] [] hCs (by decide) (by decide) hk1 hFc hP1 hD1 rfl
              clear hP1 hD1
              clear hPc hDc hFc hCs hz hz1 hk1 ht hvm
              clear hP hD hS
              have hS := hS1
              obtain ⟨hP, hD⟩ := hjn
              clear hS1
              refine lv_bipush (v := 61) hx hb d_Model_next_133 (by decide) ?_
              refine lv_icmp_ne (tgt := 142) hx hb d_Model_next_135 (by decide) (fun c_25 => ?_) (fun c_25 => ?_)
              · replace c_25 : ¬ bt g n (q + 1) = 61 := fun hq9 => c_25 ((nI_eq (a := bt g n (q + 1)) (b := 61) (by first | exact Nat.lt_of_lt_of_le (by assumption) (by decide) | exact Nat.lt_of_le_of_lt (by assumption) (by decide) | omega) (by decide)).mpr hq9)
                refine lv_iconst (v := 0) hx hb d_Model_next_142 (by decide) ?_
                refine lv_istore_n (lv' := [(2, .int 0), (1, .int (nI (g q))), (0, .ref m0)]) hx hb d_Model_next_143 rfl hl1 (by decide) rfl (fun ls hl2 => ?_)
                clear hl1; have hl1 := hl2; clear hl2
                refine lv_aload_n hx hb d_Model_next_144 rfl (lv_at hl1 2 rfl) ?_
                refine lv_iload_n hx hb d_Model_next_145 rfl (lv_at hl1 0 rfl) ?_
                refine lv_if_eq (tgt := 158) hx hb d_Model_next_146 (by decide) (fun c_26 => ?_) (fun c_26 => ?_)
                rotate_left
                · first | exact absurd c_26 (by decide) | exact absurd (by decide) c_26
                refine lv_aload_n hx hb d_Model_next_158 rfl (lv_at hl1 2 rfl) ?_
                refine va_get (D := D) (ci := 11) (v := .int (nI q)) (C := R_Model) (T := F_Model) (N := 72) hx hb hts i_Model hown hK.1 hP 0 rfl rfl 8 (by decide) (hts _ wd_1044) (fun _ h9 => h9) rfl d_Model_next_159 ?_
                refine lv_iconst (v := 1) hx hb d_Model_next_162 (by decide) ?_
                refine lv_iadd hx hb d_Model_next_163 ?_
                refine lv_topi (fun z_27 ez_27 => ?_)
                have ez_27 : z_27 = nI (q + 1) := ez_27.trans (nI_add q 1)
                subst ez_27
                refine va_put (D := D) (ci := 11) (v := .int (nI (q + 1))) (ty := .int) (C := R_Model) (T := F_Model) (N := 72) hx hb hts i_Model t_Model t_Model_ok n_Model hown hK.1 hP hD hS 0 rfl rfl 9 (by decide) (hts _ wd_1045) (fun _ h9 => h9) rfl (by decide +kernel) rfl rfl (Nat.le_of_ble_eq_true rfl) d_Model_next_164 (fun H_28 locs hP1 hD1 hS1 => ?_)
                clear hP hD hS
                have hS := hS1
                have hW7 : (fun w9 : va_W => va_P D classes w9 H_28 ∧ va_D A w9) [(m0, .inr (11, [.int s_thrown, .int s_taped, .ref m1, .int (nI n), .int s_outSize, .ref m2, .int s_kind, .int (nI v0), .int (nI q), .int (nI (q + 1)), .int s_failed, .ref m3, .ref m4, .ref m5, .int s_isProgram, .int s_half, .ref m6, .ref m7, .ref m8, .ref m9, .ref m10, .ref m11, .ref m12, .ref m13, .ref m14, .ref m15, .ref m16, .ref m17, .ref m18, .ref m19, .ref m20, .int s_signs, .ref m21, .int s_stacked, .ref m22, .int s_name, .int s_shift, .int s_statements, .int s_ifs, .int s_whiles, .int s_variants, .int s_open, .ref m23, .int s_isMade, .int s_conditions, .ref m24, .ref m25, .ref m26, .ref m27, .int s_kept, .ref m28, .int s_tops, .ref m29, .int s_used, .ref m30, .ref m31, .int s_looked, .int s_rows, .int s_firstRow, .ref m32, .ref m33, .ref m34, .ref m35, .ref m36, .ref m37, .ref m38, .ref m39, .ref m40, .int s_isBroken, .ref m41, .int s_atoms, .ref m42])), (m1, .inl (ax 0, 400, .inl (fun j => nI (g j))))] := ⟨hP1, hD1⟩
                obtain ⟨hP, hD⟩ := hW7
                clear hP1 hD1 hS1
                refine lv_aload_n hx hb d_Model_next_167 rfl (lv_at hl1 2 rfl) ?_
                refine lv_iload_n hx hb d_Model_next_168 rfl (lv_at hl1 0 rfl) ?_
                refine lv_if_eq (tgt := 180) hx hb d_Model_next_169 (by decide) (fun c_29 => ?_) (fun c_29 => ?_)
                rotate_left
                · first | exact absurd c_29 (by decide) | exact absurd (by decide) c_29
                refine lv_iload_n hx hb d_Model_next_180 rfl (lv_at hl1 1 rfl) ?_
                obtain ⟨hPc, hDc, hFc, hCs⟩ := xw_sub3 (wc := []) hP hD hS hA [] (by decide) rfl
                have hz := xz_of hN hS
                refine va_calli (va_runS (As := [.int (nI (g q))]) (rest := [.ref m0]) ⟨hx, hb, hml, hown, hts⟩ (c_M_isSign l D ax (g q) H_28.size (hg _)) (xcS (n := 1) hts wd_1307 wd_15 wd_1305 wd_1306 rfl rfl (by decide +kernel) ⟨Nat.le_of_ble_eq_true rfl, Nat.le_of_ble_eq_true rfl⟩) (xpS (As := [.int (nI (g q))]) hPc hK hz hDc) rfl rfl hl1.1 rfl (lv_room (Nat.le_of_ble_eq_true rfl)) d_Model_next_181 ⟨Nat.le_of_ble_eq_true rfl, Nat.le_of_ble_eq_true rfl⟩) hS (fun q _ h => hFc q h) hFc (fun r_32 u_30 t H_31 locs ht hvm hw hB hz1 hk1 hS1 => ?_)
                try dsimp only at hw
                subst hw
                obtain ⟨hP1, hD1⟩ := hB
                rw [ht] at hP1
                have hjn := xw_join3 (wl := [(m0, .inr (11, [.int s_thrown, .int s_taped, .ref m1, .int (nI n), .int s_outSize, .ref m2, .int s_kind, .int (nI v0), .int (nI q), .int (nI (q + 1)), .int s_failed, .ref m3, .ref m4, .ref m5, .int s_isProgram, .int s_half, .ref m6, .ref m7, .ref m8, .ref m9, .ref m10, .ref m11, .ref m12, .ref m13, .ref m14, .ref m15, .ref m16, .ref m17, .ref m18, .ref m19, .ref m20, .int s_signs, .ref m21, .int s_stacked, .ref m22, .int s_name, .int s_shift, .int s_statements, .int s_ifs, .int s_whiles, .int s_variants, .int s_open, .ref m23, .int s_isMade, .int s_conditions, .ref m24, .ref m25, .ref m26, .ref m27, .int s_kept, .ref m28, .int s_tops, .ref m29, .int s_used, .ref m30, .ref m31, .int s_looked, .int s_rows, .int s_firstRow, .ref m32, .ref m33, .ref m34, .ref m35, .ref m36, .ref m37, .ref m38, .ref m39, .ref m40, .int s_isBroken, .ref m41, .int s_atoms, .ref m42])), (m1, .inl (ax 0, 400, .inl (fun j => nI (g j))))]) hP hD [] [0, 1] hCs (by decide) (by decide) hk1 hFc hP1 hD1 rfl
                clear hP1 hD1
                clear hPc hDc hFc hCs hz hz1 hk1 ht hvm
                clear hP hD hS
                have hS := hS1
                obtain ⟨hP, hD⟩ := hjn
                clear hS1
                refine lv_if_eq (tgt := 195) hx hb d_Model_next_184 (by decide) (fun c_33 => ?_) (fun c_33 => ?_)
                · replace c_33 : ¬ ((g q) = 60 ∨ (g q) = 62 ∨ (g q) = 61 ∨ (g q) = 35 ∨ (g q) = 38 ∨ (g q) = 124 ∨ (g q) = 33 ∨ (g q) = 40 ∨ (g q) = 41 ∨ (g q) = 123 ∨ (g q) = 125 ∨ (g q) = 59 ∨ (g q) = 43 ∨ (g q) = 45) := zb_n c_33
                  refine lv_iconst (v := 1) hx hb d_Model_next_195 (by decide) ?_
                  refine va_put (D := D) (ci := 11) (v := .int 1) (ty := .int) (C := R_Model) (T := F_Model) (N := 72) hx hb hts i_Model t_Model t_Model_ok n_Model hown hK.1 hP hD hS 0 rfl rfl 6 (by decide) (hts _ wd_1042) (fun _ h9 => h9) rfl (by decide +kernel) rfl rfl (Nat.le_of_ble_eq_true rfl) d_Model_next_196 (fun H_34 locs hP1 hD1 hS1 => ?_)
                  clear hP hD hS
                  have hS := hS1
                  have hW7 : (fun w9 : va_W => va_P D classes w9 H_34 ∧ va_D A w9) [(m0, .inr (11, [.int s_thrown, .int s_taped, .ref m1, .int (nI n), .int s_outSize, .ref m2, .int 1, .int (nI v0), .int (nI q), .int (nI (q + 1)), .int s_failed, .ref m3, .ref m4, .ref m5, .int s_isProgram, .int s_half, .ref m6, .ref m7, .ref m8, .ref m9, .ref m10, .ref m11, .ref m12, .ref m13, .ref m14, .ref m15, .ref m16, .ref m17, .ref m18, .ref m19, .ref m20, .int s_signs, .ref m21, .int s_stacked, .ref m22, .int s_name, .int s_shift, .int s_statements, .int s_ifs, .int s_whiles, .int s_variants, .int s_open, .ref m23, .int s_isMade, .int s_conditions, .ref m24, .ref m25, .ref m26, .ref m27, .int s_kept, .ref m28, .int s_tops, .ref m29, .int s_used, .ref m30, .ref m31, .int s_looked, .int s_rows, .int s_firstRow, .ref m32, .ref m33, .ref m34, .ref m35, .ref m36, .ref m37, .ref m38, .ref m39, .ref m40, .int s_isBroken, .ref m41, .int s_atoms, .ref m42])), (m1, .inl (ax 0, 400, .inl (fun j => nI (g j))))] := ⟨hP1, hD1⟩
                  obtain ⟨hP, hD⟩ := hW7
                  clear hP1 hD1 hS1
                  rw [← hQe]
                  obtain ⟨hP9, hD9⟩ := xw_sub2 (wc := (fun u : Nat → Nat => [(m0, .inr (11, [.int s_thrown, .int s_taped, .ref m1, .int (nI n), .int s_outSize, .ref m2, .int (nI (u 2)), .int (nI (u 3)), .int (nI (u 0)), .int (nI (u 1)), .int s_failed, .ref m3, .ref m4, .ref m5, .int s_isProgram, .int s_half, .ref m6, .ref m7, .ref m8, .ref m9, .ref m10, .ref m11, .ref m12, .ref m13, .ref m14, .ref m15, .ref m16, .ref m17, .ref m18, .ref m19, .ref m20, .int s_signs, .ref m21, .int s_stacked, .ref m22, .int s_name, .int s_shift, .int s_statements, .int s_ifs, .int s_whiles, .int s_variants, .int s_open, .ref m23, .int s_isMade, .int s_conditions, .ref m24, .ref m25, .ref m26, .ref m27, .int s_kept, .ref m28, .int s_tops, .ref m29, .int s_used, .ref m30, .ref m31, .int s_looked, .int s_rows, .int s_firstRow, .ref m32, .ref m33, .ref m34, .ref m35, .ref m36, .ref m37, .ref m38, .ref m39, .ref m40, .int s_isBroken, .ref m41, .int s_atoms, .ref m42])), (m1, .inl (ax 0, 400, .inl (fun j => nI (g j))))]) (ixn [q, (q + 1), 1, v0])) hP hD [0, 1] (by decide) rfl
                  have hsp0 : (q + 1) = tkE g n (nxB g n en) := (by rw [← hB2]; unfold tkE; (repeat' split); all_goals (first | rfl | assumption | (exfalso; omega) | omega))
                  have hsp1 : 1 = tkK g n (nxB g n en) := (by first | (rw [← hB2]; unfold tkK; rw [if_neg (by first | assumption | omega), if_neg (by first | assumption | omega), if_pos (by first | assumption | omega)]; assumption) | rw [← hB2]; unfold tkK; (repeat' split); all_goals (first | rfl | assumption | (exfalso; omega) | omega))
                  have hsp2 : v0 = tkV g n (nxB g n en) v0 := (by rw [← hB2]; unfold tkV; (repeat' split); all_goals (first | rfl | assumption | (exfalso; omega) | omega))
                  have hsp3 : q = nxB g n en := (by first | assumption | omega)
                  have hsp4 : en ≤ q := (by first | assumption | omega)
                  have hsp5 : q ≤ (q + 1) := (by first | assumption | omega)
                  have hsp6 : (q + 1) ≤ n := (by first | assumption | omega)
                  have hsp7 : tk0 (1) (q) ((q + 1)) := (by unfold tk0; omega)
                  have hsp8 : 1 < 10000 := (by first | assumption | omega)
                  have hsp9 : v0 < 20000 := (by first | assumption | omega)
                  have hsp10 : tkq g n (q) ((q + 1)) (1) (v0) := (tkq_of hsp0 hsp1 hsp2 hsp3 (by first | assumption | omega))
                  exact W.vret hx hb hr (fun t ht hW => ⟨⟨ixn [q, (q + 1), 1, v0], rfl, ⟨hsp0, hsp1, hsp2, hsp3, hsp4, hsp5, hsp6, hsp7, hsp8, hsp9, hsp10⟩, ⟨by rw [ht]; exact hP9, hD9⟩⟩, hS.F ht⟩) hS.2.2 d_Model_next_199
                · replace c_33 : ((g q) = 60 ∨ (g q) = 62 ∨ (g q) = 61 ∨ (g q) = 35 ∨ (g q) = 38 ∨ (g q) = 124 ∨ (g q) = 33 ∨ (g q) = 40 ∨ (g q) = 41 ∨ (g q) = 123 ∨ (g q) = 125 ∨ (g q) = 59 ∨ (g q) = 43 ∨ (g q) = 45) := zb_y c_33
                  refine lv_sipush (v := 200) hx hb d_Model_next_187 (by decide) ?_
                  refine lv_iload_n hx hb d_Model_next_190 rfl (lv_at hl1 1 rfl) ?_
                  refine lv_iadd hx hb d_Model_next_191 ?_
                  refine lv_topi (fun z_35 ez_35 => ?_)
                  have ez_35 : z_35 = nI (200 + g q) := ez_35.trans (nI_add 200 (g q))
                  subst ez_35
                  refine lv_goto (tgt := 196) hx hb d_Model_next_192 (by decide) ?_
                  refine va_put (D := D) (ci := 11) (v := .int (nI (200 + g q))) (ty := .int) (C := R_Model) (T := F_Model) (N := 72) hx hb hts i_Model t_Model t_Model_ok n_Model hown hK.1 hP hD hS 0 rfl rfl 6 (by decide) (hts _ wd_1042) (fun _ h9 => h9) rfl (by decide +kernel) rfl rfl (Nat.le_of_ble_eq_true rfl) d_Model_next_196 (fun H_36 locs hP1 hD1 hS1 => ?_)
                  clear hP hD hS
                  have hS := hS1
                  have hW7 : (fun w9 : va_W => va_P D classes w9 H_36 ∧ va_D A w9) [(m0, .inr (11, [.int s_thrown, .int s_taped, .ref m1, .int (nI n), .int s_outSize, .ref m2, .int (nI (200 + g q)), .int (nI v0), .int (nI q), .int (nI (q + 1)), .int s_failed, .ref m3, .ref m4, .ref m5, .int s_isProgram, .int s_half, .ref m6, .ref m7, .ref m8, .ref m9, .ref m10, .ref m11, .ref m12, .ref m13, .ref m14, .ref m15, .ref m16, .ref m17, .ref m18, .ref m19, .ref m20, .int s_signs, .ref m21, .int s_stacked, .ref m22, .int s_name, .int s_shift, .int s_statements, .int s_ifs, .int s_whiles, .int s_variants, .int s_open, .ref m23, .int s_isMade, .int s_conditions, .ref m24, .ref m25, .ref m26, .ref m27, .int s_kept, .ref m28, .int s_tops, .ref m29, .int s_used, .ref m30, .ref m31, .int s_looked, .int s_rows, .int s_firstRow, .ref m32, .ref m33, .ref m34, .ref m35, .ref m36, .ref m37, .ref m38, .ref m39, .ref m40, .int s_isBroken, .ref m41, .int s_atoms, .ref m42])), (m1, .inl (ax 0, 400, .inl (fun j => nI (g j))))] := ⟨hP1, hD1⟩
                  obtain ⟨hP, hD⟩ := hW7
                  clear hP1 hD1 hS1
                  rw [← hQe]
                  obtain ⟨hP9, hD9⟩ := xw_sub2 (wc := (fun u : Nat → Nat => [(m0, .inr (11, [.int s_thrown, .int s_taped, .ref m1, .int (nI n), .int s_outSize, .ref m2, .int (nI (u 2)), .int (nI (u 3)), .int (nI (u 0)), .int (nI (u 1)), .int s_failed, .ref m3, .ref m4, .ref m5, .int s_isProgram, .int s_half, .ref m6, .ref m7, .ref m8, .ref m9, .ref m10, .ref m11, .ref m12, .ref m13, .ref m14, .ref m15, .ref m16, .ref m17, .ref m18, .ref m19, .ref m20, .int s_signs, .ref m21, .int s_stacked, .ref m22, .int s_name, .int s_shift, .int s_statements, .int s_ifs, .int s_whiles, .int s_variants, .int s_open, .ref m23, .int s_isMade, .int s_conditions, .ref m24, .ref m25, .ref m26, .ref m27, .int s_kept, .ref m28, .int s_tops, .ref m29, .int s_used, .ref m30, .ref m31, .int s_looked, .int s_rows, .int s_firstRow, .ref m32, .ref m33, .ref m34, .ref m35, .ref m36, .ref m37, .ref m38, .ref m39, .ref m40, .int s_isBroken, .ref m41, .int s_atoms, .ref m42])), (m1, .inl (ax 0, 400, .inl (fun j => nI (g j))))]) (ixn [q, (q + 1), (200 + g q), v0])) hP hD [0, 1] (by decide) rfl
                  have hsp0 : (q + 1) = tkE g n (nxB g n en) := (by rw [← hB2]; unfold tkE; (repeat' split); all_goals (first | rfl | assumption | (exfalso; omega) | omega))
                  have hsp1 : (200 + g q) = tkK g n (nxB g n en) := (by first | (rw [← hB2]; unfold tkK; rw [if_neg (by first | assumption | omega), if_neg (by first | assumption | omega), if_pos (by first | assumption | omega)]; assumption) | rw [← hB2]; unfold tkK; (repeat' split); all_goals (first | rfl | assumption | (exfalso; omega) | omega))
                  have hsp2 : v0 = tkV g n (nxB g n en) v0 := (by rw [← hB2]; unfold tkV; (repeat' split); all_goals (first | rfl | assumption | (exfalso; omega) | omega))
                  have hsp3 : q = nxB g n en := (by first | assumption | omega)
                  have hsp4 : en ≤ q := (by first | assumption | omega)
                  have hsp5 : q ≤ (q + 1) := (by first | assumption | omega)
                  have hsp6 : (q + 1) ≤ n := (by first | assumption | omega)
                  have hsp7 : tk0 ((200 + g q)) (q) ((q + 1)) := (by unfold tk0; omega)
                  have hsp8 : (200 + g q) < 10000 := (by first | assumption | omega)
                  have hsp9 : v0 < 20000 := (by first | assumption | omega)
                  have hsp10 : tkq g n (q) ((q + 1)) ((200 + g q)) (v0) := (tkq_of hsp0 hsp1 hsp2 hsp3 (by first | assumption | omega))
                  exact W.vret hx hb hr (fun t ht hW => ⟨⟨ixn [q, (q + 1), (200 + g q), v0], rfl, ⟨hsp0, hsp1, hsp2, hsp3, hsp4, hsp5, hsp6, hsp7, hsp8, hsp9, hsp10⟩, ⟨by rw [ht]; exact hP9, hD9⟩⟩, hS.F ht⟩) hS.2.2 d_Model_next_199
              · replace c_25 : bt g n (q + 1) = 61 := (nI_eq (a := bt g n (q + 1)) (b := 61) (by first | exact Nat.lt_of_lt_of_le (by assumption) (by decide) | exact Nat.lt_of_le_of_lt (by assumption) (by decide) | omega) (by decide)).mp c_25
                refine lv_iconst (v := 1) hx hb d_Model_next_138 (by decide) ?_
                refine lv_goto (tgt := 143) hx hb d_Model_next_139 (by decide) ?_
                refine lv_istore_n (lv' := [(2, .int 1), (1, .int (nI (g q))), (0, .ref m0)]) hx hb d_Model_next_143 rfl hl1 (by decide) rfl (fun ls hl2 => ?_)
                clear hl1; have hl1 := hl2; clear hl2
                refine lv_aload_n hx hb d_Model_next_144 rfl (lv_at hl1 2 rfl) ?_
                refine lv_iload_n hx hb d_Model_next_145 rfl (lv_at hl1 0 rfl) ?_
                refine lv_if_eq (tgt := 158) hx hb d_Model_next_146 (by decide) (fun c_37 => ?_) (fun c_37 => ?_)
                · first | exact absurd c_37 (by decide) | exact absurd (by decide) c_37
                refine lv_aload_n hx hb d_Model_next_149 rfl (lv_at hl1 2 rfl) ?_
                refine va_get (D := D) (ci := 11) (v := .int (nI q)) (C := R_Model) (T := F_Model) (N := 72) hx hb hts i_Model hown hK.1 hP 0 rfl rfl 8 (by decide) (hts _ wd_1044) (fun _ h9 => h9) rfl d_Model_next_150 ?_
                refine lv_iconst (v := 2) hx hb d_Model_next_153 (by decide) ?_
                refine lv_iadd hx hb d_Model_next_154 ?_
                refine lv_topi (fun z_38 ez_38 => ?_)
                have ez_38 : z_38 = nI (q + 2) := ez_38.trans (nI_add q 2)
                subst ez_38
                refine lv_goto (tgt := 164) hx hb d_Model_next_155 (by decide) ?_
                refine va_put (D := D) (ci := 11) (v := .int (nI (q + 2))) (ty := .int) (C := R_Model) (T := F_Model) (N := 72) hx hb hts i_Model t_Model t_Model_ok n_Model hown hK.1 hP hD hS 0 rfl rfl 9 (by decide) (hts _ wd_1045) (fun _ h9 => h9) rfl (by decide +kernel) rfl rfl (Nat.le_of_ble_eq_true rfl) d_Model_next_164 (fun H_39 locs hP1 hD1 hS1 => ?_)
                clear hP hD hS
                have hS := hS1
                have hW7 : (fun w9 : va_W => va_P D classes w9 H_39 ∧ va_D A w9) [(m0, .inr (11, [.int s_thrown, .int s_taped, .ref m1, .int (nI n), .int s_outSize, .ref m2, .int s_kind, .int (nI v0), .int (nI q), .int (nI (q + 2)), .int s_failed, .ref m3, .ref m4, .ref m5, .int s_isProgram, .int s_half, .ref m6, .ref m7, .ref m8, .ref m9, .ref m10, .ref m11, .ref m12, .ref m13, .ref m14, .ref m15, .ref m16, .ref m17, .ref m18, .ref m19, .ref m20, .int s_signs, .ref m21, .int s_stacked, .ref m22, .int s_name, .int s_shift, .int s_statements, .int s_ifs, .int s_whiles, .int s_variants, .int s_open, .ref m23, .int s_isMade, .int s_conditions, .ref m24, .ref m25, .ref m26, .ref m27, .int s_kept, .ref m28, .int s_tops, .ref m29, .int s_used, .ref m30, .ref m31, .int s_looked, .int s_rows, .int s_firstRow, .ref m32, .ref m33, .ref m34, .ref m35, .ref m36, .ref m37, .ref m38, .ref m39, .ref m40, .int s_isBroken, .ref m41, .int s_atoms, .ref m42])), (m1, .inl (ax 0, 400, .inl (fun j => nI (g j))))] := ⟨hP1, hD1⟩
                obtain ⟨hP, hD⟩ := hW7
                clear hP1 hD1 hS1
                refine lv_aload_n hx hb d_Model_next_167 rfl (lv_at hl1 2 rfl) ?_
                refine lv_iload_n hx hb d_Model_next_168 rfl (lv_at hl1 0 rfl) ?_
                refine lv_if_eq (tgt := 180) hx hb d_Model_next_169 (by decide) (fun c_40 => ?_) (fun c_40 => ?_)
                · first | exact absurd c_40 (by decide) | exact absurd (by decide) c_40
                refine lv_sipush (v := 700) hx hb d_Model_next_172 (by decide) ?_
                refine lv_iload_n hx hb d_Model_next_175 rfl (lv_at hl1 1 rfl) ?_
                refine lv_iadd hx hb d_Model_next_176 ?_
                refine lv_topi (fun z_41 ez_41 => ?_)
                have ez_41 : z_41 = nI (700 + g q) := ez_41.trans (nI_add 700 (g q))
                subst ez_41
                refine lv_goto (tgt := 196) hx hb d_Model_next_177 (by decide) ?_
                refine va_put (D := D) (ci := 11) (v := .int (nI (700 + g q))) (ty := .int) (C := R_Model) (T := F_Model) (N := 72) hx hb hts i_Model t_Model t_Model_ok n_Model hown hK.1 hP hD hS 0 rfl rfl 6 (by decide) (hts _ wd_1042) (fun _ h9 => h9) rfl (by decide +kernel) rfl rfl (Nat.le_of_ble_eq_true rfl) d_Model_next_196 (fun H_42 locs hP1 hD1 hS1 => ?_)
                clear hP hD hS
                have hS := hS1
                have hW7 : (fun w9 : va_W => va_P D classes w9 H_42 ∧ va_D A w9) [(m0, .inr (11, [.int s_thrown, .int s_taped, .ref m1, .int (nI n), .int s_outSize, .ref m2, .int (nI (700 + g q)), .int (nI v0), .int (nI q), .int (nI (q + 2)), .int s_failed, .ref m3, .ref m4, .ref m5, .int s_isProgram, .int s_half, .ref m6, .ref m7, .ref m8, .ref m9, .ref m10, .ref m11, .ref m12, .ref m13, .ref m14, .ref m15, .ref m16, .ref m17, .ref m18, .ref m19, .ref m20, .int s_signs, .ref m21, .int s_stacked, .ref m22, .int s_name, .int s_shift, .int s_statements, .int s_ifs, .int s_whiles, .int s_variants, .int s_open, .ref m23, .int s_isMade, .int s_conditions, .ref m24, .ref m25, .ref m26, .ref m27, .int s_kept, .ref m28, .int s_tops, .ref m29, .int s_used, .ref m30, .ref m31, .int s_looked, .int s_rows, .int s_firstRow, .ref m32, .ref m33, .ref m34, .ref m35, .ref m36, .ref m37, .ref m38, .ref m39, .ref m40, .int s_isBroken, .ref m41, .int s_atoms, .ref m42])), (m1, .inl (ax 0, 400, .inl (fun j => nI (g j))))] := ⟨hP1, hD1⟩
                obtain ⟨hP, hD⟩ := hW7
                clear hP1 hD1 hS1
                rw [← hQe]
                obtain ⟨hP9, hD9⟩ := xw_sub2 (wc := (fun u : Nat → Nat => [(m0, .inr (11, [.int s_thrown, .int s_taped, .ref m1, .int (nI n), .int s_outSize, .ref m2, .int (nI (u 2)), .int (nI (u 3)), .int (nI (u 0)), .int (nI (u 1)), .int s_failed, .ref m3, .ref m4, .ref m5, .int s_isProgram, .int s_half, .ref m6, .ref m7, .ref m8, .ref m9, .ref m10, .ref m11, .ref m12, .ref m13, .ref m14, .ref m15, .ref m16, .ref m17, .ref m18, .ref m19, .ref m20, .int s_signs, .ref m21, .int s_stacked, .ref m22, .int s_name, .int s_shift, .int s_statements, .int s_ifs, .int s_whiles, .int s_variants, .int s_open, .ref m23, .int s_isMade, .int s_conditions, .ref m24, .ref m25, .ref m26, .ref m27, .int s_kept, .ref m28, .int s_tops, .ref m29, .int s_used, .ref m30, .ref m31, .int s_looked, .int s_rows, .int s_firstRow, .ref m32, .ref m33, .ref m34, .ref m35, .ref m36, .ref m37, .ref m38, .ref m39, .ref m40, .int s_isBroken, .ref m41, .int s_atoms, .ref m42])), (m1, .inl (ax 0, 400, .inl (fun j => nI (g j))))]) (ixn [q, (q + 2), (700 + g q), v0])) hP hD [0, 1] (by decide) rfl
                have hsp0 : (q + 2) = tkE g n (nxB g n en) := (by rw [← hB2]; unfold tkE; (repeat' split); all_goals (first | rfl | assumption | (exfalso; omega) | omega))
                have hsp1 : (700 + g q) = tkK g n (nxB g n en) := (by first | (rw [← hB2]; unfold tkK; rw [if_neg (by first | assumption | omega), if_neg (by first | assumption | omega), if_pos (by first | assumption | omega)]; assumption) | rw [← hB2]; unfold tkK; (repeat' split); all_goals (first | rfl | assumption | (exfalso; omega) | omega))
                have hsp2 : v0 = tkV g n (nxB g n en) v0 := (by rw [← hB2]; unfold tkV; (repeat' split); all_goals (first | rfl | assumption | (exfalso; omega) | omega))
                have hsp3 : q = nxB g n en := (by first | assumption | omega)
                have hsp4 : en ≤ q := (by first | assumption | omega)
                have hsp5 : q ≤ (q + 2) := (by first | assumption | omega)
                have hsp6 : (q + 2) ≤ n := (by first | assumption | omega)
                have hsp7 : tk0 ((700 + g q)) (q) ((q + 2)) := (by unfold tk0; omega)
                have hsp8 : (700 + g q) < 10000 := (by first | assumption | omega)
                have hsp9 : v0 < 20000 := (by first | assumption | omega)
                have hsp10 : tkq g n (q) ((q + 2)) ((700 + g q)) (v0) := (tkq_of hsp0 hsp1 hsp2 hsp3 (by first | assumption | omega))
                exact W.vret hx hb hr (fun t ht hW => ⟨⟨ixn [q, (q + 2), (700 + g q), v0], rfl, ⟨hsp0, hsp1, hsp2, hsp3, hsp4, hsp5, hsp6, hsp7, hsp8, hsp9, hsp10⟩, ⟨by rw [ht]; exact hP9, hD9⟩⟩, hS.F ht⟩) hS.2.2 d_Model_next_199
            · replace c_20 : ¬ g q = 58 := fun hq9 => c_20 ((nI_eq (a := g q) (b := 58) (by first | exact Nat.lt_of_lt_of_le (by assumption) (by decide) | exact Nat.lt_of_le_of_lt (by assumption) (by decide) | omega) (by decide)).mpr hq9)
              refine lv_iload_n hx hb d_Model_next_111 rfl (lv_at hl1 0 rfl) ?_
              refine lv_bipush (v := 60) hx hb d_Model_next_112 (by decide) ?_
              refine lv_icmp_eq (tgt := 123) hx hb d_Model_next_114 (by decide) (fun c_43 => ?_) (fun c_43 => ?_)
              · replace c_43 : g q = 60 := (nI_eq (a := g q) (b := 60) (by first | exact Nat.lt_of_lt_of_le (by assumption) (by decide) | exact Nat.lt_of_le_of_lt (by assumption) (by decide) | omega) (by decide)).mp c_43
                refine lv_aload_n hx hb d_Model_next_123 rfl (lv_at hl1 1 rfl) ?_
                refine lv_aload_n hx hb d_Model_next_124 rfl (lv_at hl1 1 rfl) ?_
                refine va_get (D := D) (ci := 11) (v := .int (nI q)) (C := R_Model) (T := F_Model) (N := 72) hx hb hts i_Model hown hK.1 hP 0 rfl rfl 8 (by decide) (hts _ wd_1044) (fun _ h9 => h9) rfl d_Model_next_125 ?_
                refine lv_iconst (v := 1) hx hb d_Model_next_128 (by decide) ?_
                refine lv_iadd hx hb d_Model_next_129 ?_
                refine lv_topi (fun z_44 ez_44 => ?_)
                have ez_44 : z_44 = nI (q + 1) := ez_44.trans (nI_add q 1)
                subst ez_44
                obtain ⟨hPc, hDc, hFc, hCs⟩ := xw_sub3 (wc := [(m0, .inr (11, [.int s_thrown, .int s_taped, .ref m1, .int (nI n), .int s_outSize, .ref m2, .int s_kind, .int (nI v0), .int (nI q), .int (nI q), .int s_failed, .ref m3, .ref m4, .ref m5, .int s_isProgram, .int s_half, .ref m6, .ref m7, .ref m8, .ref m9, .ref m10, .ref m11, .ref m12, .ref m13, .ref m14, .ref m15, .ref m16, .ref m17, .ref m18, .ref m19, .ref m20, .int s_signs, .ref m21, .int s_stacked, .ref m22, .int s_name, .int s_shift, .int s_statements, .int s_ifs, .int s_whiles, .int s_variants, .int s_open, .ref m23, .int s_isMade, .int s_conditions, .ref m24, .ref m25, .ref m26, .ref m27, .int s_kept, .ref m28, .int s_tops, .ref m29, .int s_used, .ref m30, .ref m31, .int s_looked, .int s_rows, .int s_firstRow, .ref m32, .ref m33, .ref m34, .ref m35, .ref m36, .ref m37, .ref m38, .ref m39, .ref m40, .int s_isBroken, .ref m41, .int s_atoms, .ref m42])), (m1, .inl (ax 0, 400, .inl (fun j => nI (g j))))]) hP hD hS hA [0, 1] (by decide) rfl
                have hz := xz_of hN hS
                refine va_calli (va_runV (As := [.int (nI (q + 1))]) (rest := []) ⟨hx, hb, hml, hown, hts⟩ (c_M_byteAt l D ax m0 m1 m2 m3 m4 m5 m6 m7 m8 m9 m10 m11 m12 m13 m14 m15 m16 m17 m18 m19 m20 m21 m22 m23 m24 m25 m26 m27 m28 m29 m30 m31 m32 m33 m34 m35 m36 m37 m38 m39 m40 m41 m42 s_thrown s_taped s_outSize s_kind (nI v0) (nI q) (nI q) s_failed s_isProgram s_half s_signs s_stacked s_name s_shift s_statements s_ifs s_whiles s_variants s_open s_isMade s_conditions s_kept s_tops s_used s_looked s_rows s_firstRow s_isBroken s_atoms n (q + 1) g H_17.size hn (by first | assumption | omega)) (xcV (n := 1) hts wd_1282 wd_15 wd_1279 wd_1281 ps_52 rfl rfl (by decide +kernel) ⟨Nat.le_of_ble_eq_true rfl, Nat.le_of_ble_eq_true rfl⟩) (xpV (ci := 11) (q0 := 0) (As := [.int (nI (q + 1))]) hPc hK hz hDc rfl rfl) rfl rfl hl1.1 rfl (lv_room (Nat.le_of_ble_eq_true rfl)) d_Model_next_130 ⟨Nat.le_of_ble_eq_true rfl, Nat.le_of_ble_eq_true rfl⟩) hS (fun q _ h => hFc q h) hFc (fun r_47 u_45 t H_46 locs ht hvm hw hB hz1 hk1 hS1 => ?_)
                try dsimp only at hw
                subst hw
                obtain ⟨hP1, hD1⟩ := hB
                rw [ht] at hP1
                have hjn := xw_join3 (wl := [(m0, .inr (11, [.int s_thrown, .int s_taped, .ref m1, .int (nI n), .int s_outSize, .ref m2, .int s_kind, .int (nI v0), .int (nI q), .int (nI q), .int s_failed, .ref m3, .ref m4, .ref m5, .int s_isProgram, .int s_half, .ref m6, .ref m7, .ref m8, .ref m9, .ref m10, .ref m11, .ref m12, .ref m13, .ref m14, .ref m15, .ref m16, .ref m17, .ref m18, .ref m19, .ref m20, .int s_signs, .ref m21, .int s_stacked, .ref m22, .int s_name, .int s_shift, .int s_statements, .int s_ifs, .int s_whiles, .int s_variants, .int s_open, .ref m23, .int s_isMade, .int s_conditions, .ref m24, .ref m25, .ref m26, .ref m27, .int s_kept, .ref m28, .int s_tops, .ref m29, .int s_used, .ref m30, .ref m31, .int s_looked, .int s_rows, .int s_firstRow, .ref m32, .ref m33, .ref m34, .ref m35, .ref m36, .ref m37, .ref m38, .ref m39, .ref m40, .int s_isBroken, .ref m41, .int s_atoms, .ref m42])), (m1, .inl (ax 0, 400, .inl (fun j => nI (g j))))]) hP hD [0, 1] [] hCs (by decide) (by decide) hk1 hFc hP1 hD1 rfl
                clear hP1 hD1
                clear hPc hDc hFc hCs hz hz1 hk1 ht hvm
                clear hP hD hS
                have hS := hS1
                obtain ⟨hP, hD⟩ := hjn
                clear hS1
                refine lv_bipush (v := 61) hx hb d_Model_next_133 (by decide) ?_
                refine lv_icmp_ne (tgt := 142) hx hb d_Model_next_135 (by decide) (fun c_48 => ?_) (fun c_48 => ?_)
                · replace c_48 : ¬ bt g n (q + 1) = 61 := fun hq9 => c_48 ((nI_eq (a := bt g n (q + 1)) (b := 61) (by first | exact Nat.lt_of_lt_of_le (by assumption) (by decide) | exact Nat.lt_of_le_of_lt (by assumption) (by decide) | omega) (by decide)).mpr hq9)
                  refine lv_iconst (v := 0) hx hb d_Model_next_142 (by decide) ?_
                  refine lv_istore_n (lv' := [(2, .int 0), (1, .int (nI (g q))), (0, .ref m0)]) hx hb d_Model_next_143 rfl hl1 (by decide) rfl (fun ls hl2 => ?_)
                  clear hl1; have hl1 := hl2; clear hl2
                  refine lv_aload_n hx hb d_Model_next_144 rfl (lv_at hl1 2 rfl) ?_
                  refine lv_iload_n hx hb d_Model_next_145 rfl (lv_at hl1 0 rfl) ?_
                  refine lv_if_eq (tgt := 158) hx hb d_Model_next_146 (by decide) (fun c_49 => ?_) (fun c_49 => ?_)
                  rotate_left
                  · first | exact absurd c_49 (by decide) | exact absurd (by decide) c_49
                  refine lv_aload_n hx hb d_Model_next_158 rfl (lv_at hl1 2 rfl) ?_
                  refine va_get (D := D) (ci := 11) (v := .int (nI q)) (C := R_Model) (T := F_Model) (N := 72) hx hb hts i_Model hown hK.1 hP 0 rfl rfl 8 (by decide) (hts _ wd_1044) (fun _ h9 => h9) rfl d_Model_next_159 ?_
                  refine lv_iconst (v := 1) hx hb d_Model_next_162 (by decide) ?_
                  refine lv_iadd hx hb d_Model_next_163 ?_
                  refine lv_topi (fun z_50 ez_50 => ?_)
                  have ez_50 : z_50 = nI (q + 1) := ez_50.trans (nI_add q 1)
                  subst ez_50
                  refine va_put (D := D) (ci := 11) (v := .int (nI (q + 1))) (ty := .int) (C := R_Model) (T := F_Model) (N := 72) hx hb hts i_Model t_Model t_Model_ok n_Model hown hK.1 hP hD hS 0 rfl rfl 9 (by decide) (hts _ wd_1045) (fun _ h9 => h9) rfl (by decide +kernel) rfl rfl (Nat.le_of_ble_eq_true rfl) d_Model_next_164 (fun H_51 locs hP1 hD1 hS1 => ?_)
                  clear hP hD hS
                  have hS := hS1
                  have hW7 : (fun w9 : va_W => va_P D classes w9 H_51 ∧ va_D A w9) [(m0, .inr (11, [.int s_thrown, .int s_taped, .ref m1, .int (nI n), .int s_outSize, .ref m2, .int s_kind, .int (nI v0), .int (nI q), .int (nI (q + 1)), .int s_failed, .ref m3, .ref m4, .ref m5, .int s_isProgram, .int s_half, .ref m6, .ref m7, .ref m8, .ref m9, .ref m10, .ref m11, .ref m12, .ref m13, .ref m14, .ref m15, .ref m16, .ref m17, .ref m18, .ref m19, .ref m20, .int s_signs, .ref m21, .int s_stacked, .ref m22, .int s_name, .int s_shift, .int s_statements, .int s_ifs, .int s_whiles, .int s_variants, .int s_open, .ref m23, .int s_isMade, .int s_conditions, .ref m24, .ref m25, .ref m26, .ref m27, .int s_kept, .ref m28, .int s_tops, .ref m29, .int s_used, .ref m30, .ref m31, .int s_looked, .int s_rows, .int s_firstRow, .ref m32, .ref m33, .ref m34, .ref m35, .ref m36, .ref m37, .ref m38, .ref m39, .ref m40, .int s_isBroken, .ref m41, .int s_atoms, .ref m42])), (m1, .inl (ax 0, 400, .inl (fun j => nI (g j))))] := ⟨hP1, hD1⟩
                  obtain ⟨hP, hD⟩ := hW7
                  clear hP1 hD1 hS1
                  refine lv_aload_n hx hb d_Model_next_167 rfl (lv_at hl1 2 rfl) ?_
                  refine lv_iload_n hx hb d_Model_next_168 rfl (lv_at hl1 0 rfl) ?_
                  refine lv_if_eq (tgt := 180) hx hb d_Model_next_169 (by decide) (fun c_52 => ?_) (fun c_52 => ?_)
                  rotate_left
                  · first | exact absurd c_52 (by decide) | exact absurd (by decide) c_52
                  refine lv_iload_n hx hb d_Model_next_180 rfl (lv_at hl1 1 rfl) ?_
                  obtain ⟨hPc, hDc, hFc, hCs⟩ := xw_sub3 (wc := []) hP hD hS hA [] (by decide) rfl
                  have hz := xz_of hN hS
                  refine va_calli (va_runS (As := [.int (nI (g q))]) (rest := [.ref m0]) ⟨hx, hb, hml, hown, hts⟩ (c_M_isSign l D ax (g q) H_51.size (hg _)) (xcS (n := 1) hts wd_1307 wd_15 wd_1305 wd_1306 rfl rfl (by decide +kernel) ⟨Nat.le_of_ble_eq_true rfl, Nat.le_of_ble_eq_true rfl⟩) (xpS (As := [.int (nI (g q))]) hPc hK hz hDc) rfl rfl hl1.1 rfl (lv_room (Nat.le_of_ble_eq_true rfl)) d_Model_next_181 ⟨Nat.le_of_ble_eq_true rfl, Nat.le_of_ble_eq_true rfl⟩) hS (fun q _ h => hFc q h) hFc (fun r_55 u_53 t H_54 locs ht hvm hw hB hz1 hk1 hS1 => ?_)
                  try dsimp only at hw
                  subst hw
                  obtain ⟨hP1, hD1⟩ := hB
                  rw [ht] at hP1
                  have hjn := xw_join3 (wl := [(m0, .inr (11, [.int s_thrown, .int s_taped, .ref m1, .int (nI n), .int s_outSize, .ref m2, .int s_kind, .int (nI v0), .int (nI q), .int (nI (q + 1)), .int s_failed, .ref m3, .ref m4, .ref m5, .int s_isProgram, .int s_half, .ref m6, .ref m7, .ref m8, .ref m9, .ref m10, .ref m11, .ref m12, .ref m13, .ref m14, .ref m15, .ref m16, .ref m17, .ref m18, .ref m19, .ref m20, .int s_signs, .ref m21, .int s_stacked, .ref m22, .int s_name, .int s_shift, .int s_statements, .int s_ifs, .int s_whiles, .int s_variants, .int s_open, .ref m23, .int s_isMade, .int s_conditions, .ref m24, .ref m25, .ref m26, .ref m27, .int s_kept, .ref m28, .int s_tops, .ref m29, .int s_used, .ref m30, .ref m31, .int s_looked, .int s_rows, .int s_firstRow, .ref m32, .ref m33, .ref m34, .ref m35, .ref m36, .ref m37, .ref m38, .ref m39, .ref m40, .int s_isBroken, .ref m41, .int s_atoms, .ref m42])), (m1, .inl (ax 0, 400, .inl (fun j => nI (g j))))]) hP hD [] [0, 1] hCs (by decide) (by decide) hk1 hFc hP1 hD1 rfl
                  clear hP1 hD1
                  clear hPc hDc hFc hCs hz hz1 hk1 ht hvm
                  clear hP hD hS
                  have hS := hS1
                  obtain ⟨hP, hD⟩ := hjn
                  clear hS1
                  refine lv_if_eq (tgt := 195) hx hb d_Model_next_184 (by decide) (fun c_56 => ?_) (fun c_56 => ?_)
                  · replace c_56 : ¬ ((g q) = 60 ∨ (g q) = 62 ∨ (g q) = 61 ∨ (g q) = 35 ∨ (g q) = 38 ∨ (g q) = 124 ∨ (g q) = 33 ∨ (g q) = 40 ∨ (g q) = 41 ∨ (g q) = 123 ∨ (g q) = 125 ∨ (g q) = 59 ∨ (g q) = 43 ∨ (g q) = 45) := zb_n c_56
                    refine lv_iconst (v := 1) hx hb d_Model_next_195 (by decide) ?_
                    refine va_put (D := D) (ci := 11) (v := .int 1) (ty := .int) (C := R_Model) (T := F_Model) (N := 72) hx hb hts i_Model t_Model t_Model_ok n_Model hown hK.1 hP hD hS 0 rfl rfl 6 (by decide) (hts _ wd_1042) (fun _ h9 => h9) rfl (by decide +kernel) rfl rfl (Nat.le_of_ble_eq_true rfl) d_Model_next_196 (fun H_57 locs hP1 hD1 hS1 => ?_)
                    clear hP hD hS
                    have hS := hS1
                    have hW7 : (fun w9 : va_W => va_P D classes w9 H_57 ∧ va_D A w9) [(m0, .inr (11, [.int s_thrown, .int s_taped, .ref m1, .int (nI n), .int s_outSize, .ref m2, .int 1, .int (nI v0), .int (nI q), .int (nI (q + 1)), .int s_failed, .ref m3, .ref m4, .ref m5, .int s_isProgram, .int s_half, .ref m6, .ref m7, .ref m8, .ref m9, .ref m10, .ref m11, .ref m12, .ref m13, .ref m14, .ref m15, .ref m16, .ref m17, .ref m18, .ref m19, .ref m20, .int s_signs, .ref m21, .int s_stacked, .ref m22, .int s_name, .int s_shift, .int s_statements, .int s_ifs, .int s_whiles, .int s_variants, .int s_open, .ref m23, .int s_isMade, .int s_conditions, .ref m24, .ref m25, .ref m26, .ref m27, .int s_kept, .ref m28, .int s_tops, .ref m29, .int s_used, .ref m30, .ref m31, .int s_looked, .int s_rows, .int s_firstRow, .ref m32, .ref m33, .ref m34, .ref m35, .ref m36, .ref m37, .ref m38, .ref m39, .ref m40, .int s_isBroken, .ref m41, .int s_atoms, .ref m42])), (m1, .inl (ax 0, 400, .inl (fun j => nI (g j))))] := ⟨hP1, hD1⟩
                    obtain ⟨hP, hD⟩ := hW7
                    clear hP1 hD1 hS1
                    rw [← hQe]
                    obtain ⟨hP9, hD9⟩ := xw_sub2 (wc := (fun u : Nat → Nat => [(m0, .inr (11, [.int s_thrown, .int s_taped, .ref m1, .int (nI n), .int s_outSize, .ref m2, .int (nI (u 2)), .int (nI (u 3)), .int (nI (u 0)), .int (nI (u 1)), .int s_failed, .ref m3, .ref m4, .ref m5, .int s_isProgram, .int s_half, .ref m6, .ref m7, .ref m8, .ref m9, .ref m10, .ref m11, .ref m12, .ref m13, .ref m14, .ref m15, .ref m16, .ref m17, .ref m18, .ref m19, .ref m20, .int s_signs, .ref m21, .int s_stacked, .ref m22, .int s_name, .int s_shift, .int s_statements, .int s_ifs, .int s_whiles, .int s_variants, .int s_open, .ref m23, .int s_isMade, .int s_conditions, .ref m24, .ref m25, .ref m26, .ref m27, .int s_kept, .ref m28, .int s_tops, .ref m29, .int s_used, .ref m30, .ref m31, .int s_looked, .int s_rows, .int s_firstRow, .ref m32, .ref m33, .ref m34, .ref m35, .ref m36, .ref m37, .ref m38, .ref m39, .ref m40, .int s_isBroken, .ref m41, .int s_atoms, .ref m42])), (m1, .inl (ax 0, 400, .inl (fun j => nI (g j))))]) (ixn [q, (q + 1), 1, v0])) hP hD [0, 1] (by decide) rfl
                    have hsp0 : (q + 1) = tkE g n (nxB g n en) := (by rw [← hB2]; unfold tkE; (repeat' split); all_goals (first | rfl | assumption | (exfalso; omega) | omega))
                    have hsp1 : 1 = tkK g n (nxB g n en) := (by first | (rw [← hB2]; unfold tkK; rw [if_neg (by first | assumption | omega), if_neg (by first | assumption | omega), if_pos (by first | assumption | omega)]; assumption) | rw [← hB2]; unfold tkK; (repeat' split); all_goals (first | rfl | assumption | (exfalso; omega) | omega))
                    have hsp2 : v0 = tkV g n (nxB g n en) v0 := (by rw [← hB2]; unfold tkV; (repeat' split); all_goals (first | rfl | assumption | (exfalso; omega) | omega))
                    have hsp3 : q = nxB g n en := (by first | assumption | omega)
                    have hsp4 : en ≤ q := (by first | assumption | omega)
                    have hsp5 : q ≤ (q + 1) := (by first | assumption | omega)
                    have hsp6 : (q + 1) ≤ n := (by first | assumption | omega)
                    have hsp7 : tk0 (1) (q) ((q + 1)) := (by unfold tk0; omega)
                    have hsp8 : 1 < 10000 := (by first | assumption | omega)
                    have hsp9 : v0 < 20000 := (by first | assumption | omega)
                    have hsp10 : tkq g n (q) ((q + 1)) (1) (v0) := (tkq_of hsp0 hsp1 hsp2 hsp3 (by first | assumption | omega))
                    exact W.vret hx hb hr (fun t ht hW => ⟨⟨ixn [q, (q + 1), 1, v0], rfl, ⟨hsp0, hsp1, hsp2, hsp3, hsp4, hsp5, hsp6, hsp7, hsp8, hsp9, hsp10⟩, ⟨by rw [ht]; exact hP9, hD9⟩⟩, hS.F ht⟩) hS.2.2 d_Model_next_199
                  · replace c_56 : ((g q) = 60 ∨ (g q) = 62 ∨ (g q) = 61 ∨ (g q) = 35 ∨ (g q) = 38 ∨ (g q) = 124 ∨ (g q) = 33 ∨ (g q) = 40 ∨ (g q) = 41 ∨ (g q) = 123 ∨ (g q) = 125 ∨ (g q) = 59 ∨ (g q) = 43 ∨ (g q) = 45) := zb_y c_56
                    refine lv_sipush (v := 200) hx hb d_Model_next_187 (by decide) ?_
                    refine lv_iload_n hx hb d_Model_next_190 rfl (lv_at hl1 1 rfl) ?_
                    refine lv_iadd hx hb d_Model_next_191 ?_
                    refine lv_topi (fun z_58 ez_58 => ?_)
                    have ez_58 : z_58 = nI (200 + g q) := ez_58.trans (nI_add 200 (g q))
                    subst ez_58
                    refine lv_goto (tgt := 196) hx hb d_Model_next_192 (by decide) ?_
                    refine va_put (D := D) (ci := 11) (v := .int (nI (200 + g q))) (ty := .int) (C := R_Model) (T := F_Model) (N := 72) hx hb hts i_Model t_Model t_Model_ok n_Model hown hK.1 hP hD hS 0 rfl rfl 6 (by decide) (hts _ wd_1042) (fun _ h9 => h9) rfl (by decide +kernel) rfl rfl (Nat.le_of_ble_eq_true rfl) d_Model_next_196 (fun H_59 locs hP1 hD1 hS1 => ?_)
                    clear hP hD hS
                    have hS := hS1
                    have hW7 : (fun w9 : va_W => va_P D classes w9 H_59 ∧ va_D A w9) [(m0, .inr (11, [.int s_thrown, .int s_taped, .ref m1, .int (nI n), .int s_outSize, .ref m2, .int (nI (200 + g q)), .int (nI v0), .int (nI q), .int (nI (q + 1)), .int s_failed, .ref m3, .ref m4, .ref m5, .int s_isProgram, .int s_half, .ref m6, .ref m7, .ref m8, .ref m9, .ref m10, .ref m11, .ref m12, .ref m13, .ref m14, .ref m15, .ref m16, .ref m17, .ref m18, .ref m19, .ref m20, .int s_signs, .ref m21, .int s_stacked, .ref m22, .int s_name, .int s_shift, .int s_statements, .int s_ifs, .int s_whiles, .int s_variants, .int s_open, .ref m23, .int s_isMade, .int s_conditions, .ref m24, .ref m25, .ref m26, .ref m27, .int s_kept, .ref m28, .int s_tops, .ref m29, .int s_used, .ref m30, .ref m31, .int s_looked, .int s_rows, .int s_firstRow, .ref m32, .ref m33, .ref m34, .ref m35, .ref m36, .ref m37, .ref m38, .ref m39, .ref m40, .int s_isBroken, .ref m41, .int s_atoms, .ref m42])), (m1, .inl (ax 0, 400, .inl (fun j => nI (g j))))] := ⟨hP1, hD1⟩
                    obtain ⟨hP, hD⟩ := hW7
                    clear hP1 hD1 hS1
                    rw [← hQe]
                    obtain ⟨hP9, hD9⟩ := xw_sub2 (wc := (fun u : Nat → Nat => [(m0, .inr (11, [.int s_thrown, .int s_taped, .ref m1, .int (nI n), .int s_outSize, .ref m2, .int (nI (u 2)), .int (nI (u 3)), .int (nI (u 0)), .int (nI (u 1)), .int s_failed, .ref m3, .ref m4, .ref m5, .int s_isProgram, .int s_half, .ref m6, .ref m7, .ref m8, .ref m9, .ref m10, .ref m11, .ref m12, .ref m13, .ref m14, .ref m15, .ref m16, .ref m17, .ref m18, .ref m19, .ref m20, .int s_signs, .ref m21, .int s_stacked, .ref m22, .int s_name, .int s_shift, .int s_statements, .int s_ifs, .int s_whiles, .int s_variants, .int s_open, .ref m23, .int s_isMade, .int s_conditions, .ref m24, .ref m25, .ref m26, .ref m27, .int s_kept, .ref m28, .int s_tops, .ref m29, .int s_used, .ref m30, .ref m31, .int s_looked, .int s_rows, .int s_firstRow, .ref m32, .ref m33, .ref m34, .ref m35, .ref m36, .ref m37, .ref m38, .ref m39, .ref m40, .int s_isBroken, .ref m41, .int s_atoms, .ref m42])), (m1, .inl (ax 0, 400, .inl (fun j => nI (g j))))]) (ixn [q, (q + 1), (200 + g q), v0])) hP hD [0, 1] (by decide) rfl
                    have hsp0 : (q + 1) = tkE g n (nxB g n en) := (by rw [← hB2]; unfold tkE; (repeat' split); all_goals (first | rfl | assumption | (exfalso; omega) | omega))
                    have hsp1 : (200 + g q) = tkK g n (nxB g n en) := (by first | (rw [← hB2]; unfold tkK; rw [if_neg (by first | assumption | omega), if_neg (by first | assumption | omega), if_pos (by first | assumption | omega)]; assumption) | rw [← hB2]; unfold tkK; (repeat' split); all_goals (first | rfl | assumption | (exfalso; omega) | omega))
                    have hsp2 : v0 = tkV g n (nxB g n en) v0 := (by rw [← hB2]; unfold tkV; (repeat' split); all_goals (first | rfl | assumption | (exfalso; omega) | omega))
                    have hsp3 : q = nxB g n en := (by first | assumption | omega)
                    have hsp4 : en ≤ q := (by first | assumption | omega)
                    have hsp5 : q ≤ (q + 1) := (by first | assumption | omega)
                    have hsp6 : (q + 1) ≤ n := (by first | assumption | omega)
                    have hsp7 : tk0 ((200 + g q)) (q) ((q + 1)) := (by unfold tk0; omega)
                    have hsp8 : (200 + g q) < 10000 := (by first | assumption | omega)
                    have hsp9 : v0 < 20000 := (by first | assumption | omega)
                    have hsp10 : tkq g n (q) ((q + 1)) ((200 + g q)) (v0) := (tkq_of hsp0 hsp1 hsp2 hsp3 (by first | assumption | omega))
                    exact W.vret hx hb hr (fun t ht hW => ⟨⟨ixn [q, (q + 1), (200 + g q), v0], rfl, ⟨hsp0, hsp1, hsp2, hsp3, hsp4, hsp5, hsp6, hsp7, hsp8, hsp9, hsp10⟩, ⟨by rw [ht]; exact hP9, hD9⟩⟩, hS.F ht⟩) hS.2.2 d_Model_next_199
                · replace c_48 : bt g n (q + 1) = 61 := (nI_eq (a := bt g n (q + 1)) (b := 61) (by first | exact Nat.lt_of_lt_of_le (by assumption) (by decide) | exact Nat.lt_of_le_of_lt (by assumption) (by decide) | omega) (by decide)).mp c_48
                  refine lv_iconst (v := 1) hx hb d_Model_next_138 (by decide) ?_
                  refine lv_goto (tgt := 143) hx hb d_Model_next_139 (by decide) ?_
                  refine lv_istore_n (lv' := [(2, .int 1), (1, .int (nI (g q))), (0, .ref m0)]) hx hb d_Model_next_143 rfl hl1 (by decide) rfl (fun ls hl2 => ?_)
                  clear hl1; have hl1 := hl2; clear hl2
                  refine lv_aload_n hx hb d_Model_next_144 rfl (lv_at hl1 2 rfl) ?_
                  refine lv_iload_n hx hb d_Model_next_145 rfl (lv_at hl1 0 rfl) ?_
                  refine lv_if_eq (tgt := 158) hx hb d_Model_next_146 (by decide) (fun c_60 => ?_) (fun c_60 => ?_)
                  · first | exact absurd c_60 (by decide) | exact absurd (by decide) c_60
                  refine lv_aload_n hx hb d_Model_next_149 rfl (lv_at hl1 2 rfl) ?_
                  refine va_get (D := D) (ci := 11) (v := .int (nI q)) (C := R_Model) (T := F_Model) (N := 72) hx hb hts i_Model hown hK.1 hP 0 rfl rfl 8 (by decide) (hts _ wd_1044) (fun _ h9 => h9) rfl d_Model_next_150 ?_
                  refine lv_iconst (v := 2) hx hb d_Model_next_153 (by decide) ?_
                  refine lv_iadd hx hb d_Model_next_154 ?_
                  refine lv_topi (fun z_61 ez_61 => ?_)
                  have ez_61 : z_61 = nI (q + 2) := ez_61.trans (nI_add q 2)
                  subst ez_61
                  refine lv_goto (tgt := 164) hx hb d_Model_next_155 (by decide) ?_
                  refine va_put (D := D) (ci := 11) (v := .int (nI (q + 2))) (ty := .int) (C := R_Model) (T := F_Model) (N := 72) hx hb hts i_Model t_Model t_Model_ok n_Model hown hK.1 hP hD hS 0 rfl rfl 9 (by decide) (hts _ wd_1045) (fun _ h9 => h9) rfl (by decide +kernel) rfl rfl (Nat.le_of_ble_eq_true rfl) d_Model_next_164 (fun H_62 locs hP1 hD1 hS1 => ?_)
                  clear hP hD hS
                  have hS := hS1
                  have hW7 : (fun w9 : va_W => va_P D classes w9 H_62 ∧ va_D A w9) [(m0, .inr (11, [.int s_thrown, .int s_taped, .ref m1, .int (nI n), .int s_outSize, .ref m2, .int s_kind, .int (nI v0), .int (nI q), .int (nI (q + 2)), .int s_failed, .ref m3, .ref m4, .ref m5, .int s_isProgram, .int s_half, .ref m6, .ref m7, .ref m8, .ref m9, .ref m10, .ref m11, .ref m12, .ref m13, .ref m14, .ref m15, .ref m16, .ref m17, .ref m18, .ref m19, .ref m20, .int s_signs, .ref m21, .int s_stacked, .ref m22, .int s_name, .int s_shift, .int s_statements, .int s_ifs, .int s_whiles, .int s_variants, .int s_open, .ref m23, .int s_isMade, .int s_conditions, .ref m24, .ref m25, .ref m26, .ref m27, .int s_kept, .ref m28, .int s_tops, .ref m29, .int s_used, .ref m30, .ref m31, .int s_looked, .int s_rows, .int s_firstRow, .ref m32, .ref m33, .ref m34, .ref m35, .ref m36, .ref m37, .ref m38, .ref m39, .ref m40, .int s_isBroken, .ref m41, .int s_atoms, .ref m42])), (m1, .inl (ax 0, 400, .inl (fun j => nI (g j))))] := ⟨hP1, hD1⟩
                  obtain ⟨hP, hD⟩ := hW7
                  clear hP1 hD1 hS1
                  refine lv_aload_n hx hb d_Model_next_167 rfl (lv_at hl1 2 rfl) ?_
                  refine lv_iload_n hx hb d_Model_next_168 rfl (lv_at hl1 0 rfl) ?_
                  refine lv_if_eq (tgt := 180) hx hb d_Model_next_169 (by decide) (fun c_63 => ?_) (fun c_63 => ?_)
                  · first | exact absurd c_63 (by decide) | exact absurd (by decide) c_63
                  refine lv_sipush (v := 700) hx hb d_Model_next_172 (by decide) ?_
                  refine lv_iload_n hx hb d_Model_next_175 rfl (lv_at hl1 1 rfl) ?_
                  refine lv_iadd hx hb d_Model_next_176 ?_
                  refine lv_topi (fun z_64 ez_64 => ?_)
                  have ez_64 : z_64 = nI (700 + g q) := ez_64.trans (nI_add 700 (g q))
                  subst ez_64
                  refine lv_goto (tgt := 196) hx hb d_Model_next_177 (by decide) ?_
                  refine va_put (D := D) (ci := 11) (v := .int (nI (700 + g q))) (ty := .int) (C := R_Model) (T := F_Model) (N := 72) hx hb hts i_Model t_Model t_Model_ok n_Model hown hK.1 hP hD hS 0 rfl rfl 6 (by decide) (hts _ wd_1042) (fun _ h9 => h9) rfl (by decide +kernel) rfl rfl (Nat.le_of_ble_eq_true rfl) d_Model_next_196 (fun H_65 locs hP1 hD1 hS1 => ?_)
                  clear hP hD hS
                  have hS := hS1
                  have hW7 : (fun w9 : va_W => va_P D classes w9 H_65 ∧ va_D A w9) [(m0, .inr (11, [.int s_thrown, .int s_taped, .ref m1, .int (nI n), .int s_outSize, .ref m2, .int (nI (700 + g q)), .int (nI v0), .int (nI q), .int (nI (q + 2)), .int s_failed, .ref m3, .ref m4, .ref m5, .int s_isProgram, .int s_half, .ref m6, .ref m7, .ref m8, .ref m9, .ref m10, .ref m11, .ref m12, .ref m13, .ref m14, .ref m15, .ref m16, .ref m17, .ref m18, .ref m19, .ref m20, .int s_signs, .ref m21, .int s_stacked, .ref m22, .int s_name, .int s_shift, .int s_statements, .int s_ifs, .int s_whiles, .int s_variants, .int s_open, .ref m23, .int s_isMade, .int s_conditions, .ref m24, .ref m25, .ref m26, .ref m27, .int s_kept, .ref m28, .int s_tops, .ref m29, .int s_used, .ref m30, .ref m31, .int s_looked, .int s_rows, .int s_firstRow, .ref m32, .ref m33, .ref m34, .ref m35, .ref m36, .ref m37, .ref m38, .ref m39, .ref m40, .int s_isBroken, .ref m41, .int s_atoms, .ref m42])), (m1, .inl (ax 0, 400, .inl (fun j => nI (g j))))] := ⟨hP1, hD1⟩
                  obtain ⟨hP, hD⟩ := hW7
                  clear hP1 hD1 hS1
                  rw [← hQe]
                  obtain ⟨hP9, hD9⟩ := xw_sub2 (wc := (fun u : Nat → Nat => [(m0, .inr (11, [.int s_thrown, .int s_taped, .ref m1, .int (nI n), .int s_outSize, .ref m2, .int (nI (u 2)), .int (nI (u 3)), .int (nI (u 0)), .int (nI (u 1)), .int s_failed, .ref m3, .ref m4, .ref m5, .int s_isProgram, .int s_half, .ref m6, .ref m7, .ref m8, .ref m9, .ref m10, .ref m11, .ref m12, .ref m13, .ref m14, .ref m15, .ref m16, .ref m17, .ref m18, .ref m19, .ref m20, .int s_signs, .ref m21, .int s_stacked, .ref m22, .int s_name, .int s_shift, .int s_statements, .int s_ifs, .int s_whiles, .int s_variants, .int s_open, .ref m23, .int s_isMade, .int s_conditions, .ref m24, .ref m25, .ref m26, .ref m27, .int s_kept, .ref m28, .int s_tops, .ref m29, .int s_used, .ref m30, .ref m31, .int s_looked, .int s_rows, .int s_firstRow, .ref m32, .ref m33, .ref m34, .ref m35, .ref m36, .ref m37, .ref m38, .ref m39, .ref m40, .int s_isBroken, .ref m41, .int s_atoms, .ref m42])), (m1, .inl (ax 0, 400, .inl (fun j => nI (g j))))]) (ixn [q, (q + 2), (700 + g q), v0])) hP hD [0, 1] (by decide) rfl
                  have hsp0 : (q + 2) = tkE g n (nxB g n en) := (by rw [← hB2]; unfold tkE; (repeat' split); all_goals (first | rfl | assumption | (exfalso; omega) | omega))
                  have hsp1 : (700 + g q) = tkK g n (nxB g n en) := (by first | (rw [← hB2]; unfold tkK; rw [if_neg (by first | assumption | omega), if_neg (by first | assumption | omega), if_pos (by first | assumption | omega)]; assumption) | rw [← hB2]; unfold tkK; (repeat' split); all_goals (first | rfl | assumption | (exfalso; omega) | omega))
                  have hsp2 : v0 = tkV g n (nxB g n en) v0 := (by rw [← hB2]; unfold tkV; (repeat' split); all_goals (first | rfl | assumption | (exfalso; omega) | omega))
                  have hsp3 : q = nxB g n en := (by first | assumption | omega)
                  have hsp4 : en ≤ q := (by first | assumption | omega)
                  have hsp5 : q ≤ (q + 2) := (by first | assumption | omega)
                  have hsp6 : (q + 2) ≤ n := (by first | assumption | omega)
                  have hsp7 : tk0 ((700 + g q)) (q) ((q + 2)) := (by unfold tk0; omega)
                  have hsp8 : (700 + g q) < 10000 := (by first | assumption | omega)
                  have hsp9 : v0 < 20000 := (by first | assumption | omega)
                  have hsp10 : tkq g n (q) ((q + 2)) ((700 + g q)) (v0) := (tkq_of hsp0 hsp1 hsp2 hsp3 (by first | assumption | omega))
                  exact W.vret hx hb hr (fun t ht hW => ⟨⟨ixn [q, (q + 2), (700 + g q), v0], rfl, ⟨hsp0, hsp1, hsp2, hsp3, hsp4, hsp5, hsp6, hsp7, hsp8, hsp9, hsp10⟩, ⟨by rw [ht]; exact hP9, hD9⟩⟩, hS.F ht⟩) hS.2.2 d_Model_next_199
              · replace c_43 : ¬ g q = 60 := fun hq9 => c_43 ((nI_eq (a := g q) (b := 60) (by first | exact Nat.lt_of_lt_of_le (by assumption) (by decide) | exact Nat.lt_of_le_of_lt (by assumption) (by decide) | omega) (by decide)).mpr hq9)
                refine lv_iload_n hx hb d_Model_next_117 rfl (lv_at hl1 0 rfl) ?_
                refine lv_bipush (v := 62) hx hb d_Model_next_118 (by decide) ?_
                refine lv_icmp_ne (tgt := 142) hx hb d_Model_next_120 (by decide) (fun c_66 => ?_) (fun c_66 => ?_)
                · replace c_66 : ¬ g q = 62 := fun hq9 => c_66 ((nI_eq (a := g q) (b := 62) (by first | exact Nat.lt_of_lt_of_le (by assumption) (by decide) | exact Nat.lt_of_le_of_lt (by assumption) (by decide) | omega) (by decide)).mpr hq9)
                  refine lv_iconst (v := 0) hx hb d_Model_next_142 (by decide) ?_
                  refine lv_istore_n (lv' := [(2, .int 0), (1, .int (nI (g q))), (0, .ref m0)]) hx hb d_Model_next_143 rfl hl1 (by decide) rfl (fun ls hl2 => ?_)
                  clear hl1; have hl1 := hl2; clear hl2
                  refine lv_aload_n hx hb d_Model_next_144 rfl (lv_at hl1 2 rfl) ?_
                  refine lv_iload_n hx hb d_Model_next_145 rfl (lv_at hl1 0 rfl) ?_
                  refine lv_if_eq (tgt := 158) hx hb d_Model_next_146 (by decide) (fun c_67 => ?_) (fun c_67 => ?_)
                  rotate_left
                  · first | exact absurd c_67 (by decide) | exact absurd (by decide) c_67
                  refine lv_aload_n hx hb d_Model_next_158 rfl (lv_at hl1 2 rfl) ?_
                  refine va_get (D := D) (ci := 11) (v := .int (nI q)) (C := R_Model) (T := F_Model) (N := 72) hx hb hts i_Model hown hK.1 hP 0 rfl rfl 8 (by decide) (hts _ wd_1044) (fun _ h9 => h9) rfl d_Model_next_159 ?_
                  refine lv_iconst (v := 1) hx hb d_Model_next_162 (by decide) ?_
                  refine lv_iadd hx hb d_Model_next_163 ?_
                  refine lv_topi (fun z_68 ez_68 => ?_)
                  have ez_68 : z_68 = nI (q + 1) := ez_68.trans (nI_add q 1)
                  subst ez_68
                  refine va_put (D := D) (ci := 11) (v := .int (nI (q + 1))) (ty := .int) (C := R_Model) (T := F_Model) (N := 72) hx hb hts i_Model t_Model t_Model_ok n_Model hown hK.1 hP hD hS 0 rfl rfl 9 (by decide) (hts _ wd_1045) (fun _ h9 => h9) rfl (by decide +kernel) rfl rfl (Nat.le_of_ble_eq_true rfl) d_Model_next_164 (fun H_69 locs hP1 hD1 hS1 => ?_)
                  clear hP hD hS
                  have hS := hS1
                  have hW7 : (fun w9 : va_W => va_P D classes w9 H_69 ∧ va_D A w9) [(m0, .inr (11, [.int s_thrown, .int s_taped, .ref m1, .int (nI n), .int s_outSize, .ref m2, .int s_kind, .int (nI v0), .int (nI q), .int (nI (q + 1)), .int s_failed, .ref m3, .ref m4, .ref m5, .int s_isProgram, .int s_half, .ref m6, .ref m7, .ref m8, .ref m9, .ref m10, .ref m11, .ref m12, .ref m13, .ref m14, .ref m15, .ref m16, .ref m17, .ref m18, .ref m19, .ref m20, .int s_signs, .ref m21, .int s_stacked, .ref m22, .int s_name, .int s_shift, .int s_statements, .int s_ifs, .int s_whiles, .int s_variants, .int s_open, .ref m23, .int s_isMade, .int s_conditions, .ref m24, .ref m25, .ref m26, .ref m27, .int s_kept, .ref m28, .int s_tops, .ref m29, .int s_used, .ref m30, .ref m31, .int s_looked, .int s_rows, .int s_firstRow, .ref m32, .ref m33, .ref m34, .ref m35, .ref m36, .ref m37, .ref m38, .ref m39, .ref m40, .int s_isBroken, .ref m41, .int s_atoms, .ref m42])), (m1, .inl (ax 0, 400, .inl (fun j => nI (g j))))] := ⟨hP1, hD1⟩
                  obtain ⟨hP, hD⟩ := hW7
                  clear hP1 hD1 hS1
                  refine lv_aload_n hx hb d_Model_next_167 rfl (lv_at hl1 2 rfl) ?_
                  refine lv_iload_n hx hb d_Model_next_168 rfl (lv_at hl1 0 rfl) ?_
                  refine lv_if_eq (tgt := 180) hx hb d_Model_next_169 (by decide) (fun c_70 => ?_) (fun c_70 => ?_)
                  rotate_left
                  · first | exact absurd c_70 (by decide) | exact absurd (by decide) c_70
                  refine lv_iload_n hx hb d_Model_next_180 rfl (lv_at hl1 1 rfl) ?_
                  obtain ⟨hPc, hDc, hFc, hCs⟩ := xw_sub3 (wc := []) hP hD hS hA [] (by decide) rfl
                  have hz := xz_of hN hS
                  refine va_calli (va_runS (As := [.int (nI (g q))]) (rest := [.ref m0]) ⟨hx, hb, hml, hown, hts⟩ (c_M_isSign l D ax (g q) H_69.size (hg _)) (xcS (n := 1) hts wd_1307 wd_15 wd_1305 wd_1306 rfl rfl (by decide +kernel) ⟨Nat.le_of_ble_eq_true rfl, Nat.le_of_ble_eq_true rfl⟩) (xpS (As := [.int (nI (g q))]) hPc hK hz hDc) rfl rfl hl1.1 rfl (lv_room (Nat.le_of_ble_eq_true rfl)) d_Model_next_181 ⟨Nat.le_of_ble_eq_true rfl, Nat.le_of_ble_eq_true rfl⟩) hS (fun q _ h => hFc q h) hFc (fun r_73 u_71 t H_72 locs ht hvm hw hB hz1 hk1 hS1 => ?_)
                  try dsimp only at hw
                  subst hw
                  obtain ⟨hP1, hD1⟩ := hB
                  rw [ht] at hP1
                  have hjn := xw_join3 (wl := [(m0, .inr (11, [.int s_thrown, .int s_taped, .ref m1, .int (nI n), .int s_outSize, .ref m2, .int s_kind, .int (nI v0), .int (nI q), .int (nI (q + 1)), .int s_failed, .ref m3, .ref m4, .ref m5, .int s_isProgram, .int s_half, .ref m6, .ref m7, .ref m8, .ref m9, .ref m10, .ref m11, .ref m12, .ref m13, .ref m14, .ref m15, .ref m16, .ref m17, .ref m18, .ref m19, .ref m20, .int s_signs, .ref m21, .int s_stacked, .ref m22, .int s_name, .int s_shift, .int s_statements, .int s_ifs, .int s_whiles, .int s_variants, .int s_open, .ref m23, .int s_isMade, .int s_conditions, .ref m24, .ref m25, .ref m26, .ref m27, .int s_kept, .ref m28, .int s_tops, .ref m29, .int s_used, .ref m30, .ref m31, .int s_looked, .int s_rows, .int s_firstRow, .ref m32, .ref m33, .ref m34, .ref m35, .ref m36, .ref m37, .ref m38, .ref m39, .ref m40, .int s_isBroken, .ref m41, .int s_atoms, .ref m42])), (m1, .inl (ax 0, 400, .inl (fun j => nI (g j))))]) hP hD [] [0, 1] hCs (by decide) (by decide) hk1 hFc hP1 hD1 rfl
                  clear hP1 hD1
                  clear hPc hDc hFc hCs hz hz1 hk1 ht hvm
                  clear hP hD hS
                  have hS := hS1
                  obtain ⟨hP, hD⟩ := hjn
                  clear hS1
                  refine lv_if_eq (tgt := 195) hx hb d_Model_next_184 (by decide) (fun c_74 => ?_) (fun c_74 => ?_)
                  · replace c_74 : ¬ ((g q) = 60 ∨ (g q) = 62 ∨ (g q) = 61 ∨ (g q) = 35 ∨ (g q) = 38 ∨ (g q) = 124 ∨ (g q) = 33 ∨ (g q) = 40 ∨ (g q) = 41 ∨ (g q) = 123 ∨ (g q) = 125 ∨ (g q) = 59 ∨ (g q) = 43 ∨ (g q) = 45) := zb_n c_74
                    refine lv_iconst (v := 1) hx hb d_Model_next_195 (by decide) ?_
                    refine va_put (D := D) (ci := 11) (v := .int 1) (ty := .int) (C := R_Model) (T := F_Model) (N := 72) hx hb hts i_Model t_Model t_Model_ok n_Model hown hK.1 hP hD hS 0 rfl rfl 6 (by decide) (hts _ wd_1042) (fun _ h9 => h9) rfl (by decide +kernel) rfl rfl (Nat.le_of_ble_eq_true rfl) d_Model_next_196 (fun H_75 locs hP1 hD1 hS1 => ?_)
                    clear hP hD hS
                    have hS := hS1
                    have hW7 : (fun w9 : va_W => va_P D classes w9 H_75 ∧ va_D A w9) [(m0, .inr (11, [.int s_thrown, .int s_taped, .ref m1, .int (nI n), .int s_outSize, .ref m2, .int 1, .int (nI v0), .int (nI q), .int (nI (q + 1)), .int s_failed, .ref m3, .ref m4, .ref m5, .int s_isProgram, .int s_half, .ref m6, .ref m7, .ref m8, .ref m9, .ref m10, .ref m11, .ref m12, .ref m13, .ref m14, .ref m15, .ref m16, .ref m17, .ref m18, .ref m19, .ref m20, .int s_signs, .ref m21, .int s_stacked, .ref m22, .int s_name, .int s_shift, .int s_statements, .int s_ifs, .int s_whiles, .int s_variants, .int s_open, .ref m23, .int s_isMade, .int s_conditions, .ref m24, .ref m25, .ref m26, .ref m27, .int s_kept, .ref m28, .int s_tops, .ref m29, .int s_used, .ref m30, .ref m31, .int s_looked, .int s_rows, .int s_firstRow, .ref m32, .ref m33, .ref m34, .ref m35, .ref m36, .ref m37, .ref m38, .ref m39, .ref m40, .int s_isBroken, .ref m41, .int s_atoms, .ref m42])), (m1, .inl (ax 0, 400, .inl (fun j => nI (g j))))] := ⟨hP1, hD1⟩
                    obtain ⟨hP, hD⟩ := hW7
                    clear hP1 hD1 hS1
                    rw [← hQe]
                    obtain ⟨hP9, hD9⟩ := xw_sub2 (wc := (fun u : Nat → Nat => [(m0, .inr (11, [.int s_thrown, .int s_taped, .ref m1, .int (nI n), .int s_outSize, .ref m2, .int (nI (u 2)), .int (nI (u 3)), .int (nI (u 0)), .int (nI (u 1)), .int s_failed, .ref m3, .ref m4, .ref m5, .int s_isProgram, .int s_half, .ref m6, .ref m7, .ref m8, .ref m9, .ref m10, .ref m11, .ref m12, .ref m13, .ref m14, .ref m15, .ref m16, .ref m17, .ref m18, .ref m19, .ref m20, .int s_signs, .ref m21, .int s_stacked, .ref m22, .int s_name, .int s_shift, .int s_statements, .int s_ifs, .int s_whiles, .int s_variants, .int s_open, .ref m23, .int s_isMade, .int s_conditions, .ref m24, .ref m25, .ref m26, .ref m27, .int s_kept, .ref m28, .int s_tops, .ref m29, .int s_used, .ref m30, .ref m31, .int s_looked, .int s_rows, .int s_firstRow, .ref m32, .ref m33, .ref m34, .ref m35, .ref m36, .ref m37, .ref m38, .ref m39, .ref m40, .int s_isBroken, .ref m41, .int s_atoms, .ref m42])), (m1, .inl (ax 0, 400, .inl (fun j => nI (g j))))]) (ixn [q, (q + 1), 1, v0])) hP hD [0, 1] (by decide) rfl
                    have hsp0 : (q + 1) = tkE g n (nxB g n en) := (by rw [← hB2]; unfold tkE; (repeat' split); all_goals (first | rfl | assumption | (exfalso; omega) | omega))
                    have hsp1 : 1 = tkK g n (nxB g n en) := (by first | (rw [← hB2]; unfold tkK; rw [if_neg (by first | assumption | omega), if_neg (by first | assumption | omega), if_pos (by first | assumption | omega)]; assumption) | rw [← hB2]; unfold tkK; (repeat' split); all_goals (first | rfl | assumption | (exfalso; omega) | omega))
                    have hsp2 : v0 = tkV g n (nxB g n en) v0 := (by rw [← hB2]; unfold tkV; (repeat' split); all_goals (first | rfl | assumption | (exfalso; omega) | omega))
                    have hsp3 : q = nxB g n en := (by first | assumption | omega)
                    have hsp4 : en ≤ q := (by first | assumption | omega)
                    have hsp5 : q ≤ (q + 1) := (by first | assumption | omega)
                    have hsp6 : (q + 1) ≤ n := (by first | assumption | omega)
                    have hsp7 : tk0 (1) (q) ((q + 1)) := (by unfold tk0; omega)
                    have hsp8 : 1 < 10000 := (by first | assumption | omega)
                    have hsp9 : v0 < 20000 := (by first | assumption | omega)
                    have hsp10 : tkq g n (q) ((q + 1)) (1) (v0) := (tkq_of hsp0 hsp1 hsp2 hsp3 (by first | assumption | omega))
                    exact W.vret hx hb hr (fun t ht hW => ⟨⟨ixn [q, (q + 1), 1, v0], rfl, ⟨hsp0, hsp1, hsp2, hsp3, hsp4, hsp5, hsp6, hsp7, hsp8, hsp9, hsp10⟩, ⟨by rw [ht]; exact hP9, hD9⟩⟩, hS.F ht⟩) hS.2.2 d_Model_next_199
                  · replace c_74 : ((g q) = 60 ∨ (g q) = 62 ∨ (g q) = 61 ∨ (g q) = 35 ∨ (g q) = 38 ∨ (g q) = 124 ∨ (g q) = 33 ∨ (g q) = 40 ∨ (g q) = 41 ∨ (g q) = 123 ∨ (g q) = 125 ∨ (g q) = 59 ∨ (g q) = 43 ∨ (g q) = 45) := zb_y c_74
                    refine lv_sipush (v := 200) hx hb d_Model_next_187 (by decide) ?_
                    refine lv_iload_n hx hb d_Model_next_190 rfl (lv_at hl1 1 rfl) ?_
                    refine lv_iadd hx hb d_Model_next_191 ?_
                    refine lv_topi (fun z_76 ez_76 => ?_)
                    have ez_76 : z_76 = nI (200 + g q) := ez_76.trans (nI_add 200 (g q))
                    subst ez_76
                    refine lv_goto (tgt := 196) hx hb d_Model_next_192 (by decide) ?_
                    refine va_put (D := D) (ci := 11) (v := .int (nI (200 + g q))) (ty := .int) (C := R_Model) (T := F_Model) (N := 72) hx hb hts i_Model t_Model t_Model_ok n_Model hown hK.1 hP hD hS 0 rfl rfl 6 (by decide) (hts _ wd_1042) (fun _ h9 => h9) rfl (by decide +kernel) rfl rfl (Nat.le_of_ble_eq_true rfl) d_Model_next_196 (fun H_77 locs hP1 hD1 hS1 => ?_)
                    clear hP hD hS
                    have hS := hS1
                    have hW7 : (fun w9 : va_W => va_P D classes w9 H_77 ∧ va_D A w9) [(m0, .inr (11, [.int s_thrown, .int s_taped, .ref m1, .int (nI n), .int s_outSize, .ref m2, .int (nI (200 + g q)), .int (nI v0), .int (nI q), .int (nI (q + 1)), .int s_failed, .ref m3, .ref m4, .ref m5, .int s_isProgram, .int s_half, .ref m6, .ref m7, .ref m8, .ref m9, .ref m10, .ref m11, .ref m12, .ref m13, .ref m14, .ref m15, .ref m16, .ref m17, .ref m18, .ref m19, .ref m20, .int s_signs, .ref m21, .int s_stacked, .ref m22, .int s_name, .int s_shift, .int s_statements, .int s_ifs, .int s_whiles, .int s_variants, .int s_open, .ref m23, .int s_isMade, .int s_conditions, .ref m24, .ref m25, .ref m26, .ref m27, .int s_kept, .ref m28, .int s_tops, .ref m29, .int s_used, .ref m30, .ref m31, .int s_looked, .int s_rows, .int s_firstRow, .ref m32, .ref m33, .ref m34, .ref m35, .ref m36, .ref m37, .ref m38, .ref m39, .ref m40, .int s_isBroken, .ref m41, .int s_atoms, .ref m42])), (m1, .inl (ax 0, 400, .inl (fun j => nI (g j))))] := ⟨hP1, hD1⟩
                    obtain ⟨hP, hD⟩ := hW7
                    clear hP1 hD1 hS1
                    rw [← hQe]
                    obtain ⟨hP9, hD9⟩ := xw_sub2 (wc := (fun u : Nat → Nat => [(m0, .inr (11, [.int s_thrown, .int s_taped, .ref m1, .int (nI n), .int s_outSize, .ref m2, .int (nI (u 2)), .int (nI (u 3)), .int (nI (u 0)), .int (nI (u 1)), .int s_failed, .ref m3, .ref m4, .ref m5, .int s_isProgram, .int s_half, .ref m6, .ref m7, .ref m8, .ref m9, .ref m10, .ref m11, .ref m12, .ref m13, .ref m14, .ref m15, .ref m16, .ref m17, .ref m18, .ref m19, .ref m20, .int s_signs, .ref m21, .int s_stacked, .ref m22, .int s_name, .int s_shift, .int s_statements, .int s_ifs, .int s_whiles, .int s_variants, .int s_open, .ref m23, .int s_isMade, .int s_conditions, .ref m24, .ref m25, .ref m26, .ref m27, .int s_kept, .ref m28, .int s_tops, .ref m29, .int s_used, .ref m30, .ref m31, .int s_looked, .int s_rows, .int s_firstRow, .ref m32, .ref m33, .ref m34, .ref m35, .ref m36, .ref m37, .ref m38, .ref m39, .ref m40, .int s_isBroken, .ref m41, .int s_atoms, .ref m42])), (m1, .inl (ax 0, 400, .inl (fun j => nI (g j))))]) (ixn [q, (q + 1), (200 + g q), v0])) hP hD [0, 1] (by decide) rfl
                    have hsp0 : (q + 1) = tkE g n (nxB g n en) := (by rw [← hB2]; unfold tkE; (repeat' split); all_goals (first | rfl | assumption | (exfalso; omega) | omega))
                    have hsp1 : (200 + g q) = tkK g n (nxB g n en) := (by first | (rw [← hB2]; unfold tkK; rw [if_neg (by first | assumption | omega), if_neg (by first | assumption | omega), if_pos (by first | assumption | omega)]; assumption) | rw [← hB2]; unfold tkK; (repeat' split); all_goals (first | rfl | assumption | (exfalso; omega) | omega))
                    have hsp2 : v0 = tkV g n (nxB g n en) v0 := (by rw [← hB2]; unfold tkV; (repeat' split); all_goals (first | rfl | assumption | (exfalso; omega) | omega))
                    have hsp3 : q = nxB g n en := (by first | assumption | omega)
                    have hsp4 : en ≤ q := (by first | assumption | omega)
                    have hsp5 : q ≤ (q + 1) := (by first | assumption | omega)
                    have hsp6 : (q + 1) ≤ n := (by first | assumption | omega)
                    have hsp7 : tk0 ((200 + g q)) (q) ((q + 1)) := (by unfold tk0; omega)
                    have hsp8 : (200 + g q) < 10000 := (by first | assumption | omega)
                    have hsp9 : v0 < 20000 := (by first | assumption | omega)
                    have hsp10 : tkq g n (q) ((q + 1)) ((200 + g q)) (v0) := (tkq_of hsp0 hsp1 hsp2 hsp3 (by first | assumption | omega))
                    exact W.vret hx hb hr (fun t ht hW => ⟨⟨ixn [q, (q + 1), (200 + g q), v0], rfl, ⟨hsp0, hsp1, hsp2, hsp3, hsp4, hsp5, hsp6, hsp7, hsp8, hsp9, hsp10⟩, ⟨by rw [ht]; exact hP9, hD9⟩⟩, hS.F ht⟩) hS.2.2 d_Model_next_199
                · replace c_66 : g q = 62 := (nI_eq (a := g q) (b := 62) (by first | exact Nat.lt_of_lt_of_le (by assumption) (by decide) | exact Nat.lt_of_le_of_lt (by assumption) (by decide) | omega) (by decide)).mp c_66
                  refine lv_aload_n hx hb d_Model_next_123 rfl (lv_at hl1 1 rfl) ?_
                  refine lv_aload_n hx hb d_Model_next_124 rfl (lv_at hl1 1 rfl) ?_
                  refine va_get (D := D) (ci := 11) (v := .int (nI q)) (C := R_Model) (T := F_Model) (N := 72) hx hb hts i_Model hown hK.1 hP 0 rfl rfl 8 (by decide) (hts _ wd_1044) (fun _ h9 => h9) rfl d_Model_next_125 ?_
                  refine lv_iconst (v := 1) hx hb d_Model_next_128 (by decide) ?_
                  refine lv_iadd hx hb d_Model_next_129 ?_
                  refine lv_topi (fun z_78 ez_78 => ?_)
                  have ez_78 : z_78 = nI (q + 1) := ez_78.trans (nI_add q 1)
                  subst ez_78
                  obtain ⟨hPc, hDc, hFc, hCs⟩ := xw_sub3 (wc := [(m0, .inr (11, [.int s_thrown, .int s_taped, .ref m1, .int (nI n), .int s_outSize, .ref m2, .int s_kind, .int (nI v0), .int (nI q), .int (nI q), .int s_failed, .ref m3, .ref m4, .ref m5, .int s_isProgram, .int s_half, .ref m6, .ref m7, .ref m8, .ref m9, .ref m10, .ref m11, .ref m12, .ref m13, .ref m14, .ref m15, .ref m16, .ref m17, .ref m18, .ref m19, .ref m20, .int s_signs, .ref m21, .int s_stacked, .ref m22, .int s_name, .int s_shift, .int s_statements, .int s_ifs, .int s_whiles, .int s_variants, .int s_open, .ref m23, .int s_isMade, .int s_conditions, .ref m24, .ref m25, .ref m26, .ref m27, .int s_kept, .ref m28, .int s_tops, .ref m29, .int s_used, .ref m30, .ref m31, .int s_looked, .int s_rows, .int s_firstRow, .ref m32, .ref m33, .ref m34, .ref m35, .ref m36, .ref m37, .ref m38, .ref m39, .ref m40, .int s_isBroken, .ref m41, .int s_atoms, .ref m42])), (m1, .inl (ax 0, 400, .inl (fun j => nI (g j))))]) hP hD hS hA [0, 1] (by decide) rfl
                  have hz := xz_of hN hS
                  refine va_calli (va_runV (As := [.int (nI (q + 1))]) (rest := []) ⟨hx, hb, hml, hown, hts⟩ (c_M_byteAt l D ax m0 m1 m2 m3 m4 m5 m6 m7 m8 m9 m10 m11 m12 m13 m14 m15 m16 m17 m18 m19 m20 m21 m22 m23 m24 m25 m26 m27 m28 m29 m30 m31 m32 m33 m34 m35 m36 m37 m38 m39 m40 m41 m42 s_thrown s_taped s_outSize s_kind (nI v0) (nI q) (nI q) s_failed s_isProgram s_half s_signs s_stacked s_name s_shift s_statements s_ifs s_whiles s_variants s_open s_isMade s_conditions s_kept s_tops s_used s_looked s_rows s_firstRow s_isBroken s_atoms n (q + 1) g H_17.size hn (by first | assumption | omega)) (xcV (n := 1) hts wd_1282 wd_15 wd_1279 wd_1281 ps_52 rfl rfl (by decide +kernel) ⟨Nat.le_of_ble_eq_true rfl, Nat.le_of_ble_eq_true rfl⟩) (xpV (ci := 11) (q0 := 0) (As := [.int (nI (q + 1))]) hPc hK hz hDc rfl rfl) rfl rfl hl1.1 rfl (lv_room (Nat.le_of_ble_eq_true rfl)) d_Model_next_130 ⟨Nat.le_of_ble_eq_true rfl, Nat.le_of_ble_eq_true rfl⟩) hS (fun q _ h => hFc q h) hFc (fun r_81 u_79 t H_80 locs ht hvm hw hB hz1 hk1 hS1 => ?_)
                  try dsimp only at hw
                  subst hw
                  obtain ⟨hP1, hD1⟩ := hB
                  rw [ht] at hP1
                  have hjn := xw_join3 (wl := [(m0, .inr (11, [.int s_thrown, .int s_taped, .ref m1, .int (nI n), .int s_outSize, .ref m2, .int s_kind, .int (nI v0), .int (nI q), .int (nI q), .int s_failed, .ref m3, .ref m4, .ref m5, .int s_isProgram, .int s_half, .ref m6, .ref m7, .ref m8, .ref m9, .ref m10, .ref m11, .ref m12, .ref m13, .ref m14, .ref m15, .ref m16, .ref m17, .ref m18, .ref m19, .ref m20, .int s_signs, .ref m21, .int s_stacked, .ref m22, .int s_name, .int s_shift, .int s_statements, .int s_ifs, .int s_whiles, .int s_variants, .int s_open, .ref m23, .int s_isMade, .int s_conditions, .ref m24, .ref m25, .ref m26, .ref m27, .int s_kept, .ref m28, .int s_tops, .ref m29, .int s_used, .ref m30, .ref m31, .int s_looked, .int s_rows, .int s_firstRow, .ref m32, .ref m33, .ref m34, .ref m35, .ref m36, .ref m37, .ref m38, .ref m39, .ref m40, .int s_isBroken, .ref m41, .int s_atoms, .ref m42])), (m1, .inl (ax 0, 400, .inl (fun j => nI (g j))))]) hP hD [0, 1] [] hCs (by decide) (by decide) hk1 hFc hP1 hD1 rfl
                  clear hP1 hD1
                  clear hPc hDc hFc hCs hz hz1 hk1 ht hvm
                  clear hP hD hS
                  have hS := hS1
                  obtain ⟨hP, hD⟩ := hjn
                  clear hS1
                  refine lv_bipush (v := 61) hx hb d_Model_next_133 (by decide) ?_
                  refine lv_icmp_ne (tgt := 142) hx hb d_Model_next_135 (by decide) (fun c_82 => ?_) (fun c_82 => ?_)
                  · replace c_82 : ¬ bt g n (q + 1) = 61 := fun hq9 => c_82 ((nI_eq (a := bt g n (q + 1)) (b := 61) (by first | exact Nat.lt_of_lt_of_le (by assumption) (by decide) | exact Nat.lt_of_le_of_lt (by assumption) (by decide) | omega) (by decide)).mpr hq9)
                    refine lv_iconst (v := 0) hx hb d_Model_next_142 (by decide) ?_
                    refine lv_istore_n (lv' := [(2, .int 0), (1, .int (nI (g q))), (0, .ref m0)]) hx hb d_Model_next_143 rfl hl1 (by decide) rfl (fun ls hl2 => ?_)
                    clear hl1; have hl1 := hl2; clear hl2
                    refine lv_aload_n hx hb d_Model_next_144 rfl (lv_at hl1 2 rfl) ?_
                    refine lv_iload_n hx hb d_Model_next_145 rfl (lv_at hl1 0 rfl) ?_
                    refine lv_if_eq (tgt := 158) hx hb d_Model_next_146 (by decide) (fun c_83 => ?_) (fun c_83 => ?_)
                    rotate_left
                    · first | exact absurd c_83 (by decide) | exact absurd (by decide) c_83
                    refine lv_aload_n hx hb d_Model_next_158 rfl (lv_at hl1 2 rfl) ?_
                    refine va_get (D := D) (ci := 11) (v := .int (nI q)) (C := R_Model) (T := F_Model) (N := 72) hx hb hts i_Model hown hK.1 hP 0 rfl rfl 8 (by decide) (hts _ wd_1044) (fun _ h9 => h9) rfl d_Model_next_159 ?_
                    refine lv_iconst (v := 1) hx hb d_Model_next_162 (by decide) ?_
                    refine lv_iadd hx hb d_Model_next_163 ?_
                    refine lv_topi (fun z_84 ez_84 => ?_)
                    have ez_84 : z_84 = nI (q + 1) := ez_84.trans (nI_add q 1)
                    subst ez_84
                    refine va_put (D := D) (ci := 11) (v := .int (nI (q + 1))) (ty := .int) (C := R_Model) (T := F_Model) (N := 72) hx hb hts i_Model t_Model t_Model_ok n_Model hown hK.1 hP hD hS 0 rfl rfl 9 (by decide) (hts _ wd_1045) (fun _ h9 => h9) rfl (by decide +kernel) rfl rfl (Nat.le_of_ble_eq_true rfl) d_Model_next_164 (fun H_85 locs hP1 hD1 hS1 => ?_)
                    clear hP hD hS
                    have hS := hS1
                    have hW7 : (fun w9 : va_W => va_P D classes w9 H_85 ∧ va_D A w9) [(m0, .inr (11, [.int s_thrown, .int s_taped, .ref m1, .int (nI n), .int s_outSize, .ref m2, .int s_kind, .int (nI v0), .int (nI q), .int (nI (q + 1)), .int s_failed, .ref m3, .ref m4, .ref m5, .int s_isProgram, .int s_half, .ref m6, .ref m7, .ref m8, .ref m9, .ref m10, .ref m11, .ref m12, .ref m13, .ref m14, .ref m15, .ref m16, .ref m17, .ref m18, .ref m19, .ref m20, .int s_signs, .ref m21, .int s_stacked, .ref m22, .int s_name, .int s_shift, .int s_statements, .int s_ifs, .int s_whiles, .int s_variants, .int s_open, .ref m23, .int s_isMade, .int s_conditions, .ref m24, .ref m25, .ref m26, .ref m27, .int s_kept, .ref m28, .int s_tops, .ref m29, .int s_used, .ref m30, .ref m31, .int s_looked, .int s_rows, .int s_firstRow, .ref m32, .ref m33, .ref m34, .ref m35, .ref m36, .ref m37, .ref m38, .ref m39, .ref m40, .int s_isBroken, .ref m41, .int s_atoms, .ref m42])), (m1, .inl (ax 0, 400, .inl (fun j => nI (g j))))] := ⟨hP1, hD1⟩
                    obtain ⟨hP, hD⟩ := hW7
                    clear hP1 hD1 hS1
                    refine lv_aload_n hx hb d_Model_next_167 rfl (lv_at hl1 2 rfl) ?_
                    refine lv_iload_n hx hb d_Model_next_168 rfl (lv_at hl1 0 rfl) ?_
                    refine lv_if_eq (tgt := 180) hx hb d_Model_next_169 (by decide) (fun c_86 => ?_) (fun c_86 => ?_)
                    rotate_left
                    · first | exact absurd c_86 (by decide) | exact absurd (by decide) c_86
                    refine lv_iload_n hx hb d_Model_next_180 rfl (lv_at hl1 1 rfl) ?_
                    obtain ⟨hPc, hDc, hFc, hCs⟩ := xw_sub3 (wc := []) hP hD hS hA [] (by decide) rfl
                    have hz := xz_of hN hS
                    refine va_calli (va_runS (As := [.int (nI (g q))]) (rest := [.ref m0]) ⟨hx, hb, hml, hown, hts⟩ (c_M_isSign l D ax (g q) H_85.size (hg _)) (xcS (n := 1) hts wd_1307 wd_15 wd_1305 wd_1306 rfl rfl (by decide +kernel) ⟨Nat.le_of_ble_eq_true rfl, Nat.le_of_ble_eq_true rfl⟩) (xpS (As := [.int (nI (g q))]) hPc hK hz hDc) rfl rfl hl1.1 rfl (lv_room (Nat.le_of_ble_eq_true rfl)) d_Model_next_181 ⟨Nat.le_of_ble_eq_true rfl, Nat.le_of_ble_eq_true rfl⟩) hS (fun q _ h => hFc q h) hFc (fun r_89 u_87 t H_88 locs ht hvm hw hB hz1 hk1 hS1 => ?_)
                    try dsimp only at hw
                    subst hw
                    obtain ⟨hP1, hD1⟩ := hB
                    rw [ht] at hP1
                    have hjn := xw_join3 (wl := [(m0, .inr (11, [.int s_thrown, .int s_taped, .ref m1, .int (nI n), .int s_outSize, .ref m2, .int s_kind, .int (nI v0), .int (nI q), .int (nI (q + 1)), .int s_failed, .ref m3, .ref m4, .ref m5, .int s_isProgram, .int s_half, .ref m6, .ref m7, .ref m8, .ref m9, .ref m10, .ref m11, .ref m12, .ref m13, .ref m14, .ref m15, .ref m16, .ref m17, .ref m18, .ref m19, .ref m20, .int s_signs, .ref m21, .int s_stacked, .ref m22, .int s_name, .int s_shift, .int s_statements, .int s_ifs, .int s_whiles, .int s_variants, .int s_open, .ref m23, .int s_isMade, .int s_conditions, .ref m24, .ref m25, .ref m26, .ref m27, .int s_kept, .ref m28, .int s_tops, .ref m29, .int s_used, .ref m30, .ref m31, .int s_looked, .int s_rows, .int s_firstRow, .ref m32, .ref m33, .ref m34, .ref m35, .ref m36, .ref m37, .ref m38, .ref m39, .ref m40, .int s_isBroken, .ref m41, .int s_atoms, .ref m42])), (m1, .inl (ax 0, 400, .inl (fun j => nI (g j))))]) hP hD [] [0, 1] hCs (by decide) (by decide) hk1 hFc hP1 hD1 rfl
                    clear hP1 hD1
                    clear hPc hDc hFc hCs hz hz1 hk1 ht hvm
                    clear hP hD hS
                    have hS := hS1
                    obtain ⟨hP, hD⟩ := hjn
                    clear hS1
                    refine lv_if_eq (tgt := 195) hx hb d_Model_next_184 (by decide) (fun c_90 => ?_) (fun c_90 => ?_)
                    · replace c_90 : ¬ ((g q) = 60 ∨ (g q) = 62 ∨ (g q) = 61 ∨ (g q) = 35 ∨ (g q) = 38 ∨ (g q) = 124 ∨ (g q) = 33 ∨ (g q) = 40 ∨ (g q) = 41 ∨ (g q) = 123 ∨ (g q) = 125 ∨ (g q) = 59 ∨ (g q) = 43 ∨ (g q) = 45) := zb_n c_90
                      refine lv_iconst (v := 1) hx hb d_Model_next_195 (by decide) ?_
                      refine va_put (D := D) (ci := 11) (v := .int 1) (ty := .int) (C := R_Model) (T := F_Model) (N := 72) hx hb hts i_Model t_Model t_Model_ok n_Model hown hK.1 hP hD hS 0 rfl rfl 6 (by decide) (hts _ wd_1042) (fun _ h9 => h9) rfl (by decide +kernel) rfl rfl (Nat.le_of_ble_eq_true rfl) d_Model_next_196 (fun H_91 locs hP1 hD1 hS1 => ?_)
                      clear hP hD hS
                      have hS := hS1
                      have hW7 : (fun w9 : va_W => va_P D classes w9 H_91 ∧ va_D A w9) [(m0, .inr (11, [.int s_thrown, .int s_taped, .ref m1, .int (nI n), .int s_outSize, .ref m2, .int 1, .int (nI v0), .int (nI q), .int (nI (q + 1)), .int s_failed, .ref m3, .ref m4, .ref m5, .int s_isProgram, .int s_half, .ref m6, .ref m7, .ref m8, .ref m9, .ref m10, .ref m11, .ref m12, .ref m13, .ref m14, .ref m15, .ref m16, .ref m17, .ref m18, .ref m19, .ref m20, .int s_signs, .ref m21, .int s_stacked, .ref m22, .int s_name, .int s_shift, .int s_statements, .int s_ifs, .int s_whiles, .int s_variants, .int s_open, .ref m23, .int s_isMade, .int s_conditions, .ref m24, .ref m25, .ref m26, .ref m27, .int s_kept, .ref m28, .int s_tops, .ref m29, .int s_used, .ref m30, .ref m31, .int s_looked, .int s_rows, .int s_firstRow, .ref m32, .ref m33, .ref m34, .ref m35, .ref m36, .ref m37, .ref m38, .ref m39, .ref m40, .int s_isBroken, .ref m41, .int s_atoms, .ref m42])), (m1, .inl (ax 0, 400, .inl (fun j => nI (g j))))] := ⟨hP1, hD1⟩
                      obtain ⟨hP, hD⟩ := hW7
                      clear hP1 hD1 hS1
                      rw [← hQe]
                      obtain ⟨hP9, hD9⟩ := xw_sub2 (wc := (fun u : Nat → Nat => [(m0, .inr (11, [.int s_thrown, .int s_taped, .ref m1, .int (nI n), .int s_outSize, .ref m2, .int (nI (u 2)), .int (nI (u 3)), .int (nI (u 0)), .int (nI (u 1)), .int s_failed, .ref m3, .ref m4, .ref m5, .int s_isProgram, .int s_half, .ref m6, .ref m7, .ref m8, .ref m9, .ref m10, .ref m11, .ref m12, .ref m13, .ref m14, .ref m15, .ref m16, .ref m17, .ref m18, .ref m19, .ref m20, .int s_signs, .ref m21, .int s_stacked, .ref m22, .int s_name, .int s_shift, .int s_statements, .int s_ifs, .int s_whiles, .int s_variants, .int s_open, .ref m23, .int s_isMade, .int s_conditions, .ref m24, .ref m25, .ref m26, .ref m27, .int s_kept, .ref m28, .int s_tops, .ref m29, .int s_used, .ref m30, .ref m31, .int s_looked, .int s_rows, .int s_firstRow, .ref m32, .ref m33, .ref m34, .ref m35, .ref m36, .ref m37, .ref m38, .ref m39, .ref m40, .int s_isBroken, .ref m41, .int s_atoms, .ref m42])), (m1, .inl (ax 0, 400, .inl (fun j => nI (g j))))]) (ixn [q, (q + 1), 1, v0])) hP hD [0, 1] (by decide) rfl
                      have hsp0 : (q + 1) = tkE g n (nxB g n en) := (by rw [← hB2]; unfold tkE; (repeat' split); all_goals (first | rfl | assumption | (exfalso; omega) | omega))
                      have hsp1 : 1 = tkK g n (nxB g n en) := (by first | (rw [← hB2]; unfold tkK; rw [if_neg (by first | assumption | omega), if_neg (by first | assumption | omega), if_pos (by first | assumption | omega)]; assumption) | rw [← hB2]; unfold tkK; (repeat' split); all_goals (first | rfl | assumption | (exfalso; omega) | omega))
                      have hsp2 : v0 = tkV g n (nxB g n en) v0 := (by rw [← hB2]; unfold tkV; (repeat' split); all_goals (first | rfl | assumption | (exfalso; omega) | omega))
                      have hsp3 : q = nxB g n en := (by first | assumption | omega)
                      have hsp4 : en ≤ q := (by first | assumption | omega)
                      have hsp5 : q ≤ (q + 1) := (by first | assumption | omega)
                      have hsp6 : (q + 1) ≤ n := (by first | assumption | omega)
                      have hsp7 : tk0 (1) (q) ((q + 1)) := (by unfold tk0; omega)
                      have hsp8 : 1 < 10000 := (by first | assumption | omega)
                      have hsp9 : v0 < 20000 := (by first | assumption | omega)
                      have hsp10 : tkq g n (q) ((q + 1)) (1) (v0) := (tkq_of hsp0 hsp1 hsp2 hsp3 (by first | assumption | omega))
                      exact W.vret hx hb hr (fun t ht hW => ⟨⟨ixn [q, (q + 1), 1, v0], rfl, ⟨hsp0, hsp1, hsp2, hsp3, hsp4, hsp5, hsp6, hsp7, hsp8, hsp9, hsp10⟩, ⟨by rw [ht]; exact hP9, hD9⟩⟩, hS.F ht⟩) hS.2.2 d_Model_next_199
                    · replace c_90 : ((g q) = 60 ∨ (g q) = 62 ∨ (g q) = 61 ∨ (g q) = 35 ∨ (g q) = 38 ∨ (g q) = 124 ∨ (g q) = 33 ∨ (g q) = 40 ∨ (g q) = 41 ∨ (g q) = 123 ∨ (g q) = 125 ∨ (g q) = 59 ∨ (g q) = 43 ∨ (g q) = 45) := zb_y c_90
                      refine lv_sipush (v := 200) hx hb d_Model_next_187 (by decide) ?_
                      refine lv_iload_n hx hb d_Model_next_190 rfl (lv_at hl1 1 rfl) ?_
                      refine lv_iadd hx hb d_Model_next_191 ?_
                      refine lv_topi (fun z_92 ez_92 => ?_)
                      have ez_92 : z_92 = nI (200 + g q) := ez_92.trans (nI_add 200 (g q))
                      subst ez_92
                      refine lv_goto (tgt := 196) hx hb d_Model_next_192 (by decide) ?_
                      refine va_put (D := D) (ci := 11) (v := .int (nI (200 + g q))) (ty := .int) (C := R_Model) (T := F_Model) (N := 72) hx hb hts i_Model t_Model t_Model_ok n_Model hown hK.1 hP hD hS 0 rfl rfl 6 (by decide) (hts _ wd_1042) (fun _ h9 => h9) rfl (by decide +kernel) rfl rfl (Nat.le_of_ble_eq_true rfl) d_Model_next_196 (fun H_93 locs hP1 hD1 hS1 => ?_)
                      clear hP hD hS
                      have hS := hS1
                      have hW7 : (fun w9 : va_W => va_P D classes w9 H_93 ∧ va_D A w9) [(m0, .inr (11, [.int s_thrown, .int s_taped, .ref m1, .int (nI n), .int s_outSize, .ref m2, .int (nI (200 + g q)), .int (nI v0), .int (nI q), .int (nI (q + 1)), .int s_failed, .ref m3, .ref m4, .ref m5, .int s_isProgram, .int s_half, .ref m6, .ref m7, .ref m8, .ref m9, .ref m10, .ref m11, .ref m12, .ref m13, .ref m14, .ref m15, .ref m16, .ref m17, .ref m18, .ref m19, .ref m20, .int s_signs, .ref m21, .int s_stacked, .ref m22, .int s_name, .int s_shift, .int s_statements, .int s_ifs, .int s_whiles, .int s_variants, .int s_open, .ref m23, .int s_isMade, .int s_conditions, .ref m24, .ref m25, .ref m26, .ref m27, .int s_kept, .ref m28, .int s_tops, .ref m29, .int s_used, .ref m30, .ref m31, .int s_looked, .int s_rows, .int s_firstRow, .ref m32, .ref m33, .ref m34, .ref m35, .ref m36, .ref m37, .ref m38, .ref m39, .ref m40, .int s_isBroken, .ref m41, .int s_atoms, .ref m42])), (m1, .inl (ax 0, 400, .inl (fun j => nI (g j))))] := ⟨hP1, hD1⟩
                      obtain ⟨hP, hD⟩ := hW7
                      clear hP1 hD1 hS1
                      rw [← hQe]
                      obtain ⟨hP9, hD9⟩ := xw_sub2 (wc := (fun u : Nat → Nat => [(m0, .inr (11, [.int s_thrown, .int s_taped, .ref m1, .int (nI n), .int s_outSize, .ref m2, .int (nI (u 2)), .int (nI (u 3)), .int (nI (u 0)), .int (nI (u 1)), .int s_failed, .ref m3, .ref m4, .ref m5, .int s_isProgram, .int s_half, .ref m6, .ref m7, .ref m8, .ref m9, .ref m10, .ref m11, .ref m12, .ref m13, .ref m14, .ref m15, .ref m16, .ref m17, .ref m18, .ref m19, .ref m20, .int s_signs, .ref m21, .int s_stacked, .ref m22, .int s_name, .int s_shift, .int s_statements, .int s_ifs, .int s_whiles, .int s_variants, .int s_open, .ref m23, .int s_isMade, .int s_conditions, .ref m24, .ref m25, .ref m26, .ref m27, .int s_kept, .ref m28, .int s_tops, .ref m29, .int s_used, .ref m30, .ref m31, .int s_looked, .int s_rows, .int s_firstRow, .ref m32, .ref m33, .ref m34, .ref m35, .ref m36, .ref m37, .ref m38, .ref m39, .ref m40, .int s_isBroken, .ref m41, .int s_atoms, .ref m42])), (m1, .inl (ax 0, 400, .inl (fun j => nI (g j))))]) (ixn [q, (q + 1), (200 + g q), v0])) hP hD [0, 1] (by decide) rfl
                      have hsp0 : (q + 1) = tkE g n (nxB g n en) := (by rw [← hB2]; unfold tkE; (repeat' split); all_goals (first | rfl | assumption | (exfalso; omega) | omega))
                      have hsp1 : (200 + g q) = tkK g n (nxB g n en) := (by first | (rw [← hB2]; unfold tkK; rw [if_neg (by first | assumption | omega), if_neg (by first | assumption | omega), if_pos (by first | assumption | omega)]; assumption) | rw [← hB2]; unfold tkK; (repeat' split); all_goals (first | rfl | assumption | (exfalso; omega) | omega))
                      have hsp2 : v0 = tkV g n (nxB g n en) v0 := (by rw [← hB2]; unfold tkV; (repeat' split); all_goals (first | rfl | assumption | (exfalso; omega) | omega))
                      have hsp3 : q = nxB g n en := (by first | assumption | omega)
                      have hsp4 : en ≤ q := (by first | assumption | omega)
                      have hsp5 : q ≤ (q + 1) := (by first | assumption | omega)
                      have hsp6 : (q + 1) ≤ n := (by first | assumption | omega)
                      have hsp7 : tk0 ((200 + g q)) (q) ((q + 1)) := (by unfold tk0; omega)
                      have hsp8 : (200 + g q) < 10000 := (by first | assumption | omega)
                      have hsp9 : v0 < 20000 := (by first | assumption | omega)
                      have hsp10 : tkq g n (q) ((q + 1)) ((200 + g q)) (v0) := (tkq_of hsp0 hsp1 hsp2 hsp3 (by first | assumption | omega))
                      exact W.vret hx hb hr (fun t ht hW => ⟨⟨ixn [q, (q + 1), (200 + g q), v0], rfl, ⟨hsp0, hsp1, hsp2, hsp3, hsp4, hsp5, hsp6, hsp7, hsp8, hsp9, hsp10⟩, ⟨by rw [ht]; exact hP9, hD9⟩⟩, hS.F ht⟩) hS.2.2 d_Model_next_199
                  · replace c_82 : bt g n (q + 1) = 61 := (nI_eq (a := bt g n (q + 1)) (b := 61) (by first | exact Nat.lt_of_lt_of_le (by assumption) (by decide) | exact Nat.lt_of_le_of_lt (by assumption) (by decide) | omega) (by decide)).mp c_82
                    refine lv_iconst (v := 1) hx hb d_Model_next_138 (by decide) ?_
                    refine lv_goto (tgt := 143) hx hb d_Model_next_139 (by decide) ?_
                    refine lv_istore_n (lv' := [(2, .int 1), (1, .int (nI (g q))), (0, .ref m0)]) hx hb d_Model_next_143 rfl hl1 (by decide) rfl (fun ls hl2 => ?_)
                    clear hl1; have hl1 := hl2; clear hl2
                    refine lv_aload_n hx hb d_Model_next_144 rfl (lv_at hl1 2 rfl) ?_
                    refine lv_iload_n hx hb d_Model_next_145 rfl (lv_at hl1 0 rfl) ?_
                    refine lv_if_eq (tgt := 158) hx hb d_Model_next_146 (by decide) (fun c_94 => ?_) (fun c_94 => ?_)
                    · first | exact absurd c_94 (by decide) | exact absurd (by decide) c_94
                    refine lv_aload_n hx hb d_Model_next_149 rfl (lv_at hl1 2 rfl) ?_
                    refine va_get (D := D) (ci := 11) (v := .int (nI q)) (C := R_Model) (T := F_Model) (N := 72) hx hb hts i_Model hown hK.1 hP 0 rfl rfl 8 (by decide) (hts _ wd_1044) (fun _ h9 => h9) rfl d_Model_next_150 ?_
                    refine lv_iconst (v := 2) hx hb d_Model_next_153 (by decide) ?_
                    refine lv_iadd hx hb d_Model_next_154 ?_
                    refine lv_topi (fun z_95 ez_95 => ?_)
                    have ez_95 : z_95 = nI (q + 2) := ez_95.trans (nI_add q 2)
                    subst ez_95
                    refine lv_goto (tgt := 164) hx hb d_Model_next_155 (by decide) ?_
                    refine va_put (D := D) (ci := 11) (v := .int (nI (q + 2))) (ty := .int) (C := R_Model) (T := F_Model) (N := 72) hx hb hts i_Model t_Model t_Model_ok n_Model hown hK.1 hP hD hS 0 rfl rfl 9 (by decide) (hts _ wd_1045) (fun _ h9 => h9) rfl (by decide +kernel) rfl rfl (Nat.le_of_ble_eq_true rfl) d_Model_next_164 (fun H_96 locs hP1 hD1 hS1 => ?_)
                    clear hP hD hS
                    have hS := hS1
                    have hW7 : (fun w9 : va_W => va_P D classes w9 H_96 ∧ va_D A w9) [(m0, .inr (11, [.int s_thrown, .int s_taped, .ref m1, .int (nI n), .int s_outSize, .ref m2, .int s_kind, .int (nI v0), .int (nI q), .int (nI (q + 2)), .int s_failed, .ref m3, .ref m4, .ref m5, .int s_isProgram, .int s_half, .ref m6, .ref m7, .ref m8, .ref m9, .ref m10, .ref m11, .ref m12, .ref m13, .ref m14, .ref m15, .ref m16, .ref m17, .ref m18, .ref m19, .ref m20, .int s_signs, .ref m21, .int s_stacked, .ref m22, .int s_name, .int s_shift, .int s_statements, .int s_ifs, .int s_whiles, .int s_variants, .int s_open, .ref m23, .int s_isMade, .int s_conditions, .ref m24, .ref m25, .ref m26, .ref m27, .int s_kept, .ref m28, .int s_tops, .ref m29, .int s_used, .ref m30, .ref m31, .int s_looked, .int s_rows, .int s_firstRow, .ref m32, .ref m33, .ref m34, .ref m35, .ref m36, .ref m37, .ref m38, .ref m39, .ref m40, .int s_isBroken, .ref m41, .int s_atoms, .ref m42])), (m1, .inl (ax 0, 400, .inl (fun j => nI (g j))))] := ⟨hP1, hD1⟩
                    obtain ⟨hP, hD⟩ := hW7
                    clear hP1 hD1 hS1
                    refine lv_aload_n hx hb d_Model_next_167 rfl (lv_at hl1 2 rfl) ?_
                    refine lv_iload_n hx hb d_Model_next_168 rfl (lv_at hl1 0 rfl) ?_
                    refine lv_if_eq (tgt := 180) hx hb d_Model_next_169 (by decide) (fun c_97 => ?_) (fun c_97 => ?_)
                    · first | exact absurd c_97 (by decide) | exact absurd (by decide) c_97
                    refine lv_sipush (v := 700) hx hb d_Model_next_172 (by decide) ?_
                    refine lv_iload_n hx hb d_Model_next_175 rfl (lv_at hl1 1 rfl) ?_
                    refine lv_iadd hx hb d_Model_next_176 ?_
                    refine lv_topi (fun z_98 ez_98 => ?_)
                    have ez_98 : z_98 = nI (700 + g q) := ez_98.trans (nI_add 700 (g q))
                    subst ez_98
                    refine lv_goto (tgt := 196) hx hb d_Model_next_177 (by decide) ?_
                    refine va_put (D := D) (ci := 11) (v := .int (nI (700 + g q))) (ty := .int) (C := R_Model) (T := F_Model) (N := 72) hx hb hts i_Model t_Model t_Model_ok n_Model hown hK.1 hP hD hS 0 rfl rfl 6 (by decide) (hts _ wd_1042) (fun _ h9 => h9) rfl (by decide +kernel) rfl rfl (Nat.le_of_ble_eq_true rfl) d_Model_next_196 (fun H_99 locs hP1 hD1 hS1 => ?_)
                    clear hP hD hS
                    have hS := hS1
                    have hW7 : (fun w9 : va_W => va_P D classes w9 H_99 ∧ va_D A w9) [(m0, .inr (11, [.int s_thrown, .int s_taped, .ref m1, .int (nI n), .int s_outSize, .ref m2, .int (nI (700 + g q)), .int (nI v0), .int (nI q), .int (nI (q + 2)), .int s_failed, .ref m3, .ref m4, .ref m5, .int s_isProgram, .int s_half, .ref m6, .ref m7, .ref m8, .ref m9, .ref m10, .ref m11, .ref m12, .ref m13, .ref m14, .ref m15, .ref m16, .ref m17, .ref m18, .ref m19, .ref m20, .int s_signs, .ref m21, .int s_stacked, .ref m22, .int s_name, .int s_shift, .int s_statements, .int s_ifs, .int s_whiles, .int s_variants, .int s_open, .ref m23, .int s_isMade, .int s_conditions, .ref m24, .ref m25, .ref m26, .ref m27, .int s_kept, .ref m28, .int s_tops, .ref m29, .int s_used, .ref m30, .ref m31, .int s_looked, .int s_rows, .int s_firstRow, .ref m32, .ref m33, .ref m34, .ref m35, .ref m36, .ref m37, .ref m38, .ref m39, .ref m40, .int s_isBroken, .ref m41, .int s_atoms, .ref m42])), (m1, .inl (ax 0, 400, .inl (fun j => nI (g j))))] := ⟨hP1, hD1⟩
                    obtain ⟨hP, hD⟩ := hW7
                    clear hP1 hD1 hS1
                    rw [← hQe]
                    obtain ⟨hP9, hD9⟩ := xw_sub2 (wc := (fun u : Nat → Nat => [(m0, .inr (11, [.int s_thrown, .int s_taped, .ref m1, .int (nI n), .int s_outSize, .ref m2, .int (nI (u 2)), .int (nI (u 3)), .int (nI (u 0)), .int (nI (u 1)), .int s_failed, .ref m3, .ref m4, .ref m5, .int s_isProgram, .int s_half, .ref m6, .ref m7, .ref m8, .ref m9, .ref m10, .ref m11, .ref m12, .ref m13, .ref m14, .ref m15, .ref m16, .ref m17, .ref m18, .ref m19, .ref m20, .int s_signs, .ref m21, .int s_stacked, .ref m22, .int s_name, .int s_shift, .int s_statements, .int s_ifs, .int s_whiles, .int s_variants, .int s_open, .ref m23, .int s_isMade, .int s_conditions, .ref m24, .ref m25, .ref m26, .ref m27, .int s_kept, .ref m28, .int s_tops, .ref m29, .int s_used, .ref m30, .ref m31, .int s_looked, .int s_rows, .int s_firstRow, .ref m32, .ref m33, .ref m34, .ref m35, .ref m36, .ref m37, .ref m38, .ref m39, .ref m40, .int s_isBroken, .ref m41, .int s_atoms, .ref m42])), (m1, .inl (ax 0, 400, .inl (fun j => nI (g j))))]) (ixn [q, (q + 2), (700 + g q), v0])) hP hD [0, 1] (by decide) rfl
                    have hsp0 : (q + 2) = tkE g n (nxB g n en) := (by rw [← hB2]; unfold tkE; (repeat' split); all_goals (first | rfl | assumption | (exfalso; omega) | omega))
                    have hsp1 : (700 + g q) = tkK g n (nxB g n en) := (by first | (rw [← hB2]; unfold tkK; rw [if_neg (by first | assumption | omega), if_neg (by first | assumption | omega), if_pos (by first | assumption | omega)]; assumption) | rw [← hB2]; unfold tkK; (repeat' split); all_goals (first | rfl | assumption | (exfalso; omega) | omega))
                    have hsp2 : v0 = tkV g n (nxB g n en) v0 := (by rw [← hB2]; unfold tkV; (repeat' split); all_goals (first | rfl | assumption | (exfalso; omega) | omega))
                    have hsp3 : q = nxB g n en := (by first | assumption | omega)
                    have hsp4 : en ≤ q := (by first | assumption | omega)
                    have hsp5 : q ≤ (q + 2) := (by first | assumption | omega)
                    have hsp6 : (q + 2) ≤ n := (by first | assumption | omega)
                    have hsp7 : tk0 ((700 + g q)) (q) ((q + 2)) := (by unfold tk0; omega)
                    have hsp8 : (700 + g q) < 10000 := (by first | assumption | omega)
                    have hsp9 : v0 < 20000 := (by first | assumption | omega)
                    have hsp10 : tkq g n (q) ((q + 2)) ((700 + g q)) (v0) := (tkq_of hsp0 hsp1 hsp2 hsp3 (by first | assumption | omega))
                    exact W.vret hx hb hr (fun t ht hW => ⟨⟨ixn [q, (q + 2), (700 + g q), v0], rfl, ⟨hsp0, hsp1, hsp2, hsp3, hsp4, hsp5, hsp6, hsp7, hsp8, hsp9, hsp10⟩, ⟨by rw [ht]; exact hP9, hD9⟩⟩, hS.F ht⟩) hS.2.2 d_Model_next_199
          · replace c_19 : (48 ≤ (g q) ∧ (g q) ≤ 57) := zb_y c_19
            refine lv_aload_n hx hb d_Model_next_98 rfl (lv_at hl1 1 rfl) ?_
            obtain ⟨hPc, hDc, hFc, hCs⟩ := xw_sub3 (wc := [(m0, .inr (11, [.int s_thrown, .int s_taped, .ref m1, .int (nI n), .int s_outSize, .ref m2, .int s_kind, .int (nI v0), .int (nI q), .int (nI q), .int s_failed, .ref m3, .ref m4, .ref m5, .int s_isProgram, .int s_half, .ref m6, .ref m7, .ref m8, .ref m9, .ref m10, .ref m11, .ref m12, .ref m13, .ref m14, .ref m15, .ref m16, .ref m17, .ref m18, .ref m19, .ref m20, .int s_signs, .ref m21, .int s_stacked, .ref m22, .int s_name, .int s_shift, .int s_statements, .int s_ifs, .int s_whiles, .int s_variants, .int s_open, .ref m23, .int s_isMade, .int s_conditions, .ref m24, .ref m25, .ref m26, .ref m27, .int s_kept, .ref m28, .int s_tops, .ref m29, .int s_used, .ref m30, .ref m31, .int s_looked, .int s_rows, .int s_firstRow, .ref m32, .ref m33, .ref m34, .ref m35, .ref m36, .ref m37, .ref m38, .ref m39, .ref m40, .int s_isBroken, .ref m41, .int s_atoms, .ref m42])), (m1, .inl (ax 0, 400, .inl (fun j => nI (g j))))]) hP hD hS hA [0, 1] (by decide) rfl
            have hz := xz_of hN hS
            refine va_callv (va_runV (As := []) (rest := []) ⟨hx, hb, hml, hown, hts⟩ (c_M_readNumber l D ax m0 m1 m2 m3 m4 m5 m6 m7 m8 m9 m10 m11 m12 m13 m14 m15 m16 m17 m18 m19 m20 m21 m22 m23 m24 m25 m26 m27 m28 m29 m30 m31 m32 m33 m34 m35 m36 m37 m38 m39 m40 m41 m42 s_thrown s_taped s_outSize s_kind (nI v0) s_failed s_isProgram s_half s_signs s_stacked s_name s_shift s_statements s_ifs s_whiles s_variants s_open s_isMade s_conditions s_kept s_tops s_used s_looked s_rows s_firstRow s_isBroken s_atoms n q q g H_17.size hn (by first | assumption | omega) (Nat.le_refl _) hg) (xcV (n := 0) hts wd_1304 wd_15 wd_1301 wd_1303 ps_54 rfl rfl (by decide +kernel) ⟨Nat.le_of_ble_eq_true rfl, Nat.le_of_ble_eq_true rfl⟩) (xpV (ci := 11) (q0 := 0) (As := []) hPc hK hz hDc rfl rfl) rfl rfl hl1.1 rfl (lv_room (Nat.le_of_ble_eq_true rfl)) d_Model_next_99 ⟨Nat.le_of_ble_eq_true rfl, Nat.le_of_ble_eq_true rfl⟩) hS (fun q _ h => hFc q h) hFc (fun u_100 t H_101 locs ht hvm hw hB hz1 hk1 hS1 => ?_)
            try dsimp only at hw
            have hs_103 := hw
            obtain ⟨hP1, hD1⟩ := hB
            rw [ht] at hP1
            have hjn := xw_join3 (wl := [(m0, .inr (11, [.int s_thrown, .int s_taped, .ref m1, .int (nI n), .int s_outSize, .ref m2, .int (nI (u_100 0)), .int (nI (dgV g n (n - q) q 0)), .int (nI q), .int (nI (dgE g n (n - q) q)), .int s_failed, .ref m3, .ref m4, .ref m5, .int s_isProgram, .int s_half, .ref m6, .ref m7, .ref m8, .ref m9, .ref m10, .ref m11, .ref m12, .ref m13, .ref m14, .ref m15, .ref m16, .ref m17, .ref m18, .ref m19, .ref m20, .int s_signs, .ref m21, .int s_stacked, .ref m22, .int s_name, .int s_shift, .int s_statements, .int s_ifs, .int s_whiles, .int s_variants, .int s_open, .ref m23, .int s_isMade, .int s_conditions, .ref m24, .ref m25, .ref m26, .ref m27, .int s_kept, .ref m28, .int s_tops, .ref m29, .int s_used, .ref m30, .ref m31, .int s_looked, .int s_rows, .int s_firstRow, .ref m32, .ref m33, .ref m34, .ref m35, .ref m36, .ref m37, .ref m38, .ref m39, .ref m40, .int s_isBroken, .ref m41, .int s_atoms, .ref m42])), (m1, .inl (ax 0, 400, .inl (fun j => nI (g j))))]) hP hD [0, 1] [] hCs (by decide) (by decide) hk1 hFc hP1 hD1 rfl
            clear hP1 hD1
            clear hPc hDc hFc hCs hz hz1 hk1 ht hvm
            clear hP hD hS
            have hS := hS1
            obtain ⟨hP, hD⟩ := hjn
            clear hS1
            refine lv_goto (tgt := 199) hx hb d_Model_next_102 (by decide) ?_
            rw [← hQe]
            obtain ⟨hP9, hD9⟩ := xw_sub2 (wc := (fun u : Nat → Nat => [(m0, .inr (11, [.int s_thrown, .int s_taped, .ref m1, .int (nI n), .int s_outSize, .ref m2, .int (nI (u 2)), .int (nI (u 3)), .int (nI (u 0)), .int (nI (u 1)), .int s_failed, .ref m3, .ref m4, .ref m5, .int s_isProgram, .int s_half, .ref m6, .ref m7, .ref m8, .ref m9, .ref m10, .ref m11, .ref m12, .ref m13, .ref m14, .ref m15, .ref m16, .ref m17, .ref m18, .ref m19, .ref m20, .int s_signs, .ref m21, .int s_stacked, .ref m22, .int s_name, .int s_shift, .int s_statements, .int s_ifs, .int s_whiles, .int s_variants, .int s_open, .ref m23, .int s_isMade, .int s_conditions, .ref m24, .ref m25, .ref m26, .ref m27, .int s_kept, .ref m28, .int s_tops, .ref m29, .int s_used, .ref m30, .ref m31, .int s_looked, .int s_rows, .int s_firstRow, .ref m32, .ref m33, .ref m34, .ref m35, .ref m36, .ref m37, .ref m38, .ref m39, .ref m40, .int s_isBroken, .ref m41, .int s_atoms, .ref m42])), (m1, .inl (ax 0, 400, .inl (fun j => nI (g j))))]) (ixn [q, (dgE g n (n - q) q), (u_100 0), (dgV g n (n - q) q 0)])) hP hD [0, 1] (by decide) rfl
            have hsp0 : (dgE g n (n - q) q) = tkE g n (nxB g n en) := (by rw [← hB2]; unfold tkE; (repeat' split); all_goals (first | rfl | assumption | (exfalso; omega) | omega))
            have hsp1 : (u_100 0) = tkK g n (nxB g n en) := (by first | (rw [← hB2]; unfold tkK; rw [if_neg (by first | assumption | omega), if_neg (by first | assumption | omega), if_pos (by first | assumption | omega)]; assumption) | rw [← hB2]; unfold tkK; (repeat' split); all_goals (first | rfl | assumption | (exfalso; omega) | omega))
            have hsp2 : (dgV g n (n - q) q 0) = tkV g n (nxB g n en) v0 := (by rw [← hB2]; unfold tkV; (repeat' split); all_goals (first | rfl | assumption | (exfalso; omega) | omega))
            have hsp3 : q = nxB g n en := (by first | assumption | omega)
            have hsp4 : en ≤ q := (by first | assumption | omega)
            have hsp5 : q ≤ (dgE g n (n - q) q) := (by first | assumption | omega)
            have hsp6 : (dgE g n (n - q) q) ≤ n := (by first | assumption | omega)
            have hsp7 : tk0 ((u_100 0)) (q) ((dgE g n (n - q) q)) := (by unfold tk0; omega)
            have hsp8 : (u_100 0) < 10000 := (by first | assumption | omega)
            have hsp9 : (dgV g n (n - q) q 0) < 20000 := (by first | assumption | omega)
            have hsp10 : tkq g n (q) ((dgE g n (n - q) q)) ((u_100 0)) ((dgV g n (n - q) q 0)) := (tkq_of hsp0 hsp1 hsp2 hsp3 (by first | assumption | omega))
            exact W.vret hx hb hr (fun t ht hW => ⟨⟨ixn [q, (dgE g n (n - q) q), (u_100 0), (dgV g n (n - q) q 0)], rfl, ⟨hsp0, hsp1, hsp2, hsp3, hsp4, hsp5, hsp6, hsp7, hsp8, hsp9, hsp10⟩, ⟨by rw [ht]; exact hP9, hD9⟩⟩, hS.F ht⟩) hS.2.2 d_Model_next_199
        · replace c_15 : (97 ≤ (g q) ∧ (g q) ≤ 122) := zb_y c_15
          refine lv_aload_n hx hb d_Model_next_84 rfl (lv_at hl1 1 rfl) ?_
          obtain ⟨hPc, hDc, hFc, hCs⟩ := xw_sub3 (wc := [(m0, .inr (11, [.int s_thrown, .int s_taped, .ref m1, .int (nI n), .int s_outSize, .ref m2, .int s_kind, .int (nI v0), .int (nI q), .int (nI q), .int s_failed, .ref m3, .ref m4, .ref m5, .int s_isProgram, .int s_half, .ref m6, .ref m7, .ref m8, .ref m9, .ref m10, .ref m11, .ref m12, .ref m13, .ref m14, .ref m15, .ref m16, .ref m17, .ref m18, .ref m19, .ref m20, .int s_signs, .ref m21, .int s_stacked, .ref m22, .int s_name, .int s_shift, .int s_statements, .int s_ifs, .int s_whiles, .int s_variants, .int s_open, .ref m23, .int s_isMade, .int s_conditions, .ref m24, .ref m25, .ref m26, .ref m27, .int s_kept, .ref m28, .int s_tops, .ref m29, .int s_used, .ref m30, .ref m31, .int s_looked, .int s_rows, .int s_firstRow, .ref m32, .ref m33, .ref m34, .ref m35, .ref m36, .ref m37, .ref m38, .ref m39, .ref m40, .int s_isBroken, .ref m41, .int s_atoms, .ref m42])), (m1, .inl (ax 0, 400, .inl (fun j => nI (g j))))]) hP hD hS hA [0, 1] (by decide) rfl
          have hz := xz_of hN hS
          refine va_callv (va_runV (As := []) (rest := []) ⟨hx, hb, hml, hown, hts⟩ (c_M_readWord l D ax m0 m1 m2 m3 m4 m5 m6 m7 m8 m9 m10 m11 m12 m13 m14 m15 m16 m17 m18 m19 m20 m21 m22 m23 m24 m25 m26 m27 m28 m29 m30 m31 m32 m33 m34 m35 m36 m37 m38 m39 m40 m41 m42 s_thrown s_taped s_outSize s_kind s_failed s_isProgram s_half s_signs s_stacked s_name s_shift s_statements s_ifs s_whiles s_variants s_open s_isMade s_conditions s_kept s_tops s_used s_looked s_rows s_firstRow s_isBroken s_atoms n q v0 g H_13.size hn (by first | assumption | omega) hg (by rw [bt_in (by first | assumption | omega)]; assumption)) (xcV (n := 0) hts wd_1289 wd_15 wd_1286 wd_1288 ps_53 rfl rfl (by decide +kernel) ⟨Nat.le_of_ble_eq_true rfl, Nat.le_of_ble_eq_true rfl⟩) (xpV (ci := 11) (q0 := 0) (As := []) hPc hK hz hDc rfl rfl) rfl rfl hl1.1 rfl (lv_room (Nat.le_of_ble_eq_true rfl)) d_Model_next_85 ⟨Nat.le_of_ble_eq_true rfl, Nat.le_of_ble_eq_true rfl⟩) hS (fun q _ h => hFc q h) hFc (fun u_104 t H_105 locs ht hvm hw hB hz1 hk1 hS1 => ?_)
          try dsimp only at hw
          obtain ⟨hs_107, hs_108⟩ := hw
          obtain ⟨hP1, hD1⟩ := hB
          rw [ht] at hP1
          have hjn := xw_join3 (wl := [(m0, .inr (11, [.int s_thrown, .int s_taped, .ref m1, .int (nI n), .int s_outSize, .ref m2, .int (nI (u_104 0)), .int (nI (u_104 1)), .int (nI q), .int (nI (ltE g n (n - q) q)), .int s_failed, .ref m3, .ref m4, .ref m5, .int s_isProgram, .int s_half, .ref m6, .ref m7, .ref m8, .ref m9, .ref m10, .ref m11, .ref m12, .ref m13, .ref m14, .ref m15, .ref m16, .ref m17, .ref m18, .ref m19, .ref m20, .int s_signs, .ref m21, .int s_stacked, .ref m22, .int s_name, .int s_shift, .int s_statements, .int s_ifs, .int s_whiles, .int s_variants, .int s_open, .ref m23, .int s_isMade, .int s_conditions, .ref m24, .ref m25, .ref m26, .ref m27, .int s_kept, .ref m28, .int s_tops, .ref m29, .int s_used, .ref m30, .ref m31, .int s_looked, .int s_rows, .int s_firstRow, .ref m32, .ref m33, .ref m34, .ref m35, .ref m36, .ref m37, .ref m38, .ref m39, .ref m40, .int s_isBroken, .ref m41, .int s_atoms, .ref m42])), (m1, .inl (ax 0, 400, .inl (fun j => nI (g j))))]) hP hD [0, 1] [] hCs (by decide) (by decide) hk1 hFc hP1 hD1 rfl
          clear hP1 hD1
          clear hPc hDc hFc hCs hz hz1 hk1 ht hvm
          clear hP hD hS
          have hS := hS1
          obtain ⟨hP, hD⟩ := hjn
          clear hS1
          refine lv_goto (tgt := 199) hx hb d_Model_next_88 (by decide) ?_
          rw [← hQe]
          obtain ⟨hP9, hD9⟩ := xw_sub2 (wc := (fun u : Nat → Nat => [(m0, .inr (11, [.int s_thrown, .int s_taped, .ref m1, .int (nI n), .int s_outSize, .ref m2, .int (nI (u 2)), .int (nI (u 3)), .int (nI (u 0)), .int (nI (u 1)), .int s_failed, .ref m3, .ref m4, .ref m5, .int s_isProgram, .int s_half, .ref m6, .ref m7, .ref m8, .ref m9, .ref m10, .ref m11, .ref m12, .ref m13, .ref m14, .ref m15, .ref m16, .ref m17, .ref m18, .ref m19, .ref m20, .int s_signs, .ref m21, .int s_stacked, .ref m22, .int s_name, .int s_shift, .int s_statements, .int s_ifs, .int s_whiles, .int s_variants, .int s_open, .ref m23, .int s_isMade, .int s_conditions, .ref m24, .ref m25, .ref m26, .ref m27, .int s_kept, .ref m28, .int s_tops, .ref m29, .int s_used, .ref m30, .ref m31, .int s_looked, .int s_rows, .int s_firstRow, .ref m32, .ref m33, .ref m34, .ref m35, .ref m36, .ref m37, .ref m38, .ref m39, .ref m40, .int s_isBroken, .ref m41, .int s_atoms, .ref m42])), (m1, .inl (ax 0, 400, .inl (fun j => nI (g j))))]) (ixn [q, (ltE g n (n - q) q), (u_104 0), (u_104 1)])) hP hD [0, 1] (by decide) rfl
          have hsp0 : (ltE g n (n - q) q) = tkE g n (nxB g n en) := (by rw [← hB2]; unfold tkE; (repeat' split); all_goals (first | rfl | assumption | (exfalso; omega) | omega))
          have hsp1 : (u_104 0) = tkK g n (nxB g n en) := (by first | (rw [← hB2]; unfold tkK; rw [if_neg (by first | assumption | omega), if_neg (by first | assumption | omega), if_pos (by first | assumption | omega)]; assumption) | rw [← hB2]; unfold tkK; (repeat' split); all_goals (first | rfl | assumption | (exfalso; omega) | omega))
          have hsp2 : (u_104 1) = tkV g n (nxB g n en) v0 := (by rw [← hB2]; unfold tkV; (repeat' split); all_goals (first | rfl | assumption | (exfalso; omega) | omega))
          have hsp3 : q = nxB g n en := (by first | assumption | omega)
          have hsp4 : en ≤ q := (by first | assumption | omega)
          have hsp5 : q ≤ (ltE g n (n - q) q) := (by first | assumption | omega)
          have hsp6 : (ltE g n (n - q) q) ≤ n := (by first | assumption | omega)
          have hsp7 : tk0 ((u_104 0)) (q) ((ltE g n (n - q) q)) := (by unfold tk0; omega)
          have hsp8 : (u_104 0) < 10000 := (by first | assumption | omega)
          have hsp9 : (u_104 1) < 20000 := (by first | assumption | omega)
          have hsp10 : tkq g n (q) ((ltE g n (n - q) q)) ((u_104 0)) ((u_104 1)) := (tkq_of hsp0 hsp1 hsp2 hsp3 (by first | assumption | omega))
          exact W.vret hx hb hr (fun t ht hW => ⟨⟨ixn [q, (ltE g n (n - q) q), (u_104 0), (u_104 1)], rfl, ⟨hsp0, hsp1, hsp2, hsp3, hsp4, hsp5, hsp6, hsp7, hsp8, hsp9, hsp10⟩, ⟨by rw [ht]; exact hP9, hD9⟩⟩, hS.F ht⟩) hS.2.2 d_Model_next_199
      · replace c_11 : ¬ q < n := fun hq9 => c_11 ((nI_ltI (a := q) (b := n) (by first | exact Nat.lt_of_lt_of_le (by assumption) (by decide) | exact Nat.lt_of_le_of_lt (by assumption) (by decide) | omega) (by first | exact Nat.lt_of_lt_of_le (by assumption) (by decide) | exact Nat.lt_of_le_of_lt (by assumption) (by decide) | omega)).mpr hq9)
        refine lv_aload_n hx hb d_Model_next_53 rfl (lv_at hl1 0 rfl) ?_
        refine lv_iconst (v := 0) hx hb d_Model_next_54 (by decide) ?_
        refine va_put (D := D) (ci := 11) (v := .int 0) (ty := .int) (C := R_Model) (T := F_Model) (N := 72) hx hb hts i_Model t_Model t_Model_ok n_Model hown hK.1 hP hD hS 0 rfl rfl 6 (by decide) (hts _ wd_1042) (fun _ h9 => h9) rfl (by decide +kernel) rfl rfl (Nat.le_of_ble_eq_true rfl) d_Model_next_55 (fun H_109 locs hP1 hD1 hS1 => ?_)
        clear hP hD hS
        have hS := hS1
        have hW7 : (fun w9 : va_W => va_P D classes w9 H_109 ∧ va_D A w9) [(m0, .inr (11, [.int s_thrown, .int s_taped, .ref m1, .int (nI n), .int s_outSize, .ref m2, .int 0, .int (nI v0), .int (nI q), .int (nI q), .int s_failed, .ref m3, .ref m4, .ref m5, .int s_isProgram, .int s_half, .ref m6, .ref m7, .ref m8, .ref m9, .ref m10, .ref m11, .ref m12, .ref m13, .ref m14, .ref m15, .ref m16, .ref m17, .ref m18, .ref m19, .ref m20, .int s_signs, .ref m21, .int s_stacked, .ref m22, .int s_name, .int s_shift, .int s_statements, .int s_ifs, .int s_whiles, .int s_variants, .int s_open, .ref m23, .int s_isMade, .int s_conditions, .ref m24, .ref m25, .ref m26, .ref m27, .int s_kept, .ref m28, .int s_tops, .ref m29, .int s_used, .ref m30, .ref m31, .int s_looked, .int s_rows, .int s_firstRow, .ref m32, .ref m33, .ref m34, .ref m35, .ref m36, .ref m37, .ref m38, .ref m39, .ref m40, .int s_isBroken, .ref m41, .int s_atoms, .ref m42])), (m1, .inl (ax 0, 400, .inl (fun j => nI (g j))))] := ⟨hP1, hD1⟩
        obtain ⟨hP, hD⟩ := hW7
        clear hP1 hD1 hS1
        refine lv_aload_n hx hb d_Model_next_58 rfl (lv_at hl1 0 rfl) ?_
        refine lv_aload_n hx hb d_Model_next_59 rfl (lv_at hl1 0 rfl) ?_
        refine va_get (D := D) (ci := 11) (v := .int (nI n)) (C := R_Model) (T := F_Model) (N := 72) hx hb hts i_Model hown hK.1 hP 0 rfl rfl 3 (by decide) (hts _ wd_1039) (fun _ h9 => h9) rfl d_Model_next_60 ?_
        refine va_put (D := D) (ci := 11) (v := .int (nI n)) (ty := .int) (C := R_Model) (T := F_Model) (N := 72) hx hb hts i_Model t_Model t_Model_ok n_Model hown hK.1 hP hD hS 0 rfl rfl 8 (by decide) (hts _ wd_1044) (fun _ h9 => h9) rfl (by decide +kernel) rfl rfl (Nat.le_of_ble_eq_true rfl) d_Model_next_63 (fun H_110 locs hP1 hD1 hS1 => ?_)
        clear hP hD hS
        have hS := hS1
        have hW7 : (fun w9 : va_W => va_P D classes w9 H_110 ∧ va_D A w9) [(m0, .inr (11, [.int s_thrown, .int s_taped, .ref m1, .int (nI n), .int s_outSize, .ref m2, .int 0, .int (nI v0), .int (nI n), .int (nI q), .int s_failed, .ref m3, .ref m4, .ref m5, .int s_isProgram, .int s_half, .ref m6, .ref m7, .ref m8, .ref m9, .ref m10, .ref m11, .ref m12, .ref m13, .ref m14, .ref m15, .ref m16, .ref m17, .ref m18, .ref m19, .ref m20, .int s_signs, .ref m21, .int s_stacked, .ref m22, .int s_name, .int s_shift, .int s_statements, .int s_ifs, .int s_whiles, .int s_variants, .int s_open, .ref m23, .int s_isMade, .int s_conditions, .ref m24, .ref m25, .ref m26, .ref m27, .int s_kept, .ref m28, .int s_tops, .ref m29, .int s_used, .ref m30, .ref m31, .int s_looked, .int s_rows, .int s_firstRow, .ref m32, .ref m33, .ref m34, .ref m35, .ref m36, .ref m37, .ref m38, .ref m39, .ref m40, .int s_isBroken, .ref m41, .int s_atoms, .ref m42])), (m1, .inl (ax 0, 400, .inl (fun j => nI (g j))))] := ⟨hP1, hD1⟩
        obtain ⟨hP, hD⟩ := hW7
        clear hP1 hD1 hS1
        rw [← hQe]
        obtain ⟨hP9, hD9⟩ := xw_sub2 (wc := (fun u : Nat → Nat => [(m0, .inr (11, [.int s_thrown, .int s_taped, .ref m1, .int (nI n), .int s_outSize, .ref m2, .int (nI (u 2)), .int (nI (u 3)), .int (nI (u 0)), .int (nI (u 1)), .int s_failed, .ref m3, .ref m4, .ref m5, .int s_isProgram, .int s_half, .ref m6, .ref m7, .ref m8, .ref m9, .ref m10, .ref m11, .ref m12, .ref m13, .ref m14, .ref m15, .ref m16, .ref m17, .ref m18, .ref m19, .ref m20, .int s_signs, .ref m21, .int s_stacked, .ref m22, .int s_name, .int s_shift, .int s_statements, .int s_ifs, .int s_whiles, .int s_variants, .int s_open, .ref m23, .int s_isMade, .int s_conditions, .ref m24, .ref m25, .ref m26, .ref m27, .int s_kept, .ref m28, .int s_tops, .ref m29, .int s_used, .ref m30, .ref m31, .int s_looked, .int s_rows, .int s_firstRow, .ref m32, .ref m33, .ref m34, .ref m35, .ref m36, .ref m37, .ref m38, .ref m39, .ref m40, .int s_isBroken, .ref m41, .int s_atoms, .ref m42])), (m1, .inl (ax 0, 400, .inl (fun j => nI (g j))))]) (ixn [n, q, 0, v0])) hP hD [0, 1] (by decide) rfl
        have hsp0 : q = tkE g n (nxB g n en) := (by rw [← hB2]; unfold tkE; (repeat' split); all_goals (first | rfl | assumption | (exfalso; omega) | omega))
        have hsp1 : 0 = tkK g n (nxB g n en) := (by first | (rw [← hB2]; unfold tkK; rw [if_neg (by first | assumption | omega), if_neg (by first | assumption | omega), if_pos (by first | assumption | omega)]; assumption) | rw [← hB2]; unfold tkK; (repeat' split); all_goals (first | rfl | assumption | (exfalso; omega) | omega))
        have hsp2 : v0 = tkV g n (nxB g n en) v0 := (by rw [← hB2]; unfold tkV; (repeat' split); all_goals (first | rfl | assumption | (exfalso; omega) | omega))
        have hsp3 : n = nxB g n en := (by first | assumption | omega)
        have hsp4 : en ≤ n := (by first | assumption | omega)
        have hsp5 : n ≤ q := (by first | assumption | omega)
        have hsp6 : q ≤ n := (by first | assumption | omega)
        have hsp7 : tk0 (0) (n) (q) := (by unfold tk0; omega)
        have hsp8 : 0 < 10000 := (by first | assumption | omega)
        have hsp9 : v0 < 20000 := (by first | assumption | omega)
        have hsp10 : tkq g n (n) (q) (0) (v0) := (tkq_of hsp0 hsp1 hsp2 hsp3 (by first | assumption | omega))
        exact W.vret hx hb hr (fun t ht hW => ⟨⟨ixn [n, q, 0, v0], rfl, ⟨hsp0, hsp1, hsp2, hsp3, hsp4, hsp5, hsp6, hsp7, hsp8, hsp9, hsp10⟩, ⟨by rw [ht]; exact hP9, hD9⟩⟩, hS.F ht⟩) hS.2.2 d_Model_next_66
    · replace c_9 : bt g n q = 32 := (nI_eq (a := bt g n q) (b := 32) (by first | exact Nat.lt_of_lt_of_le (by assumption) (by decide) | exact Nat.lt_of_le_of_lt (by assumption) (by decide) | omega) (by decide)).mp c_9
      have hqn : q < n := sk_in (by assumption)
      refine lv_aload_n hx hb d_Model_next_21 rfl (lv_at hl1 0 rfl) ?_
      refine lv_dup hx hb d_Model_next_22 rfl ?_
      refine va_get (D := D) (ci := 11) (v := .int (nI q)) (C := R_Model) (T := F_Model) (N := 72) hx hb hts i_Model hown hK.1 hP 0 rfl rfl 8 (by decide) (hts _ wd_1044) (fun _ h9 => h9) rfl d_Model_next_23 ?_
      refine lv_iconst (v := 1) hx hb d_Model_next_26 (by decide) ?_
      refine lv_iadd hx hb d_Model_next_27 ?_
      refine lv_topi (fun z_111 ez_111 => ?_)
      have ez_111 : z_111 = nI (q + 1) := ez_111.trans (nI_add q 1)
      subst ez_111
      refine va_put (D := D) (ci := 11) (v := .int (nI (q + 1))) (ty := .int) (C := R_Model) (T := F_Model) (N := 72) hx hb hts i_Model t_Model t_Model_ok n_Model hown hK.1 hP hD hS 0 rfl rfl 8 (by decide) (hts _ wd_1044) (fun _ h9 => h9) rfl (by decide +kernel) rfl rfl (Nat.le_of_ble_eq_true rfl) d_Model_next_28 (fun H_112 locs hP1 hD1 hS1 => ?_)
      clear hP hD hS
      have hS := hS1
      have hW7 : (fun w9 : va_W => va_P D classes w9 H_112 ∧ va_D A w9) [(m0, .inr (11, [.int s_thrown, .int s_taped, .ref m1, .int (nI n), .int s_outSize, .ref m2, .int s_kind, .int (nI v0), .int (nI (q + 1)), .int (nI en), .int s_failed, .ref m3, .ref m4, .ref m5, .int s_isProgram, .int s_half, .ref m6, .ref m7, .ref m8, .ref m9, .ref m10, .ref m11, .ref m12, .ref m13, .ref m14, .ref m15, .ref m16, .ref m17, .ref m18, .ref m19, .ref m20, .int s_signs, .ref m21, .int s_stacked, .ref m22, .int s_name, .int s_shift, .int s_statements, .int s_ifs, .int s_whiles, .int s_variants, .int s_open, .ref m23, .int s_isMade, .int s_conditions, .ref m24, .ref m25, .ref m26, .ref m27, .int s_kept, .ref m28, .int s_tops, .ref m29, .int s_used, .ref m30, .ref m31, .int s_looked, .int s_rows, .int s_firstRow, .ref m32, .ref m33, .ref m34, .ref m35, .ref m36, .ref m37, .ref m38, .ref m39, .ref m40, .int s_isBroken, .ref m41, .int s_atoms, .ref m42])), (m1, .inl (ax 0, 400, .inl (fun j => nI (g j))))] := ⟨hP1, hD1⟩
      obtain ⟨hP, hD⟩ := hW7
      clear hP1 hD1 hS1
      refine lv_goto (tgt := 8) hx hb d_Model_next_31 (by decide) ?_
      exact ih_4 (q + 1) (by first | assumption | omega) (by first | assumption | omega) (by first | assumption | omega) (by rw [← hE]; exact (skB_step (q := q) (by assumption)).symm) _ _ _ (hP.sub [0, 1] rfl) (hD.sub [0, 1] (by decide) rfl) hS (lv_sub hl1 [0] rfl)
