theorem ps_112 : Cond.selects "TripleDeskModel" ⟨"TripleDeskModel", "termOf", "(II)J"⟩ ⟨"TripleDeskModel", "termOf", "(II)J"⟩ ∈ lw_gd := ps_in (q := (⟨"TripleDeskModel", "termOf", "(II)J"⟩, 72)) (i := 112) (by decide +kernel)
theorem ps_113 : Cond.selects "TripleDeskModel" ⟨"TripleDeskModel", "isTrue", "([III)Z"⟩ ⟨"TripleDeskModel", "isTrue", "([III)Z"⟩ ∈ lw_gd := ps_in (q := (⟨"TripleDeskModel", "isTrue", "([III)Z"⟩, 72)) (i := 113) (by decide +kernel)
theorem wd_1107 : ((Jvm.Cond.fieldLink "TripleDeskModel" (141 : Nat) "TripleDeskModel" "truth" "[Z")) ∈ lw_gd := lw_gd_in (i := 1107) (by decide +kernel) rfl
theorem wd_1589 : ((Jvm.Cond.methodLink "TripleDeskModel" (467 : Nat) ({ cls := "TripleDeskModel", name := "termOf", desc := "(II)J" } : Jvm.MethodName))) ∈ lw_gd := lw_gd_in (i := 1589) (by decide +kernel) rfl
theorem wd_1591 : ((Jvm.Cond.instanceMethod ({ cls := "TripleDeskModel", name := "termOf", desc := "(II)J" } : Jvm.MethodName))) ∈ lw_gd := lw_gd_in (i := 1591) (by decide +kernel) rfl
theorem wd_1592 : ((Jvm.Cond.code ({ cls := "TripleDeskModel", name := "termOf", desc := "(II)J" } : Jvm.MethodName) prog_13_method_85_code (3 : Nat) (Option.some Jvm.ClassFile.FieldType.long))) ∈ lw_gd := lw_gd_in (i := 1592) (by decide +kernel) rfl
theorem wd_1593 : ((Jvm.Cond.methodLink "TripleDeskModel" (475 : Nat) ({ cls := "TripleDeskModel", name := "isTrue", desc := "([III)Z" } : Jvm.MethodName))) ∈ lw_gd := lw_gd_in (i := 1593) (by decide +kernel) rfl
theorem wd_1595 : ((Jvm.Cond.instanceMethod ({ cls := "TripleDeskModel", name := "isTrue", desc := "([III)Z" } : Jvm.MethodName))) ∈ lw_gd := lw_gd_in (i := 1595) (by decide +kernel) rfl
theorem wd_1596 : ((Jvm.Cond.code ({ cls := "TripleDeskModel", name := "isTrue", desc := "([III)Z" } : Jvm.MethodName) prog_13_method_87_code (7 : Nat) (Option.some Jvm.ClassFile.FieldType.boolean))) ∈ lw_gd := lw_gd_in (i := 1596) (by decide +kernel) rfl
theorem wd_1597 : ((Jvm.Cond.methodLink "TripleDeskModel" (471 : Nat) ({ cls := "TripleDeskModel", name := "compare", desc := "(JIJ)Z" } : Jvm.MethodName))) ∈ lw_gd := lw_gd_in (i := 1597) (by decide +kernel) rfl
theorem wd_1598 : ((Jvm.Cond.static ({ cls := "TripleDeskModel", name := "compare", desc := "(JIJ)Z" } : Jvm.MethodName))) ∈ lw_gd := lw_gd_in (i := 1598) (by decide +kernel) rfl
theorem wd_1599 : ((Jvm.Cond.code ({ cls := "TripleDeskModel", name := "compare", desc := "(JIJ)Z" } : Jvm.MethodName) prog_13_method_86_code (5 : Nat) (Option.some Jvm.ClassFile.FieldType.boolean))) ∈ lw_gd := lw_gd_in (i := 1599) (by decide +kernel) rfl
theorem vpn {x : Nat} (h : x ≤ 1) : vp_nar .boolean (nI x) = nI x := by
  rcases Nat.eq_or_lt_of_le h with e | e
  · subst e; rfl
  · have : x = 0 := by omega
    subst this; rfl
theorem nI_bool {x : Nat} (h : x ≤ 1) : narrow .boolean (.int (nI x)) = .int (nI x) := by
  rcases Nat.eq_or_lt_of_le h with e | e
  · subst e; rfl
  · have : x = 0 := by omega
    subst this; rfl
theorem xf_supz (st : Nat → Nat) (i v : Nat) (x : Int32) (h : vp_nar .boolean x = nI v) : upd (fun j => nI (st j)) i (vp_nar .boolean x) = (fun j => nI (sup st i v j)) := by rw [h]; exact xf_sup st i v
theorem nI_dec {a : Nat} (h : 1 ≤ a) : nI a + (-1) = nI (a - 1) := by
  obtain ⟨m, rfl⟩ : ∃ m, a = m + 1 := ⟨a - 1, by omega⟩
  exact pk_m1 m
theorem sup1 {st : Nat → Nat} {i v : Nat} (h : ∀ j, st j ≤ 1) (hv : v ≤ 1) : ∀ j, sup st i v j ≤ 1 := fun j => by unfold sup; split; exact hv; exact h j
section WF
variable {g : Nat} {f : Nat → Int32} {b k : Nat}
theorem wf_atom (hk : (f (b + 6 * k) = 0 ∧ nmo g (f (b + 6 * k + 1)) ∧ nmo g (f (b + 6 * k + 4))) ∨ (f (b + 6 * k) = 1 ∧ 1 ≤ hgt f b k) ∨ ((f (b + 6 * k) = 2 ∨ f (b + 6 * k) = 3) ∧ 2 ≤ hgt f b k)) (h : f (b + 6 * k) = 0) : (nmo g (f (b + 6 * k + 1)) ∧ nmo g (f (b + 6 * k + 4))) ∧ hgt f b (k + 1) = hgt f b k + 1 := by
  refine ⟨?_, hgt_0 h⟩
  rcases hk with ⟨_, a, c⟩ | ⟨e, _⟩ | ⟨e | e, _⟩
  · exact ⟨a, c⟩
  all_goals (rw [h] at e; exact absurd e (by decide))
theorem wf_not (hk : (f (b + 6 * k) = 0 ∧ nmo g (f (b + 6 * k + 1)) ∧ nmo g (f (b + 6 * k + 4))) ∨ (f (b + 6 * k) = 1 ∧ 1 ≤ hgt f b k) ∨ ((f (b + 6 * k) = 2 ∨ f (b + 6 * k) = 3) ∧ 2 ≤ hgt f b k)) (h : f (b + 6 * k) = 1) : 1 ≤ hgt f b k ∧ hgt f b (k + 1) = hgt f b k := by
  refine ⟨?_, hgt_1 h⟩
  rcases hk with ⟨e, _⟩ | ⟨_, a⟩ | ⟨e | e, _⟩
  · rw [h] at e; exact absurd e (by decide)
  · exact a
  all_goals (rw [h] at e; exact absurd e (by decide))
theorem wf_bin (hk : (f (b + 6 * k) = 0 ∧ nmo g (f (b + 6 * k + 1)) ∧ nmo g (f (b + 6 * k + 4))) ∨ (f (b + 6 * k) = 1 ∧ 1 ≤ hgt f b k) ∨ ((f (b + 6 * k) = 2 ∨ f (b + 6 * k) = 3) ∧ 2 ≤ hgt f b k)) (h0 : ¬ f (b + 6 * k) = 0) (h1 : ¬ f (b + 6 * k) = 1) : 2 ≤ hgt f b k ∧ hgt f b (k + 1) = hgt f b k - 1 ∧ (f (b + 6 * k) = 2 ∨ f (b + 6 * k) = 3) := by
  rcases hk with ⟨e, _⟩ | ⟨e, _⟩ | ⟨e, a⟩
  · exact absurd e h0
  · exact absurd e h1
  · exact ⟨a, hgt_2 e, e⟩
end WF
abbrev b_Model_isTrue : ByteArray := prog_13_method_87_code
def y_Model_isTrue : MethodName := ⟨R_Model, "isTrue", "([III)Z"⟩
theorem d_Model_isTrue_0 : decode b_Model_isTrue 0 = .ok (.iconst 0, 1) := by decide +kernel
theorem d_Model_isTrue_1 : decode b_Model_isTrue 1 = .ok (.istore 4, 2) := by decide +kernel
theorem d_Model_isTrue_3 : decode b_Model_isTrue 3 = .ok (.iconst 0, 1) := by decide +kernel
theorem d_Model_isTrue_4 : decode b_Model_isTrue 4 = .ok (.istore 5, 2) := by decide +kernel
theorem d_Model_isTrue_6 : decode b_Model_isTrue 6 = .ok (.iload 5, 2) := by decide +kernel
theorem d_Model_isTrue_8 : decode b_Model_isTrue 8 = .ok (.iload_n 3, 1) := by decide +kernel
theorem d_Model_isTrue_9 : decode b_Model_isTrue 9 = .ok (.if_icmp .ge 197, 3) := by decide +kernel
theorem d_Model_isTrue_12 : decode b_Model_isTrue 12 = .ok (.iload_n 2, 1) := by decide +kernel
theorem d_Model_isTrue_13 : decode b_Model_isTrue 13 = .ok (.bipush 6, 2) := by decide +kernel
theorem d_Model_isTrue_15 : decode b_Model_isTrue 15 = .ok (.iload 5, 2) := by decide +kernel
theorem d_Model_isTrue_17 : decode b_Model_isTrue 17 = .ok (.imul, 1) := by decide +kernel
theorem d_Model_isTrue_18 : decode b_Model_isTrue 18 = .ok (.iadd, 1) := by decide +kernel
theorem d_Model_isTrue_19 : decode b_Model_isTrue 19 = .ok (.istore 6, 2) := by decide +kernel
theorem d_Model_isTrue_21 : decode b_Model_isTrue 21 = .ok (.aload_n 1, 1) := by decide +kernel
theorem d_Model_isTrue_22 : decode b_Model_isTrue 22 = .ok (.iload 6, 2) := by decide +kernel
theorem d_Model_isTrue_24 : decode b_Model_isTrue 24 = .ok (.iaload, 1) := by decide +kernel
theorem d_Model_isTrue_25 : decode b_Model_isTrue 25 = .ok (.ifCond .ne 57, 3) := by decide +kernel
theorem d_Model_isTrue_28 : decode b_Model_isTrue 28 = .ok (.aload_n 0, 1) := by decide +kernel
theorem d_Model_isTrue_29 : decode b_Model_isTrue 29 = .ok (.getfield 141, 3) := by decide +kernel
theorem d_Model_isTrue_32 : decode b_Model_isTrue 32 = .ok (.iload 4, 2) := by decide +kernel
theorem d_Model_isTrue_34 : decode b_Model_isTrue 34 = .ok (.aload_n 0, 1) := by decide +kernel
theorem d_Model_isTrue_35 : decode b_Model_isTrue 35 = .ok (.aload_n 1, 1) := by decide +kernel
theorem d_Model_isTrue_36 : decode b_Model_isTrue 36 = .ok (.iload 6, 2) := by decide +kernel
theorem d_Model_isTrue_38 : decode b_Model_isTrue 38 = .ok (.iconst 1, 1) := by decide +kernel
theorem d_Model_isTrue_39 : decode b_Model_isTrue 39 = .ok (.iadd, 1) := by decide +kernel
theorem d_Model_isTrue_40 : decode b_Model_isTrue 40 = .ok (.iaload, 1) := by decide +kernel
theorem d_Model_isTrue_41 : decode b_Model_isTrue 41 = .ok (.aload_n 1, 1) := by decide +kernel
theorem d_Model_isTrue_42 : decode b_Model_isTrue 42 = .ok (.iload 6, 2) := by decide +kernel
theorem d_Model_isTrue_44 : decode b_Model_isTrue 44 = .ok (.iconst 2, 1) := by decide +kernel
theorem d_Model_isTrue_45 : decode b_Model_isTrue 45 = .ok (.iadd, 1) := by decide +kernel
theorem d_Model_isTrue_46 : decode b_Model_isTrue 46 = .ok (.iaload, 1) := by decide +kernel
theorem d_Model_isTrue_47 : decode b_Model_isTrue 47 = .ok (.invokevirtual 467, 3) := by decide +kernel
theorem d_Model_isTrue_50 : decode b_Model_isTrue 50 = .ok (.aload_n 1, 1) := by decide +kernel
theorem d_Model_isTrue_51 : decode b_Model_isTrue 51 = .ok (.iload 6, 2) := by decide +kernel
theorem d_Model_isTrue_53 : decode b_Model_isTrue 53 = .ok (.iconst 3, 1) := by decide +kernel
theorem d_Model_isTrue_54 : decode b_Model_isTrue 54 = .ok (.iadd, 1) := by decide +kernel
theorem d_Model_isTrue_55 : decode b_Model_isTrue 55 = .ok (.iaload, 1) := by decide +kernel
theorem d_Model_isTrue_56 : decode b_Model_isTrue 56 = .ok (.aload_n 0, 1) := by decide +kernel
theorem d_Model_isTrue_57 : decode b_Model_isTrue 57 = .ok (.aload_n 1, 1) := by decide +kernel
theorem d_Model_isTrue_58 : decode b_Model_isTrue 58 = .ok (.iload 6, 2) := by decide +kernel
theorem d_Model_isTrue_60 : decode b_Model_isTrue 60 = .ok (.iconst 4, 1) := by decide +kernel
theorem d_Model_isTrue_61 : decode b_Model_isTrue 61 = .ok (.iadd, 1) := by decide +kernel
theorem d_Model_isTrue_62 : decode b_Model_isTrue 62 = .ok (.iaload, 1) := by decide +kernel
theorem d_Model_isTrue_63 : decode b_Model_isTrue 63 = .ok (.aload_n 1, 1) := by decide +kernel
theorem d_Model_isTrue_64 : decode b_Model_isTrue 64 = .ok (.iload 6, 2) := by decide +kernel
theorem d_Model_isTrue_66 : decode b_Model_isTrue 66 = .ok (.iconst 5, 1) := by decide +kernel
theorem d_Model_isTrue_67 : decode b_Model_isTrue 67 = .ok (.iadd, 1) := by decide +kernel
theorem d_Model_isTrue_68 : decode b_Model_isTrue 68 = .ok (.iaload, 1) := by decide +kernel
theorem d_Model_isTrue_69 : decode b_Model_isTrue 69 = .ok (.invokevirtual 467, 3) := by decide +kernel
theorem d_Model_isTrue_72 : decode b_Model_isTrue 72 = .ok (.invokestatic 471, 3) := by decide +kernel
theorem d_Model_isTrue_75 : decode b_Model_isTrue 75 = .ok (.bastore, 1) := by decide +kernel
theorem d_Model_isTrue_76 : decode b_Model_isTrue 76 = .ok (.iinc 4 1, 3) := by decide +kernel
theorem d_Model_isTrue_79 : decode b_Model_isTrue 79 = .ok (.goto 121, 3) := by decide +kernel
theorem d_Model_isTrue_82 : decode b_Model_isTrue 82 = .ok (.aload_n 1, 1) := by decide +kernel
theorem d_Model_isTrue_83 : decode b_Model_isTrue 83 = .ok (.iload 6, 2) := by decide +kernel
theorem d_Model_isTrue_85 : decode b_Model_isTrue 85 = .ok (.iaload, 1) := by decide +kernel
theorem d_Model_isTrue_86 : decode b_Model_isTrue 86 = .ok (.iconst 1, 1) := by decide +kernel
theorem d_Model_isTrue_87 : decode b_Model_isTrue 87 = .ok (.if_icmp .ne 32, 3) := by decide +kernel
theorem d_Model_isTrue_90 : decode b_Model_isTrue 90 = .ok (.aload_n 0, 1) := by decide +kernel
theorem d_Model_isTrue_91 : decode b_Model_isTrue 91 = .ok (.getfield 141, 3) := by decide +kernel
theorem d_Model_isTrue_94 : decode b_Model_isTrue 94 = .ok (.iload 4, 2) := by decide +kernel
theorem d_Model_isTrue_96 : decode b_Model_isTrue 96 = .ok (.iconst 1, 1) := by decide +kernel
theorem d_Model_isTrue_97 : decode b_Model_isTrue 97 = .ok (.isub, 1) := by decide +kernel
theorem d_Model_isTrue_98 : decode b_Model_isTrue 98 = .ok (.aload_n 0, 1) := by decide +kernel
theorem d_Model_isTrue_99 : decode b_Model_isTrue 99 = .ok (.getfield 141, 3) := by decide +kernel
theorem d_Model_isTrue_102 : decode b_Model_isTrue 102 = .ok (.iload 4, 2) := by decide +kernel
theorem d_Model_isTrue_104 : decode b_Model_isTrue 104 = .ok (.iconst 1, 1) := by decide +kernel
theorem d_Model_isTrue_105 : decode b_Model_isTrue 105 = .ok (.isub, 1) := by decide +kernel
theorem d_Model_isTrue_106 : decode b_Model_isTrue 106 = .ok (.baload, 1) := by decide +kernel
theorem d_Model_isTrue_107 : decode b_Model_isTrue 107 = .ok (.ifCond .ne 7, 3) := by decide +kernel
theorem d_Model_isTrue_110 : decode b_Model_isTrue 110 = .ok (.iconst 1, 1) := by decide +kernel
theorem d_Model_isTrue_111 : decode b_Model_isTrue 111 = .ok (.goto 4, 3) := by decide +kernel
theorem d_Model_isTrue_114 : decode b_Model_isTrue 114 = .ok (.iconst 0, 1) := by decide +kernel
theorem d_Model_isTrue_115 : decode b_Model_isTrue 115 = .ok (.bastore, 1) := by decide +kernel
theorem d_Model_isTrue_116 : decode b_Model_isTrue 116 = .ok (.goto 84, 3) := by decide +kernel
theorem d_Model_isTrue_119 : decode b_Model_isTrue 119 = .ok (.aload_n 0, 1) := by decide +kernel
theorem d_Model_isTrue_120 : decode b_Model_isTrue 120 = .ok (.getfield 141, 3) := by decide +kernel
theorem d_Model_isTrue_123 : decode b_Model_isTrue 123 = .ok (.iload 4, 2) := by decide +kernel
theorem d_Model_isTrue_125 : decode b_Model_isTrue 125 = .ok (.iconst 2, 1) := by decide +kernel
theorem d_Model_isTrue_126 : decode b_Model_isTrue 126 = .ok (.isub, 1) := by decide +kernel
theorem d_Model_isTrue_127 : decode b_Model_isTrue 127 = .ok (.aload_n 1, 1) := by decide +kernel
theorem d_Model_isTrue_128 : decode b_Model_isTrue 128 = .ok (.iload 6, 2) := by decide +kernel
theorem d_Model_isTrue_130 : decode b_Model_isTrue 130 = .ok (.iaload, 1) := by decide +kernel
theorem d_Model_isTrue_131 : decode b_Model_isTrue 131 = .ok (.iconst 2, 1) := by decide +kernel
theorem d_Model_isTrue_132 : decode b_Model_isTrue 132 = .ok (.if_icmp .ne 35, 3) := by decide +kernel
theorem d_Model_isTrue_135 : decode b_Model_isTrue 135 = .ok (.aload_n 0, 1) := by decide +kernel
theorem d_Model_isTrue_136 : decode b_Model_isTrue 136 = .ok (.getfield 141, 3) := by decide +kernel
theorem d_Model_isTrue_139 : decode b_Model_isTrue 139 = .ok (.iload 4, 2) := by decide +kernel
theorem d_Model_isTrue_141 : decode b_Model_isTrue 141 = .ok (.iconst 2, 1) := by decide +kernel
theorem d_Model_isTrue_142 : decode b_Model_isTrue 142 = .ok (.isub, 1) := by decide +kernel
theorem d_Model_isTrue_143 : decode b_Model_isTrue 143 = .ok (.baload, 1) := by decide +kernel
theorem d_Model_isTrue_144 : decode b_Model_isTrue 144 = .ok (.ifCond .eq 19, 3) := by decide +kernel
theorem d_Model_isTrue_147 : decode b_Model_isTrue 147 = .ok (.aload_n 0, 1) := by decide +kernel
theorem d_Model_isTrue_148 : decode b_Model_isTrue 148 = .ok (.getfield 141, 3) := by decide +kernel
theorem d_Model_isTrue_151 : decode b_Model_isTrue 151 = .ok (.iload 4, 2) := by decide +kernel
theorem d_Model_isTrue_153 : decode b_Model_isTrue 153 = .ok (.iconst 1, 1) := by decide +kernel
theorem d_Model_isTrue_154 : decode b_Model_isTrue 154 = .ok (.isub, 1) := by decide +kernel
theorem d_Model_isTrue_155 : decode b_Model_isTrue 155 = .ok (.baload, 1) := by decide +kernel
theorem d_Model_isTrue_156 : decode b_Model_isTrue 156 = .ok (.ifCond .eq 7, 3) := by decide +kernel
theorem d_Model_isTrue_159 : decode b_Model_isTrue 159 = .ok (.iconst 1, 1) := by decide +kernel
theorem d_Model_isTrue_160 : decode b_Model_isTrue 160 = .ok (.goto 36, 3) := by decide +kernel
theorem d_Model_isTrue_163 : decode b_Model_isTrue 163 = .ok (.iconst 0, 1) := by decide +kernel
theorem d_Model_isTrue_164 : decode b_Model_isTrue 164 = .ok (.goto 32, 3) := by decide +kernel
theorem d_Model_isTrue_167 : decode b_Model_isTrue 167 = .ok (.aload_n 0, 1) := by decide +kernel
theorem d_Model_isTrue_168 : decode b_Model_isTrue 168 = .ok (.getfield 141, 3) := by decide +kernel
theorem d_Model_isTrue_171 : decode b_Model_isTrue 171 = .ok (.iload 4, 2) := by decide +kernel
theorem d_Model_isTrue_173 : decode b_Model_isTrue 173 = .ok (.iconst 2, 1) := by decide +kernel
theorem d_Model_isTrue_174 : decode b_Model_isTrue 174 = .ok (.isub, 1) := by decide +kernel
theorem d_Model_isTrue_175 : decode b_Model_isTrue 175 = .ok (.baload, 1) := by decide +kernel
theorem d_Model_isTrue_176 : decode b_Model_isTrue 176 = .ok (.ifCond .ne 15, 3) := by decide +kernel
theorem d_Model_isTrue_179 : decode b_Model_isTrue 179 = .ok (.aload_n 0, 1) := by decide +kernel
theorem d_Model_isTrue_180 : decode b_Model_isTrue 180 = .ok (.getfield 141, 3) := by decide +kernel
theorem d_Model_isTrue_183 : decode b_Model_isTrue 183 = .ok (.iload 4, 2) := by decide +kernel
theorem d_Model_isTrue_185 : decode b_Model_isTrue 185 = .ok (.iconst 1, 1) := by decide +kernel
theorem d_Model_isTrue_186 : decode b_Model_isTrue 186 = .ok (.isub, 1) := by decide +kernel
theorem d_Model_isTrue_187 : decode b_Model_isTrue 187 = .ok (.baload, 1) := by decide +kernel
theorem d_Model_isTrue_188 : decode b_Model_isTrue 188 = .ok (.ifCond .eq 7, 3) := by decide +kernel
theorem d_Model_isTrue_191 : decode b_Model_isTrue 191 = .ok (.iconst 1, 1) := by decide +kernel
theorem d_Model_isTrue_192 : decode b_Model_isTrue 192 = .ok (.goto 4, 3) := by decide +kernel
theorem d_Model_isTrue_195 : decode b_Model_isTrue 195 = .ok (.iconst 0, 1) := by decide +kernel
theorem d_Model_isTrue_196 : decode b_Model_isTrue 196 = .ok (.bastore, 1) := by decide +kernel
theorem d_Model_isTrue_197 : decode b_Model_isTrue 197 = .ok (.iinc 4 (-1), 3) := by decide +kernel
theorem d_Model_isTrue_200 : decode b_Model_isTrue 200 = .ok (.iinc 5 1, 3) := by decide +kernel
theorem d_Model_isTrue_203 : decode b_Model_isTrue 203 = .ok (.goto (-197), 3) := by decide +kernel
theorem d_Model_isTrue_206 : decode b_Model_isTrue 206 = .ok (.aload_n 0, 1) := by decide +kernel
theorem d_Model_isTrue_207 : decode b_Model_isTrue 207 = .ok (.getfield 141, 3) := by decide +kernel
theorem d_Model_isTrue_210 : decode b_Model_isTrue 210 = .ok (.iconst 0, 1) := by decide +kernel
theorem d_Model_isTrue_211 : decode b_Model_isTrue 211 = .ok (.baload, 1) := by decide +kernel
theorem d_Model_isTrue_212 : decode b_Model_isTrue 212 = .ok (.ireturn, 1) := by decide +kernel
set_option maxHeartbeats 40000000 in
set_option maxRecDepth 100000 in
theorem c_M_isTrue (l : Launch) (D : va_G) (ax : Nat → ClassId) (m0 m1 m2 m3 m4 m5 m6 m7 m8 m9 m10 m11 m12 m13 m14 m15 m16 m17 m18 m19 m20 m21 m22 m23 m24 m25 m26 m27 m28 m29 m30 m31 m32 m33 m34 m35 m36 m37 m38 m39 m40 m41 m42 : Nat) (s_thrown s_taped s_size s_outSize s_kind s_value s_begin s_end s_failed s_isProgram s_half s_signs s_stacked s_name s_shift s_statements s_ifs s_whiles s_variants s_open s_isMade s_conditions s_kept s_tops s_used s_looked s_rows s_firstRow s_isBroken s_atoms : Int32) (h0 N1 o1 q : Nat) (tr : Nat → Nat) (f : Nat → Int32) (vs : Nat → Int64) (sz : Nat) (hw : wfs 6 f o1 q) (hh : hgt f o1 q = 1) (hq : q ≤ 500) (hN : o1 + 6 * q ≤ N1) (hN9 : N1 < 2 ^ 31) (htr : ∀ j, tr j ≤ 1) : Met l y_Model_isTrue (xws (.code y_Model_isTrue b_Model_isTrue 7 (some .boolean))) ({ frames := 30, cells := 0, slots := 0, locals := 1200 }) (va_Pc [.ref m0, .ref h0, .int (nI o1), .int (nI q)] (xo D ax [(m0, .inr (11, [.int s_thrown, .int s_taped, .ref m1, .int s_size, .int s_outSize, .ref m2, .int s_kind, .int s_value, .int s_begin, .int s_end, .int s_failed, .ref m3, .ref m4, .ref m5, .int s_isProgram, .int s_half, .ref m6, .ref m7, .ref m8, .ref m9, .ref m10, .ref m11, .ref m12, .ref m13, .ref m14, .ref m15, .ref m16, .ref m17, .ref m18, .ref m19, .ref m20, .int s_signs, .ref m21, .int s_stacked, .ref m22, .int s_name, .int s_shift, .int s_statements, .int s_ifs, .int s_whiles, .int s_variants, .int s_open, .ref m23, .int s_isMade, .int s_conditions, .ref m24, .ref m25, .ref m26, .ref m27, .int s_kept, .ref m28, .int s_tops, .ref m29, .int s_used, .ref m30, .ref m31, .int s_looked, .int s_rows, .int s_firstRow, .ref m32, .ref m33, .ref m34, .ref m35, .ref m36, .ref m37, .ref m38, .ref m39, .ref m40, .int s_isBroken, .ref m41, .int s_atoms, .ref m42])), (m41, .inl (ax 4, 6, .inr (.inl vs))), (m42, .inl (ax 3, 256, .inl (fun j => nI (tr j)))), (h0, .inl (ax 0, N1, .inl f))] sz)) ((va_Qi (fun (r : Int32) (u : Nat → Nat) => r = nI (u 0) ∧ (u 0 ≤ 1)) (fun (u : Nat → Nat) (t9 : State) => ∃ xtr : Nat → Nat, (∀ j, xtr j ≤ 1) ∧ va_P D classes [(m0, .inr (11, [.int s_thrown, .int s_taped, .ref m1, .int s_size, .int s_outSize, .ref m2, .int s_kind, .int s_value, .int s_begin, .int s_end, .int s_failed, .ref m3, .ref m4, .ref m5, .int s_isProgram, .int s_half, .ref m6, .ref m7, .ref m8, .ref m9, .ref m10, .ref m11, .ref m12, .ref m13, .ref m14, .ref m15, .ref m16, .ref m17, .ref m18, .ref m19, .ref m20, .int s_signs, .ref m21, .int s_stacked, .ref m22, .int s_name, .int s_shift, .int s_statements, .int s_ifs, .int s_whiles, .int s_variants, .int s_open, .ref m23, .int s_isMade, .int s_conditions, .ref m24, .ref m25, .ref m26, .ref m27, .int s_kept, .ref m28, .int s_tops, .ref m29, .int s_used, .ref m30, .ref m31, .int s_looked, .int s_rows, .int s_firstRow, .ref m32, .ref m33, .ref m34, .ref m35, .ref m36, .ref m37, .ref m38, .ref m39, .ref m40, .int s_isBroken, .ref m41, .int s_atoms, .ref m42])), (m41, .inl (ax 4, 6, .inr (.inl vs))), (m42, .inl (ax 3, 256, .inl (fun j => nI (xtr j)))), (h0, .inl (ax 0, N1, .inl f))] t9.heap ∧ va_D (va_A [(m0, .inr (11, [.int s_thrown, .int s_taped, .ref m1, .int s_size, .int s_outSize, .ref m2, .int s_kind, .int s_value, .int s_begin, .int s_end, .int s_failed, .ref m3, .ref m4, .ref m5, .int s_isProgram, .int s_half, .ref m6, .ref m7, .ref m8, .ref m9, .ref m10, .ref m11, .ref m12, .ref m13, .ref m14, .ref m15, .ref m16, .ref m17, .ref m18, .ref m19, .ref m20, .int s_signs, .ref m21, .int s_stacked, .ref m22, .int s_name, .int s_shift, .int s_statements, .int s_ifs, .int s_whiles, .int s_variants, .int s_open, .ref m23, .int s_isMade, .int s_conditions, .ref m24, .ref m25, .ref m26, .ref m27, .int s_kept, .ref m28, .int s_tops, .ref m29, .int s_used, .ref m30, .ref m31, .int s_looked, .int s_rows, .int s_firstRow, .ref m32, .ref m33, .ref m34, .ref m35, .ref m36, .ref m37, .ref m38, .ref m39, .ref m40, .int s_isBroken, .ref m41, .int s_atoms, .ref m42])), (m41, .inl (ax 4, 6, .inr (.inl vs))), (m42, .inl (ax 3, 256, .inl (fun j => nI (tr j)))), (h0, .inl (ax 0, N1, .inl f))] sz) [(m0, .inr (11, [.int s_thrown, .int s_taped, .ref m1, .int s_size, .int s_outSize, .ref m2, .int s_kind, .int s_value, .int s_begin, .int s_end, .int s_failed, .ref m3, .ref m4, .ref m5, .int s_isProgram, .int s_half, .ref m6, .ref m7, .ref m8, .ref m9, .ref m10, .ref m11, .ref m12, .ref m13, .ref m14, .ref m15, .ref m16, .ref m17, .ref m18, .ref m19, .ref m20, .int s_signs, .ref m21, .int s_stacked, .ref m22, .int s_name, .int s_shift, .int s_statements, .int s_ifs, .int s_whiles, .int s_variants, .int s_open, .ref m23, .int s_isMade, .int s_conditions, .ref m24, .ref m25, .ref m26, .ref m27, .int s_kept, .ref m28, .int s_tops, .ref m29, .int s_used, .ref m30, .ref m31, .int s_looked, .int s_rows, .int s_firstRow, .ref m32, .ref m33, .ref m34, .ref m35, .ref m36, .ref m37, .ref m38, .ref m39, .ref m40, .int s_isBroken, .ref m41, .int s_atoms, .ref m42])), (m41, .inl (ax 4, 6, .inr (.inl vs))), (m42, .inl (ax 3, 256, .inl (fun j => nI (xtr j)))), (h0, .inl (ax 0, N1, .inl f))]) (va_A [(m0, .inr (11, [.int s_thrown, .int s_taped, .ref m1, .int s_size, .int s_outSize, .ref m2, .int s_kind, .int s_value, .int s_begin, .int s_end, .int s_failed, .ref m3, .ref m4, .ref m5, .int s_isProgram, .int s_half, .ref m6, .ref m7, .ref m8, .ref m9, .ref m10, .ref m11, .ref m12, .ref m13, .ref m14, .ref m15, .ref m16, .ref m17, .ref m18, .ref m19, .ref m20, .int s_signs, .ref m21, .int s_stacked, .ref m22, .int s_name, .int s_shift, .int s_statements, .int s_ifs, .int s_whiles, .int s_variants, .int s_open, .ref m23, .int s_isMade, .int s_conditions, .ref m24, .ref m25, .ref m26, .ref m27, .int s_kept, .ref m28, .int s_tops, .ref m29, .int s_used, .ref m30, .ref m31, .int s_looked, .int s_rows, .int s_firstRow, .ref m32, .ref m33, .ref m34, .ref m35, .ref m36, .ref m37, .ref m38, .ref m39, .ref m40, .int s_isBroken, .ref m41, .int s_atoms, .ref m42])), (m41, .inl (ax 4, 6, .inr (.inl vs))), (m42, .inl (ax 3, 256, .inl (fun j => nI (tr j)))), (h0, .inl (ax 0, N1, .inl f))] sz))) 0 0 (va_A [(m0, .inr (11, [.int s_thrown, .int s_taped, .ref m1, .int s_size, .int s_outSize, .ref m2, .int s_kind, .int s_value, .int s_begin, .int s_end, .int s_failed, .ref m3, .ref m4, .ref m5, .int s_isProgram, .int s_half, .ref m6, .ref m7, .ref m8, .ref m9, .ref m10, .ref m11, .ref m12, .ref m13, .ref m14, .ref m15, .ref m16, .ref m17, .ref m18, .ref m19, .ref m20, .int s_signs, .ref m21, .int s_stacked, .ref m22, .int s_name, .int s_shift, .int s_statements, .int s_ifs, .int s_whiles, .int s_variants, .int s_open, .ref m23, .int s_isMade, .int s_conditions, .ref m24, .ref m25, .ref m26, .ref m27, .int s_kept, .ref m28, .int s_tops, .ref m29, .int s_used, .ref m30, .ref m31, .int s_looked, .int s_rows, .int s_firstRow, .ref m32, .ref m33, .ref m34, .ref m35, .ref m36, .ref m37, .ref m38, .ref m39, .ref m40, .int s_isBroken, .ref m41, .int s_atoms, .ref m42])), (m41, .inl (ax 4, 6, .inr (.inl vs))), (m42, .inl (ax 3, 256, .inl (fun j => nI (tr j)))), (h0, .inl (ax 0, N1, .inl f))] sz) := by
  refine Met.ofW (cc := b_Model_isTrue) (maxL := 7) (ret := (some .boolean)) (by decide) rfl ?_
  intro p e s m args below meth c s₁ B hml hv
  obtain ⟨rfl, hsz, hP, hK, hD0⟩ := hv
  have hx := B.exec
  have hb := B.bytes
  have hr := B.returns
  have hts := xw_hts B.pre
  have hown : s.vm.findClass R_Model = some m.cls := findClass_of_methodNamed B.named
  have hlocks := B.notSynchronized
  subst hsz
  have hD := hD0.self (sz := s.heap.size)
  have hN := xz_entry hP
  generalize hAe : va_A [(m0, .inr (11, [.int s_thrown, .int s_taped, .ref m1, .int s_size, .int s_outSize, .ref m2, .int s_kind, .int s_value, .int s_begin, .int s_end, .int s_failed, .ref m3, .ref m4, .ref m5, .int s_isProgram, .int s_half, .ref m6, .ref m7, .ref m8, .ref m9, .ref m10, .ref m11, .ref m12, .ref m13, .ref m14, .ref m15, .ref m16, .ref m17, .ref m18, .ref m19, .ref m20, .int s_signs, .ref m21, .int s_stacked, .ref m22, .int s_name, .int s_shift, .int s_statements, .int s_ifs, .int s_whiles, .int s_variants, .int s_open, .ref m23, .int s_isMade, .int s_conditions, .ref m24, .ref m25, .ref m26, .ref m27, .int s_kept, .ref m28, .int s_tops, .ref m29, .int s_used, .ref m30, .ref m31, .int s_looked, .int s_rows, .int s_firstRow, .ref m32, .ref m33, .ref m34, .ref m35, .ref m36, .ref m37, .ref m38, .ref m39, .ref m40, .int s_isBroken, .ref m41, .int s_atoms, .ref m42])), (m41, .inl (ax 4, 6, .inr (.inl vs))), (m42, .inl (ax 3, 256, .inl (fun j => nI (tr j)))), (h0, .inl (ax 0, N1, .inl f))] s.heap.size = A at hD hN ⊢
  have hA : ∀ q : Nat, s.heap.size ≤ q → A q := fun q h => by rw [← hAe]; exact Or.inr h
  have hS : va_S A s.heap s.heap [] := va_S.rf
  have hl0 := lv_entry ([.ref m0, .ref h0, .int (nI o1), .int (nI q)]) (n := 7) (Nat.le_of_ble_eq_true rfl)
  rw [lg_entry_eq]
  generalize (lg_sl ([.ref m0, .ref h0, .int (nI o1), .int (nI q)]) ++ List.replicate (7 - (lg_sl ([.ref m0, .ref h0, .int (nI o1), .int (nI q)])).length) Slot.unset).toArray = ls at hl0 ⊢
  have hl1 : lv_has ls 7 [(0, .ref m0), (1, .ref h0), (2, .int (nI o1)), (3, .int (nI q))] := hl0
  refine xw_gen (fun Z9 hQe => ?_)
  refine lv_iconst (v := 0) hx hb d_Model_isTrue_0 (by decide) ?_
  refine lv_istore (lv' := [(4, .int 0), (0, .ref m0), (1, .ref h0), (2, .int (nI o1)), (3, .int (nI q))]) hx hb d_Model_isTrue_1 hl1 (by decide) rfl (fun ls hl2 => ?_)
  clear hl1; have hl1 := hl2; clear hl2
  refine lv_iconst (v := 0) hx hb d_Model_isTrue_3 (by decide) ?_
  refine lv_istore (lv' := [(5, .int 0), (4, .int 0), (0, .ref m0), (1, .ref h0), (2, .int (nI o1)), (3, .int (nI q))]) hx hb d_Model_isTrue_4 hl1 (by decide) rfl (fun ls hl2 => ?_)
  clear hl1; have hl1 := hl2; clear hl2
  suffices key_1 : ∀ (k : Nat) (i1 n1 : Nat) (tr1 : Nat → Nat), q - i1 < k → i1 ≤ q → n1 = hgt f o1 i1 → (∀ j, tr1 j ≤ 1) → ∀ (H : Heap) (locs : List Loc) (ls : Array Slot), va_P D classes [(m0, .inr (11, [.int s_thrown, .int s_taped, .ref m1, .int s_size, .int s_outSize, .ref m2, .int s_kind, .int s_value, .int s_begin, .int s_end, .int s_failed, .ref m3, .ref m4, .ref m5, .int s_isProgram, .int s_half, .ref m6, .ref m7, .ref m8, .ref m9, .ref m10, .ref m11, .ref m12, .ref m13, .ref m14, .ref m15, .ref m16, .ref m17, .ref m18, .ref m19, .ref m20, .int s_signs, .ref m21, .int s_stacked, .ref m22, .int s_name, .int s_shift, .int s_statements, .int s_ifs, .int s_whiles, .int s_variants, .int s_open, .ref m23, .int s_isMade, .int s_conditions, .ref m24, .ref m25, .ref m26, .ref m27, .int s_kept, .ref m28, .int s_tops, .ref m29, .int s_used, .ref m30, .ref m31, .int s_looked, .int s_rows, .int s_firstRow, .ref m32, .ref m33, .ref m34, .ref m35, .ref m36, .ref m37, .ref m38, .ref m39, .ref m40, .int s_isBroken, .ref m41, .int s_atoms, .ref m42])), (m41, .inl (ax 4, 6, .inr (.inl vs))), (m42, .inl (ax 3, 256, .inl (fun j => nI (tr1 j)))), (h0, .inl (ax 0, N1, .inl f))] H → va_D A [(m0, .inr (11, [.int s_thrown, .int s_taped, .ref m1, .int s_size, .int s_outSize, .ref m2, .int s_kind, .int s_value, .int s_begin, .int s_end, .int s_failed, .ref m3, .ref m4, .ref m5, .int s_isProgram, .int s_half, .ref m6, .ref m7, .ref m8, .ref m9, .ref m10, .ref m11, .ref m12, .ref m13, .ref m14, .ref m15, .ref m16, .ref m17, .ref m18, .ref m19, .ref m20, .int s_signs, .ref m21, .int s_stacked, .ref m22, .int s_name, .int s_shift, .int s_statements, .int s_ifs, .int s_whiles, .int s_variants, .int s_open, .ref m23, .int s_isMade, .int s_conditions, .ref m24, .ref m25, .ref m26, .ref m27, .int s_kept, .ref m28, .int s_tops, .ref m29, .int s_used, .ref m30, .ref m31, .int s_looked, .int s_rows, .int s_firstRow, .ref m32, .ref m33, .ref m34, .ref m35, .ref m36, .ref m37, .ref m38, .ref m39, .ref m40, .int s_isBroken, .ref m41, .int s_atoms, .ref m42])), (m41, .inl (ax 4, 6, .inr (.inl vs))), (m42, .inl (ax 3, 256, .inl (fun j => nI (tr1 j)))), (h0, .inl (ax 0, N1, .inl f))] → va_S A s.heap H locs → lv_has ls 7 [(0, .ref m0), (1, .ref h0), (2, .int (nI o1)), (3, .int (nI q)), (4, .int (nI n1)), (5, .int (nI i1))] → W p l e (headSpec (xws (.code y_Model_isTrue b_Model_isTrue 7 (some .boolean))) ({ frames := 30, cells := 0, slots := 0, locals := 1200 })).room s m ([.ref m0, .ref h0, .int (nI o1), .int (nI q)] : List Value).toArray below meth c H locs 0 0 Z9 (F0 m 6 ls []) from key_1 (q - 0 + 1) 0 0 tr (Nat.lt_succ_self _) (by first | assumption | omega) rfl htr _ _ _ (hP) (hD) hS (lv_sub hl1 [2, 3, 4, 5, 1, 0] rfl)
  intro k_2
  induction k_2 with
  | zero =>
    intro i1 n1 tr1 hk_4
    exact absurd hk_4 (Nat.not_lt_zero _)
  | succ k_2 ih_3 =>
    clear hP hD hS hl1
    intro i1 n1 tr1 hk_4 hi1 hn1 htr1 H locs ls hP hD hS hl1
    refine lv_iload hx hb d_Model_isTrue_6 (lv_at hl1 5 rfl) ?_
    refine lv_iload_n hx hb d_Model_isTrue_8 rfl (lv_at hl1 3 rfl) ?_
    refine lv_icmp_ge (tgt := 206) hx hb d_Model_isTrue_9 (by decide) (fun c_5 => ?_) (fun c_5 => ?_)
    · replace c_5 : q ≤ i1 := (nI_leI (a := q) (b := i1) (by first | exact Nat.lt_of_lt_of_le (by assumption) (by decide) | exact Nat.lt_of_le_of_lt (by assumption) (by decide) | omega) (by first | exact Nat.lt_of_lt_of_le (by assumption) (by decide) | exact Nat.lt_of_le_of_lt (by assumption) (by decide) | omega)).mp c_5
      have hb0 := htr1 0
      refine lv_aload_n hx hb d_Model_isTrue_206 rfl (lv_at hl1 0 rfl) ?_
      refine va_get (D := D) (ci := 11) (v := .ref m42) (C := R_Model) (T := F_Model) (N := 72) hx hb hts i_Model hown hK.1 hP 0 rfl rfl 71 (by decide) (hts _ wd_1107) (fun _ h9 => h9) rfl d_Model_isTrue_207 ?_
      refine lv_iconst (v := 0) hx hb d_Model_isTrue_210 (by decide) ?_
      refine va_zald hx hb hK.1 hP 2 3 rfl rfl (by unfold vp_in; decide) d_Model_isTrue_211 ?_
      refine W.eq (g2 := F0 m 212 ls [.int (nI (tr1 0))]) (by rfl) ?_
      rw [← hQe]
      obtain ⟨hP9, hD9⟩ := xw_sub2 (wc := (fun (u : Nat → Nat) (xtr : Nat → Nat) => [(m0, .inr (11, [.int s_thrown, .int s_taped, .ref m1, .int s_size, .int s_outSize, .ref m2, .int s_kind, .int s_value, .int s_begin, .int s_end, .int s_failed, .ref m3, .ref m4, .ref m5, .int s_isProgram, .int s_half, .ref m6, .ref m7, .ref m8, .ref m9, .ref m10, .ref m11, .ref m12, .ref m13, .ref m14, .ref m15, .ref m16, .ref m17, .ref m18, .ref m19, .ref m20, .int s_signs, .ref m21, .int s_stacked, .ref m22, .int s_name, .int s_shift, .int s_statements, .int s_ifs, .int s_whiles, .int s_variants, .int s_open, .ref m23, .int s_isMade, .int s_conditions, .ref m24, .ref m25, .ref m26, .ref m27, .int s_kept, .ref m28, .int s_tops, .ref m29, .int s_used, .ref m30, .ref m31, .int s_looked, .int s_rows, .int s_firstRow, .ref m32, .ref m33, .ref m34, .ref m35, .ref m36, .ref m37, .ref m38, .ref m39, .ref m40, .int s_isBroken, .ref m41, .int s_atoms, .ref m42])), (m41, .inl (ax 4, 6, .inr (.inl vs))), (m42, .inl (ax 3, 256, .inl (fun j => nI (xtr j)))), (h0, .inl (ax 0, N1, .inl f))]) (ixn [(tr1 0)]) tr1) hP hD [0, 1, 2, 3] (by decide) rfl
      have hex0 : ∀ j, tr1 j ≤ 1 := (by assumption)
      have hsp0 : (tr1 0) ≤ 1 := (by first | assumption | omega)
      exact W.zret (v := nI (tr1 0)) hx hb hr (nI_bool (by first | assumption | omega)) (fun t ht hW => ⟨⟨nI (tr1 0), ixn [(tr1 0)], rfl, ⟨rfl, hsp0⟩, ⟨tr1, hex0, by rw [ht]; exact hP9, hD9⟩⟩, hS.F ht⟩) hS.2.2 d_Model_isTrue_212
    · replace c_5 : ¬ q ≤ i1 := fun hq9 => c_5 ((nI_leI (a := q) (b := i1) (by first | exact Nat.lt_of_lt_of_le (by assumption) (by decide) | exact Nat.lt_of_le_of_lt (by assumption) (by decide) | omega) (by first | exact Nat.lt_of_lt_of_le (by assumption) (by decide) | exact Nat.lt_of_le_of_lt (by assumption) (by decide) | omega)).mpr hq9)
      refine lv_iload_n hx hb d_Model_isTrue_12 rfl (lv_at hl1 2 rfl) ?_
      refine lv_bipush (v := 6) hx hb d_Model_isTrue_13 (by decide) ?_
      refine lv_iload hx hb d_Model_isTrue_15 (lv_at hl1 5 rfl) ?_
      refine lv_imul hx hb d_Model_isTrue_17 ?_
      refine lv_topi (fun z_6 ez_6 => ?_)
      have ez_6 : z_6 = nI (6 * i1) := ez_6.trans (pk_mul 6 i1)
      subst ez_6
      refine lv_iadd hx hb d_Model_isTrue_18 ?_
      refine lv_topi (fun z_7 ez_7 => ?_)
      have ez_7 : z_7 = nI (o1 + 6 * i1) := ez_7.trans (nI_add o1 (6 * i1))
      subst ez_7
      refine lv_istore (lv' := [(6, .int (nI (o1 + 6 * i1))), (0, .ref m0), (1, .ref h0), (2, .int (nI o1)), (3, .int (nI q)), (4, .int (nI n1)), (5, .int (nI i1))]) hx hb d_Model_isTrue_19 hl1 (by decide) rfl (fun ls hl2 => ?_)
      clear hl1; have hl1 := hl2; clear hl2
      have hk := hw i1 (by first | assumption | omega)
      have hle := hgt_le (f := f) (b := o1) i1
      have hle2 := hgt_fin (f := f) (b := o1) (q - i1) i1
      rw [show i1 + (q - i1) = q by omega, hh] at hle2
      refine lv_aload_n hx hb d_Model_isTrue_21 rfl (lv_at hl1 2 rfl) ?_
      refine lv_iload hx hb d_Model_isTrue_22 (lv_at hl1 0 rfl) ?_
      refine va_iald hx hb hK.1 hP 3 0 rfl rfl (vp_in_nI (by first | assumption | omega) (by first | exact Nat.lt_of_lt_of_le (by assumption) (by decide) | exact Nat.lt_of_le_of_lt (by assumption) (by decide) | omega)) d_Model_isTrue_24 ?_
      refine W.eq (g2 := F0 m 25 ls [.int (f (o1 + 6 * i1))]) (by rw [nI_clamp (by first | exact Nat.lt_of_lt_of_le (by assumption) (by decide) | exact Nat.lt_of_le_of_lt (by assumption) (by decide) | omega)]) ?_
      refine lv_if_ne (tgt := 82) hx hb d_Model_isTrue_25 (by decide) (fun c_8 => ?_) (fun c_8 => ?_)
      · refine lv_aload_n hx hb d_Model_isTrue_82 rfl (lv_at hl1 2 rfl) ?_
        refine lv_iload hx hb d_Model_isTrue_83 (lv_at hl1 0 rfl) ?_
        refine va_iald hx hb hK.1 hP 3 0 rfl rfl (vp_in_nI (by first | assumption | omega) (by first | exact Nat.lt_of_lt_of_le (by assumption) (by decide) | exact Nat.lt_of_le_of_lt (by assumption) (by decide) | omega)) d_Model_isTrue_85 ?_
        refine W.eq (g2 := F0 m 86 ls [.int (f (o1 + 6 * i1))]) (by rw [nI_clamp (by first | exact Nat.lt_of_lt_of_le (by assumption) (by decide) | exact Nat.lt_of_le_of_lt (by assumption) (by decide) | omega)]) ?_
        refine lv_iconst (v := 1) hx hb d_Model_isTrue_86 (by decide) ?_
        refine lv_icmp_ne (tgt := 119) hx hb d_Model_isTrue_87 (by decide) (fun c_9 => ?_) (fun c_9 => ?_)
        · obtain ⟨hg2, hgx, hop⟩ := wf_bin hk (by assumption) (by assumption)
          have hb1 := htr1 (n1 - 1)
          have hb2 := htr1 (n1 - 2)
          refine lv_aload_n hx hb d_Model_isTrue_119 rfl (lv_at hl1 1 rfl) ?_
          refine va_get (D := D) (ci := 11) (v := .ref m42) (C := R_Model) (T := F_Model) (N := 72) hx hb hts i_Model hown hK.1 hP 0 rfl rfl 71 (by decide) (hts _ wd_1107) (fun _ h9 => h9) rfl d_Model_isTrue_120 ?_
          refine lv_iload hx hb d_Model_isTrue_123 (lv_at hl1 5 rfl) ?_
          refine lv_iconst (v := 2) hx hb d_Model_isTrue_125 (by decide) ?_
          refine lv_isub hx hb d_Model_isTrue_126 ?_
          refine lv_topi (fun z_10 ez_10 => ?_)
          have ez_10 : z_10 = nI (n1 - 2) := ez_10.trans (pk_sub (a := n1) (b := 2) (by first | assumption | omega))
          subst ez_10
          refine lv_aload_n hx hb d_Model_isTrue_127 rfl (lv_at hl1 2 rfl) ?_
          refine lv_iload hx hb d_Model_isTrue_128 (lv_at hl1 0 rfl) ?_
          refine va_iald hx hb hK.1 hP 3 0 rfl rfl (vp_in_nI (by first | assumption | omega) (by first | exact Nat.lt_of_lt_of_le (by assumption) (by decide) | exact Nat.lt_of_le_of_lt (by assumption) (by decide) | omega)) d_Model_isTrue_130 ?_
          refine W.eq (g2 := F0 m 131 ls [.int (f (o1 + 6 * i1)), .int (nI (n1 - 2)), .ref m42]) (by rw [nI_clamp (by first | exact Nat.lt_of_lt_of_le (by assumption) (by decide) | exact Nat.lt_of_le_of_lt (by assumption) (by decide) | omega)]) ?_
          refine lv_iconst (v := 2) hx hb d_Model_isTrue_131 (by decide) ?_
          refine lv_icmp_ne (tgt := 167) hx hb d_Model_isTrue_132 (by decide) (fun c_11 => ?_) (fun c_11 => ?_)
          · refine lv_aload_n hx hb d_Model_isTrue_167 rfl (lv_at hl1 1 rfl) ?_
            refine va_get (D := D) (ci := 11) (v := .ref m42) (C := R_Model) (T := F_Model) (N := 72) hx hb hts i_Model hown hK.1 hP 0 rfl rfl 71 (by decide) (hts _ wd_1107) (fun _ h9 => h9) rfl d_Model_isTrue_168 ?_
            refine lv_iload hx hb d_Model_isTrue_171 (lv_at hl1 5 rfl) ?_
            refine lv_iconst (v := 2) hx hb d_Model_isTrue_173 (by decide) ?_
            refine lv_isub hx hb d_Model_isTrue_174 ?_
            refine lv_topi (fun z_12 ez_12 => ?_)
            have ez_12 : z_12 = nI (n1 - 2) := ez_12.trans (pk_sub (a := n1) (b := 2) (by first | assumption | omega))
            subst ez_12
            refine va_zald hx hb hK.1 hP 2 3 rfl rfl (vp_in_nI (by first | assumption | omega) (by decide)) d_Model_isTrue_175 ?_
            refine W.eq (g2 := F0 m 176 ls [.int (nI (tr1 (n1 - 2))), .int (nI (n1 - 2)), .ref m42]) (by rw [nI_clamp (by first | exact Nat.lt_of_lt_of_le (by assumption) (by decide) | exact Nat.lt_of_le_of_lt (by assumption) (by decide) | omega)]) ?_
            refine lv_if_ne (tgt := 191) hx hb d_Model_isTrue_176 (by decide) (fun c_13 => ?_) (fun c_13 => ?_)
            · replace c_13 : ¬ tr1 (n1 - 2) = 0 := fun hq9 => c_13 ((nI_eq (a := tr1 (n1 - 2)) (b := 0) (by first | exact Nat.lt_of_lt_of_le (by assumption) (by decide) | exact Nat.lt_of_le_of_lt (by assumption) (by decide) | omega) (by decide)).mpr hq9)
              refine lv_iconst (v := 1) hx hb d_Model_isTrue_191 (by decide) ?_
              refine lv_goto (tgt := 196) hx hb d_Model_isTrue_192 (by decide) ?_
              refine va_zast hx hb hK.1 hP hD hS 2 3 rfl rfl (vp_in_nI (by first | assumption | omega) (by decide)) d_Model_isTrue_196 (fun H_14 locs hP1 hD1 hS1 => ?_)
              rw [nI_clamp (by first | exact Nat.lt_of_lt_of_le (by assumption) (by decide) | exact Nat.lt_of_le_of_lt (by assumption) (by decide) | omega)] at hP1 hD1
              rw [xf_supz tr1 (n1 - 2) 1 1 rfl] at hP1 hD1
              clear hP hD hS
              have hS := hS1
              have hW7 : (fun w9 : va_W => va_P D classes w9 H_14 ∧ va_D A w9) [(m0, .inr (11, [.int s_thrown, .int s_taped, .ref m1, .int s_size, .int s_outSize, .ref m2, .int s_kind, .int s_value, .int s_begin, .int s_end, .int s_failed, .ref m3, .ref m4, .ref m5, .int s_isProgram, .int s_half, .ref m6, .ref m7, .ref m8, .ref m9, .ref m10, .ref m11, .ref m12, .ref m13, .ref m14, .ref m15, .ref m16, .ref m17, .ref m18, .ref m19, .ref m20, .int s_signs, .ref m21, .int s_stacked, .ref m22, .int s_name, .int s_shift, .int s_statements, .int s_ifs, .int s_whiles, .int s_variants, .int s_open, .ref m23, .int s_isMade, .int s_conditions, .ref m24, .ref m25, .ref m26, .ref m27, .int s_kept, .ref m28, .int s_tops, .ref m29, .int s_used, .ref m30, .ref m31, .int s_looked, .int s_rows, .int s_firstRow, .ref m32, .ref m33, .ref m34, .ref m35, .ref m36, .ref m37, .ref m38, .ref m39, .ref m40, .int s_isBroken, .ref m41, .int s_atoms, .ref m42])), (m41, .inl (ax 4, 6, .inr (.inl vs))), (m42, .inl (ax 3, 256, .inl (fun j => nI (sup tr1 (n1 - 2) 1 j)))), (h0, .inl (ax 0, N1, .inl f))] := ⟨hP1, hD1⟩
              obtain ⟨hP, hD⟩ := hW7
              clear hP1 hD1 hS1
              refine lv_iinc (v := nI (n1 - 1)) (lv' := [(4, .int (nI (n1 - 1))), (6, .int (nI (o1 + 6 * i1))), (0, .ref m0), (1, .ref h0), (2, .int (nI o1)), (3, .int (nI q)), (5, .int (nI i1))]) hx hb d_Model_isTrue_197 hl1 (k := 5) rfl (nI_dec (a := n1) (by first | assumption | omega)) (by decide) rfl (fun ls hl2 => ?_)
              clear hl1; have hl1 := hl2; clear hl2
              refine lv_iinc (v := nI (i1 + 1)) (lv' := [(5, .int (nI (i1 + 1))), (4, .int (nI (n1 - 1))), (6, .int (nI (o1 + 6 * i1))), (0, .ref m0), (1, .ref h0), (2, .int (nI o1)), (3, .int (nI q))]) hx hb d_Model_isTrue_200 hl1 (k := 6) rfl (nI_add i1 1) (by decide) rfl (fun ls hl2 => ?_)
              clear hl1; have hl1 := hl2; clear hl2
              refine lv_goto (tgt := 6) hx hb d_Model_isTrue_203 (by decide) ?_
              exact ih_3 (i1 + 1) (n1 - 1) (sup tr1 (n1 - 2) 1) (by first | assumption | omega) (by first | assumption | omega) (by first | assumption | omega) (sup1 htr1 (by first | assumption | omega)) _ _ _ (hP.sub [0, 1, 2, 3] rfl) (hD.sub [0, 1, 2, 3] (by decide) rfl) hS (lv_sub hl1 [3, 4, 5, 6, 1, 0] rfl)
            · replace c_13 : tr1 (n1 - 2) = 0 := (nI_eq (a := tr1 (n1 - 2)) (b := 0) (by first | exact Nat.lt_of_lt_of_le (by assumption) (by decide) | exact Nat.lt_of_le_of_lt (by assumption) (by decide) | omega) (by decide)).mp c_13
              refine lv_aload_n hx hb d_Model_isTrue_179 rfl (lv_at hl1 1 rfl) ?_
              refine va_get (D := D) (ci := 11) (v := .ref m42) (C := R_Model) (T := F_Model) (N := 72) hx hb hts i_Model hown hK.1 hP 0 rfl rfl 71 (by decide) (hts _ wd_1107) (fun _ h9 => h9) rfl d_Model_isTrue_180 ?_
              refine lv_iload hx hb d_Model_isTrue_183 (lv_at hl1 5 rfl) ?_
              refine lv_iconst (v := 1) hx hb d_Model_isTrue_185 (by decide) ?_
              refine lv_isub hx hb d_Model_isTrue_186 ?_
              refine lv_topi (fun z_15 ez_15 => ?_)
              have ez_15 : z_15 = nI (n1 - 1) := ez_15.trans (pk_sub (a := n1) (b := 1) (by first | assumption | omega))
              subst ez_15
              refine va_zald hx hb hK.1 hP 2 3 rfl rfl (vp_in_nI (by first | assumption | omega) (by decide)) d_Model_isTrue_187 ?_
              refine W.eq (g2 := F0 m 188 ls [.int (nI (tr1 (n1 - 1))), .int (nI (n1 - 2)), .ref m42]) (by rw [nI_clamp (by first | exact Nat.lt_of_lt_of_le (by assumption) (by decide) | exact Nat.lt_of_le_of_lt (by assumption) (by decide) | omega)]) ?_
              refine lv_if_eq (tgt := 195) hx hb d_Model_isTrue_188 (by decide) (fun c_16 => ?_) (fun c_16 => ?_)
              · replace c_16 : tr1 (n1 - 1) = 0 := (nI_eq (a := tr1 (n1 - 1)) (b := 0) (by first | exact Nat.lt_of_lt_of_le (by assumption) (by decide) | exact Nat.lt_of_le_of_lt (by assumption) (by decide) | omega) (by decide)).mp c_16
                refine lv_iconst (v := 0) hx hb d_Model_isTrue_195 (by decide) ?_
                refine va_zast hx hb hK.1 hP hD hS 2 3 rfl rfl (vp_in_nI (by first | assumption | omega) (by decide)) d_Model_isTrue_196 (fun H_17 locs hP1 hD1 hS1 => ?_)
                rw [nI_clamp (by first | exact Nat.lt_of_lt_of_le (by assumption) (by decide) | exact Nat.lt_of_le_of_lt (by assumption) (by decide) | omega)] at hP1 hD1
                rw [xf_supz tr1 (n1 - 2) 0 0 rfl] at hP1 hD1
                clear hP hD hS
                have hS := hS1
                have hW7 : (fun w9 : va_W => va_P D classes w9 H_17 ∧ va_D A w9) [(m0, .inr (11, [.int s_thrown, .int s_taped, .ref m1, .int s_size, .int s_outSize, .ref m2, .int s_kind, .int s_value, .int s_begin, .int s_end, .int s_failed, .ref m3, .ref m4, .ref m5, .int s_isProgram, .int s_half, .ref m6, .ref m7, .ref m8, .ref m9, .ref m10, .ref m11, .ref m12, .ref m13, .ref m14, .ref m15, .ref m16, .ref m17, .ref m18, .ref m19, .ref m20, .int s_signs, .ref m21, .int s_stacked, .ref m22, .int s_name, .int s_shift, .int s_statements, .int s_ifs, .int s_whiles, .int s_variants, .int s_open, .ref m23, .int s_isMade, .int s_conditions, .ref m24, .ref m25, .ref m26, .ref m27, .int s_kept, .ref m28, .int s_tops, .ref m29, .int s_used, .ref m30, .ref m31, .int s_looked, .int s_rows, .int s_firstRow, .ref m32, .ref m33, .ref m34, .ref m35, .ref m36, .ref m37, .ref m38, .ref m39, .ref m40, .int s_isBroken, .ref m41, .int s_atoms, .ref m42])), (m41, .inl (ax 4, 6, .inr (.inl vs))), (m42, .inl (ax 3, 256, .inl (fun j => nI (sup tr1 (n1 - 2) 0 j)))), (h0, .inl (ax 0, N1, .inl f))] := ⟨hP1, hD1⟩
                obtain ⟨hP, hD⟩ := hW7
                clear hP1 hD1 hS1
                refine lv_iinc (v := nI (n1 - 1)) (lv' := [(4, .int (nI (n1 - 1))), (6, .int (nI (o1 + 6 * i1))), (0, .ref m0), (1, .ref h0), (2, .int (nI o1)), (3, .int (nI q)), (5, .int (nI i1))]) hx hb d_Model_isTrue_197 hl1 (k := 5) rfl (nI_dec (a := n1) (by first | assumption | omega)) (by decide) rfl (fun ls hl2 => ?_)
                clear hl1; have hl1 := hl2; clear hl2
                refine lv_iinc (v := nI (i1 + 1)) (lv' := [(5, .int (nI (i1 + 1))), (4, .int (nI (n1 - 1))), (6, .int (nI (o1 + 6 * i1))), (0, .ref m0), (1, .ref h0), (2, .int (nI o1)), (3, .int (nI q))]) hx hb d_Model_isTrue_200 hl1 (k := 6) rfl (nI_add i1 1) (by decide) rfl (fun ls hl2 => ?_)
                clear hl1; have hl1 := hl2; clear hl2
                refine lv_goto (tgt := 6) hx hb d_Model_isTrue_203 (by decide) ?_
                exact ih_3 (i1 + 1) (n1 - 1) (sup tr1 (n1 - 2) 0) (by first | assumption | omega) (by first | assumption | omega) (by first | assumption | omega) (sup1 htr1 (by first | assumption | omega)) _ _ _ (hP.sub [0, 1, 2, 3] rfl) (hD.sub [0, 1, 2, 3] (by decide) rfl) hS (lv_sub hl1 [3, 4, 5, 6, 1, 0] rfl)
              · replace c_16 : ¬ tr1 (n1 - 1) = 0 := fun hq9 => c_16 ((nI_eq (a := tr1 (n1 - 1)) (b := 0) (by first | exact Nat.lt_of_lt_of_le (by assumption) (by decide) | exact Nat.lt_of_le_of_lt (by assumption) (by decide) | omega) (by decide)).mpr hq9)
                refine lv_iconst (v := 1) hx hb d_Model_isTrue_191 (by decide) ?_
                refine lv_goto (tgt := 196) hx hb d_Model_isTrue_192 (by decide) ?_
                refine va_zast hx hb hK.1 hP hD hS 2 3 rfl rfl (vp_in_nI (by first | assumption | omega) (by decide)) d_Model_isTrue_196 (fun H_18 locs hP1 hD1 hS1 => ?_)
                rw [nI_clamp (by first | exact Nat.lt_of_lt_of_le (by assumption) (by decide) | exact Nat.lt_of_le_of_lt (by assumption) (by decide) | omega)] at hP1 hD1
                rw [xf_supz tr1 (n1 - 2) 1 1 rfl] at hP1 hD1
                clear hP hD hS
                have hS := hS1
                have hW7 : (fun w9 : va_W => va_P D classes w9 H_18 ∧ va_D A w9) [(m0, .inr (11, [.int s_thrown, .int s_taped, .ref m1, .int s_size, .int s_outSize, .ref m2, .int s_kind, .int s_value, .int s_begin, .int s_end, .int s_failed, .ref m3, .ref m4, .ref m5, .int s_isProgram, .int s_half, .ref m6, .ref m7, .ref m8, .ref m9, .ref m10, .ref m11, .ref m12, .ref m13, .ref m14, .ref m15, .ref m16, .ref m17, .ref m18, .ref m19, .ref m20, .int s_signs, .ref m21, .int s_stacked, .ref m22, .int s_name, .int s_shift, .int s_statements, .int s_ifs, .int s_whiles, .int s_variants, .int s_open, .ref m23, .int s_isMade, .int s_conditions, .ref m24, .ref m25, .ref m26, .ref m27, .int s_kept, .ref m28, .int s_tops, .ref m29, .int s_used, .ref m30, .ref m31, .int s_looked, .int s_rows, .int s_firstRow, .ref m32, .ref m33, .ref m34, .ref m35, .ref m36, .ref m37, .ref m38, .ref m39, .ref m40, .int s_isBroken, .ref m41, .int s_atoms, .ref m42])), (m41, .inl (ax 4, 6, .inr (.inl vs))), (m42, .inl (ax 3, 256, .inl (fun j => nI (sup tr1 (n1 - 2) 1 j)))), (h0, .inl (ax 0, N1, .inl f))] := ⟨hP1, hD1⟩
                obtain ⟨hP, hD⟩ := hW7
                clear hP1 hD1 hS1
                refine lv_iinc (v := nI (n1 - 1)) (lv' := [(4, .int (nI (n1 - 1))), (6, .int (nI (o1 + 6 * i1))), (0, .ref m0), (1, .ref h0), (2, .int (nI o1)), (3, .int (nI q)), (5, .int (nI i1))]) hx hb d_Model_isTrue_197 hl1 (k := 5) rfl (nI_dec (a := n1) (by first | assumption | omega)) (by decide) rfl (fun ls hl2 => ?_)
                clear hl1; have hl1 := hl2; clear hl2
                refine lv_iinc (v := nI (i1 + 1)) (lv' := [(5, .int (nI (i1 + 1))), (4, .int (nI (n1 - 1))), (6, .int (nI (o1 + 6 * i1))), (0, .ref m0), (1, .ref h0), (2, .int (nI o1)), (3, .int (nI q))]) hx hb d_Model_isTrue_200 hl1 (k := 6) rfl (nI_add i1 1) (by decide) rfl (fun ls hl2 => ?_)
                clear hl1; have hl1 := hl2; clear hl2
                refine lv_goto (tgt := 6) hx hb d_Model_isTrue_203 (by decide) ?_
                exact ih_3 (i1 + 1) (n1 - 1) (sup tr1 (n1 - 2) 1) (by first | assumption | omega) (by first | assumption | omega) (by first | assumption | omega) (sup1 htr1 (by first | assumption | omega)) _ _ _ (hP.sub [0, 1, 2, 3] rfl) (hD.sub [0, 1, 2, 3] (by decide) rfl) hS (lv_sub hl1 [3, 4, 5, 6, 1, 0] rfl)
          · refine lv_aload_n hx hb d_Model_isTrue_135 rfl (lv_at hl1 1 rfl) ?_
            refine va_get (D := D) (ci := 11) (v := .ref m42) (C := R_Model) (T := F_Model) (N := 72) hx hb hts i_Model hown hK.1 hP 0 rfl rfl 71 (by decide) (hts _ wd_1107) (fun _ h9 => h9) rfl d_Model_isTrue_136 ?_
            refine lv_iload hx hb d_Model_isTrue_139 (lv_at hl1 5 rfl) ?_
            refine lv_iconst (v := 2) hx hb d_Model_isTrue_141 (by decide) ?_
            refine lv_isub hx hb d_Model_isTrue_142 ?_
            refine lv_topi (fun z_19 ez_19 => ?_)
            have ez_19 : z_19 = nI (n1 - 2) := ez_19.trans (pk_sub (a := n1) (b := 2) (by first | assumption | omega))
            subst ez_19
            refine va_zald hx hb hK.1 hP 2 3 rfl rfl (vp_in_nI (by first | assumption | omega) (by decide)) d_Model_isTrue_143 ?_
            refine W.eq (g2 := F0 m 144 ls [.int (nI (tr1 (n1 - 2))), .int (nI (n1 - 2)), .ref m42]) (by rw [nI_clamp (by first | exact Nat.lt_of_lt_of_le (by assumption) (by decide) | exact Nat.lt_of_le_of_lt (by assumption) (by decide) | omega)]) ?_
            refine lv_if_eq (tgt := 163) hx hb d_Model_isTrue_144 (by decide) (fun c_20 => ?_) (fun c_20 => ?_)
            · replace c_20 : tr1 (n1 - 2) = 0 := (nI_eq (a := tr1 (n1 - 2)) (b := 0) (by first | exact Nat.lt_of_lt_of_le (by assumption) (by decide) | exact Nat.lt_of_le_of_lt (by assumption) (by decide) | omega) (by decide)).mp c_20
              refine lv_iconst (v := 0) hx hb d_Model_isTrue_163 (by decide) ?_
              refine lv_goto (tgt := 196) hx hb d_Model_isTrue_164 (by decide) ?_
              refine va_zast hx hb hK.1 hP hD hS 2 3 rfl rfl (vp_in_nI (by first | assumption | omega) (by decide)) d_Model_isTrue_196 (fun H_21 locs hP1 hD1 hS1 => ?_)
              rw [nI_clamp (by first | exact Nat.lt_of_lt_of_le (by assumption) (by decide) | exact Nat.lt_of_le_of_lt (by assumption) (by decide) | omega)] at hP1 hD1
              rw [xf_supz tr1 (n1 - 2) 0 0 rfl] at hP1 hD1
              clear hP hD hS
              have hS := hS1
              have hW7 : (fun w9 : va_W => va_P D classes w9 H_21 ∧ va_D A w9) [(m0, .inr (11, [.int s_thrown, .int s_taped, .ref m1, .int s_size, .int s_outSize, .ref m2, .int s_kind, .int s_value, .int s_begin, .int s_end, .int s_failed, .ref m3, .ref m4, .ref m5, .int s_isProgram, .int s_half, .ref m6, .ref m7, .ref m8, .ref m9, .ref m10, .ref m11, .ref m12, .ref m13, .ref m14, .ref m15, .ref m16, .ref m17, .ref m18, .ref m19, .ref m20, .int s_signs, .ref m21, .int s_stacked, .ref m22, .int s_name, .int s_shift, .int s_statements, .int s_ifs, .int s_whiles, .int s_variants, .int s_open, .ref m23, .int s_isMade, .int s_conditions, .ref m24, .ref m25, .ref m26, .ref m27, .int s_kept, .ref m28, .int s_tops, .ref m29, .int s_used, .ref m30, .ref m31, .int s_looked, .int s_rows, .int s_firstRow, .ref m32, .ref m33, .ref m34, .ref m35, .ref m36, .ref m37, .ref m38, .ref m39, .ref m40, .int s_isBroken, .ref m41, .int s_atoms, .ref m42])), (m41, .inl (ax 4, 6, .inr (.inl vs))), (m42, .inl (ax 3, 256, .inl (fun j => nI (sup tr1 (n1 - 2) 0 j)))), (h0, .inl (ax 0, N1, .inl f))] := ⟨hP1, hD1⟩
              obtain ⟨hP, hD⟩ := hW7
              clear hP1 hD1 hS1
              refine lv_iinc (v := nI (n1 - 1)) (lv' := [(4, .int (nI (n1 - 1))), (6, .int (nI (o1 + 6 * i1))), (0, .ref m0), (1, .ref h0), (2, .int (nI o1)), (3, .int (nI q)), (5, .int (nI i1))]) hx hb d_Model_isTrue_197 hl1 (k := 5) rfl (nI_dec (a := n1) (by first | assumption | omega)) (by decide) rfl (fun ls hl2 => ?_)
              clear hl1; have hl1 := hl2; clear hl2
              refine lv_iinc (v := nI (i1 + 1)) (lv' := [(5, .int (nI (i1 + 1))), (4, .int (nI (n1 - 1))), (6, .int (nI (o1 + 6 * i1))), (0, .ref m0), (1, .ref h0), (2, .int (nI o1)), (3, .int (nI q))]) hx hb d_Model_isTrue_200 hl1 (k := 6) rfl (nI_add i1 1) (by decide) rfl (fun ls hl2 => ?_)
              clear hl1; have hl1 := hl2; clear hl2
              refine lv_goto (tgt := 6) hx hb d_Model_isTrue_203 (by decide) ?_
              exact ih_3 (i1 + 1) (n1 - 1) (sup tr1 (n1 - 2) 0) (by first | assumption | omega) (by first | assumption | omega) (by first | assumption | omega) (sup1 htr1 (by first | assumption | omega)) _ _ _ (hP.sub [0, 1, 2, 3] rfl) (hD.sub [0, 1, 2, 3] (by decide) rfl) hS (lv_sub hl1 [3, 4, 5, 6, 1, 0] rfl)
            · replace c_20 : ¬ tr1 (n1 - 2) = 0 := fun hq9 => c_20 ((nI_eq (a := tr1 (n1 - 2)) (b := 0) (by first | exact Nat.lt_of_lt_of_le (by assumption) (by decide) | exact Nat.lt_of_le_of_lt (by assumption) (by decide) | omega) (by decide)).mpr hq9)
              refine lv_aload_n hx hb d_Model_isTrue_147 rfl (lv_at hl1 1 rfl) ?_
              refine va_get (D := D) (ci := 11) (v := .ref m42) (C := R_Model) (T := F_Model) (N := 72) hx hb hts i_Model hown hK.1 hP 0 rfl rfl 71 (by decide) (hts _ wd_1107) (fun _ h9 => h9) rfl d_Model_isTrue_148 ?_
              refine lv_iload hx hb d_Model_isTrue_151 (lv_at hl1 5 rfl) ?_
              refine lv_iconst (v := 1) hx hb d_Model_isTrue_153 (by decide) ?_
              refine lv_isub hx hb d_Model_isTrue_154 ?_
              refine lv_topi (fun z_22 ez_22 => ?_)
              have ez_22 : z_22 = nI (n1 - 1) := ez_22.trans (pk_sub (a := n1) (b := 1) (by first | assumption | omega))
              subst ez_22
              refine va_zald hx hb hK.1 hP 2 3 rfl rfl (vp_in_nI (by first | assumption | omega) (by decide)) d_Model_isTrue_155 ?_
              refine W.eq (g2 := F0 m 156 ls [.int (nI (tr1 (n1 - 1))), .int (nI (n1 - 2)), .ref m42]) (by rw [nI_clamp (by first | exact Nat.lt_of_lt_of_le (by assumption) (by decide) | exact Nat.lt_of_le_of_lt (by assumption) (by decide) | omega)]) ?_
              refine lv_if_eq (tgt := 163) hx hb d_Model_isTrue_156 (by decide) (fun c_23 => ?_) (fun c_23 => ?_)
              · replace c_23 : tr1 (n1 - 1) = 0 := (nI_eq (a := tr1 (n1 - 1)) (b := 0) (by first | exact Nat.lt_of_lt_of_le (by assumption) (by decide) | exact Nat.lt_of_le_of_lt (by assumption) (by decide) | omega) (by decide)).mp c_23
                refine lv_iconst (v := 0) hx hb d_Model_isTrue_163 (by decide) ?_
                refine lv_goto (tgt := 196) hx hb d_Model_isTrue_164 (by decide) ?_
                refine va_zast hx hb hK.1 hP hD hS 2 3 rfl rfl (vp_in_nI (by first | assumption | omega) (by decide)) d_Model_isTrue_196 (fun H_24 locs hP1 hD1 hS1 => ?_)
                rw [nI_clamp (by first | exact Nat.lt_of_lt_of_le (by assumption) (by decide) | exact Nat.lt_of_le_of_lt (by assumption) (by decide) | omega)] at hP1 hD1
                rw [xf_supz tr1 (n1 - 2) 0 0 rfl] at hP1 hD1
                clear hP hD hS
                have hS := hS1
                have hW7 : (fun w9 : va_W => va_P D classes w9 H_24 ∧ va_D A w9) [(m0, .inr (11, [.int s_thrown, .int s_taped, .ref m1, .int s_size, .int s_outSize, .ref m2, .int s_kind, .int s_value, .int s_begin, .int s_end, .int s_failed, .ref m3, .ref m4, .ref m5, .int s_isProgram, .int s_half, .ref m6, .ref m7, .ref m8, .ref m9, .ref m10, .ref m11, .ref m12, .ref m13, .ref m14, .ref m15, .ref m16, .ref m17, .ref m18, .ref m19, .ref m20, .int s_signs, .ref m21, .int s_stacked, .ref m22, .int s_name, .int s_shift, .int s_statements, .int s_ifs, .int s_whiles, .int s_variants, .int s_open, .ref m23, .int s_isMade, .int s_conditions, .ref m24, .ref m25, .ref m26, .ref m27, .int s_kept, .ref m28, .int s_tops, .ref m29, .int s_used, .ref m30, .ref m31, .int s_looked, .int s_rows, .int s_firstRow, .ref m32, .ref m33, .ref m34, .ref m35, .ref m36, .ref m37, .ref m38, .ref m39, .ref m40, .int s_isBroken, .ref m41, .int s_atoms, .ref m42])), (m41, .inl (ax 4, 6, .inr (.inl vs))), (m42, .inl (ax 3, 256, .inl (fun j => nI (sup tr1 (n1 - 2) 0 j)))), (h0, .inl (ax 0, N1, .inl f))] := ⟨hP1, hD1⟩
                obtain ⟨hP, hD⟩ := hW7
                clear hP1 hD1 hS1
                refine lv_iinc (v := nI (n1 - 1)) (lv' := [(4, .int (nI (n1 - 1))), (6, .int (nI (o1 + 6 * i1))), (0, .ref m0), (1, .ref h0), (2, .int (nI o1)), (3, .int (nI q)), (5, .int (nI i1))]) hx hb d_Model_isTrue_197 hl1 (k := 5) rfl (nI_dec (a := n1) (by first | assumption | omega)) (by decide) rfl (fun ls hl2 => ?_)
                clear hl1; have hl1 := hl2; clear hl2
                refine lv_iinc (v := nI (i1 + 1)) (lv' := [(5, .int (nI (i1 + 1))), (4, .int (nI (n1 - 1))), (6, .int (nI (o1 + 6 * i1))), (0, .ref m0), (1, .ref h0), (2, .int (nI o1)), (3, .int (nI q))]) hx hb d_Model_isTrue_200 hl1 (k := 6) rfl (nI_add i1 1) (by decide) rfl (fun ls hl2 => ?_)
                clear hl1; have hl1 := hl2; clear hl2
                refine lv_goto (tgt := 6) hx hb d_Model_isTrue_203 (by decide) ?_
                exact ih_3 (i1 + 1) (n1 - 1) (sup tr1 (n1 - 2) 0) (by first | assumption | omega) (by first | assumption | omega) (by first | assumption | omega) (sup1 htr1 (by first | assumption | omega)) _ _ _ (hP.sub [0, 1, 2, 3] rfl) (hD.sub [0, 1, 2, 3] (by decide) rfl) hS (lv_sub hl1 [3, 4, 5, 6, 1, 0] rfl)
              · replace c_23 : ¬ tr1 (n1 - 1) = 0 := fun hq9 => c_23 ((nI_eq (a := tr1 (n1 - 1)) (b := 0) (by first | exact Nat.lt_of_lt_of_le (by assumption) (by decide) | exact Nat.lt_of_le_of_lt (by assumption) (by decide) | omega) (by decide)).mpr hq9)
                refine lv_iconst (v := 1) hx hb d_Model_isTrue_159 (by decide) ?_
                refine lv_goto (tgt := 196) hx hb d_Model_isTrue_160 (by decide) ?_
                refine va_zast hx hb hK.1 hP hD hS 2 3 rfl rfl (vp_in_nI (by first | assumption | omega) (by decide)) d_Model_isTrue_196 (fun H_25 locs hP1 hD1 hS1 => ?_)
                rw [nI_clamp (by first | exact Nat.lt_of_lt_of_le (by assumption) (by decide) | exact Nat.lt_of_le_of_lt (by assumption) (by decide) | omega)] at hP1 hD1
                rw [xf_supz tr1 (n1 - 2) 1 1 rfl] at hP1 hD1
                clear hP hD hS
                have hS := hS1
                have hW7 : (fun w9 : va_W => va_P D classes w9 H_25 ∧ va_D A w9) [(m0, .inr (11, [.int s_thrown, .int s_taped, .ref m1, .int s_size, .int s_outSize, .ref m2, .int s_kind, .int s_value, .int s_begin, .int s_end, .int s_failed, .ref m3, .ref m4, .ref m5, .int s_isProgram, .int s_half, .ref m6, .ref m7, .ref m8, .ref m9, .ref m10, .ref m11, .ref m12, .ref m13, .ref m14, .ref m15, .ref m16, .ref m17, .ref m18, .ref m19, .ref m20, .int s_signs, .ref m21, .int s_stacked, .ref m22, .int s_name, .int s_shift, .int s_statements, .int s_ifs, .int s_whiles, .int s_variants, .int s_open, .ref m23, .int s_isMade, .int s_conditions, .ref m24, .ref m25, .ref m26, .ref m27, .int s_kept, .ref m28, .int s_tops, .ref m29, .int s_used, .ref m30, .ref m31, .int s_looked, .int s_rows, .int s_firstRow, .ref m32, .ref m33, .ref m34, .ref m35, .ref m36, .ref m37, .ref m38, .ref m39, .ref m40, .int s_isBroken, .ref m41, .int s_atoms, .ref m42])), (m41, .inl (ax 4, 6, .inr (.inl vs))), (m42, .inl (ax 3, 256, .inl (fun j => nI (sup tr1 (n1 - 2) 1 j)))), (h0, .inl (ax 0, N1, .inl f))] := ⟨hP1, hD1⟩
                obtain ⟨hP, hD⟩ := hW7
                clear hP1 hD1 hS1
                refine lv_iinc (v := nI (n1 - 1)) (lv' := [(4, .int (nI (n1 - 1))), (6, .int (nI (o1 + 6 * i1))), (0, .ref m0), (1, .ref h0), (2, .int (nI o1)), (3, .int (nI q)), (5, .int (nI i1))]) hx hb d_Model_isTrue_197 hl1 (k := 5) rfl (nI_dec (a := n1) (by first | assumption | omega)) (by decide) rfl (fun ls hl2 => ?_)
                clear hl1; have hl1 := hl2; clear hl2
                refine lv_iinc (v := nI (i1 + 1)) (lv' := [(5, .int (nI (i1 + 1))), (4, .int (nI (n1 - 1))), (6, .int (nI (o1 + 6 * i1))), (0, .ref m0), (1, .ref h0), (2, .int (nI o1)), (3, .int (nI q))]) hx hb d_Model_isTrue_200 hl1 (k := 6) rfl (nI_add i1 1) (by decide) rfl (fun ls hl2 => ?_)
                clear hl1; have hl1 := hl2; clear hl2
                refine lv_goto (tgt := 6) hx hb d_Model_isTrue_203 (by decide) ?_
                exact ih_3 (i1 + 1) (n1 - 1) (sup tr1 (n1 - 2) 1) (by first | assumption | omega) (by first | assumption | omega) (by first | assumption | omega) (sup1 htr1 (by first | assumption | omega)) _ _ _ (hP.sub [0, 1, 2, 3] rfl) (hD.sub [0, 1, 2, 3] (by decide) rfl) hS (lv_sub hl1 [3, 4, 5, 6, 1, 0] rfl)
        · obtain ⟨hg1, hgx⟩ := wf_not hk (by assumption)
          have hb1 := htr1 (n1 - 1)
          refine lv_aload_n hx hb d_Model_isTrue_90 rfl (lv_at hl1 1 rfl) ?_
          refine va_get (D := D) (ci := 11) (v := .ref m42) (C := R_Model) (T := F_Model) (N := 72) hx hb hts i_Model hown hK.1 hP 0 rfl rfl 71 (by decide) (hts _ wd_1107) (fun _ h9 => h9) rfl d_Model_isTrue_91 ?_
          refine lv_iload hx hb d_Model_isTrue_94 (lv_at hl1 5 rfl) ?_
          refine lv_iconst (v := 1) hx hb d_Model_isTrue_96 (by decide) ?_
          refine lv_isub hx hb d_Model_isTrue_97 ?_
          refine lv_topi (fun z_26 ez_26 => ?_)
          have ez_26 : z_26 = nI (n1 - 1) := ez_26.trans (pk_sub (a := n1) (b := 1) (by first | assumption | omega))
          subst ez_26
          refine lv_aload_n hx hb d_Model_isTrue_98 rfl (lv_at hl1 1 rfl) ?_
          refine va_get (D := D) (ci := 11) (v := .ref m42) (C := R_Model) (T := F_Model) (N := 72) hx hb hts i_Model hown hK.1 hP 0 rfl rfl 71 (by decide) (hts _ wd_1107) (fun _ h9 => h9) rfl d_Model_isTrue_99 ?_
          refine lv_iload hx hb d_Model_isTrue_102 (lv_at hl1 5 rfl) ?_
          refine lv_iconst (v := 1) hx hb d_Model_isTrue_104 (by decide) ?_
          refine lv_isub hx hb d_Model_isTrue_105 ?_
          refine lv_topi (fun z_27 ez_27 => ?_)
          have ez_27 : z_27 = nI (n1 - 1) := ez_27.trans (pk_sub (a := n1) (b := 1) (by first | assumption | omega))
          subst ez_27
          refine va_zald hx hb hK.1 hP 2 3 rfl rfl (vp_in_nI (by first | assumption | omega) (by decide)) d_Model_isTrue_106 ?_
          refine W.eq (g2 := F0 m 107 ls [.int (nI (tr1 (n1 - 1))), .int (nI (n1 - 1)), .ref m42]) (by rw [nI_clamp (by first | exact Nat.lt_of_lt_of_le (by assumption) (by decide) | exact Nat.lt_of_le_of_lt (by assumption) (by decide) | omega)]) ?_
          refine lv_if_ne (tgt := 114) hx hb d_Model_isTrue_107 (by decide) (fun c_28 => ?_) (fun c_28 => ?_)
          · replace c_28 : ¬ tr1 (n1 - 1) = 0 := fun hq9 => c_28 ((nI_eq (a := tr1 (n1 - 1)) (b := 0) (by first | exact Nat.lt_of_lt_of_le (by assumption) (by decide) | exact Nat.lt_of_le_of_lt (by assumption) (by decide) | omega) (by decide)).mpr hq9)
            refine lv_iconst (v := 0) hx hb d_Model_isTrue_114 (by decide) ?_
            refine va_zast hx hb hK.1 hP hD hS 2 3 rfl rfl (vp_in_nI (by first | assumption | omega) (by decide)) d_Model_isTrue_115 (fun H_29 locs hP1 hD1 hS1 => ?_)
            rw [nI_clamp (by first | exact Nat.lt_of_lt_of_le (by assumption) (by decide) | exact Nat.lt_of_le_of_lt (by assumption) (by decide) | omega)] at hP1 hD1
            rw [xf_supz tr1 (n1 - 1) 0 0 rfl] at hP1 hD1
            clear hP hD hS
            have hS := hS1
            have hW7 : (fun w9 : va_W => va_P D classes w9 H_29 ∧ va_D A w9) [(m0, .inr (11, [.int s_thrown, .int s_taped, .ref m1, .int s_size, .int s_outSize, .ref m2, .int s_kind, .int s_value, .int s_begin, .int s_end, .int s_failed, .ref m3, .ref m4, .ref m5, .int s_isProgram, .int s_half, .ref m6, .ref m7, .ref m8, .ref m9, .ref m10, .ref m11, .ref m12, .ref m13, .ref m14, .ref m15, .ref m16, .ref m17, .ref m18, .ref m19, .ref m20, .int s_signs, .ref m21, .int s_stacked, .ref m22, .int s_name, .int s_shift, .int s_statements, .int s_ifs, .int s_whiles, .int s_variants, .int s_open, .ref m23, .int s_isMade, .int s_conditions, .ref m24, .ref m25, .ref m26, .ref m27, .int s_kept, .ref m28, .int s_tops, .ref m29, .int s_used, .ref m30, .ref m31, .int s_looked, .int s_rows, .int s_firstRow, .ref m32, .ref m33, .ref m34, .ref m35, .ref m36, .ref m37, .ref m38, .ref m39, .ref m40, .int s_isBroken, .ref m41, .int s_atoms, .ref m42])), (m41, .inl (ax 4, 6, .inr (.inl vs))), (m42, .inl (ax 3, 256, .inl (fun j => nI (sup tr1 (n1 - 1) 0 j)))), (h0, .inl (ax 0, N1, .inl f))] := ⟨hP1, hD1⟩
            obtain ⟨hP, hD⟩ := hW7
            clear hP1 hD1 hS1
            refine lv_goto (tgt := 200) hx hb d_Model_isTrue_116 (by decide) ?_
            refine lv_iinc (v := nI (i1 + 1)) (lv' := [(5, .int (nI (i1 + 1))), (6, .int (nI (o1 + 6 * i1))), (0, .ref m0), (1, .ref h0), (2, .int (nI o1)), (3, .int (nI q)), (4, .int (nI n1))]) hx hb d_Model_isTrue_200 hl1 (k := 6) rfl (nI_add i1 1) (by decide) rfl (fun ls hl2 => ?_)
            clear hl1; have hl1 := hl2; clear hl2
            refine lv_goto (tgt := 6) hx hb d_Model_isTrue_203 (by decide) ?_
            exact ih_3 (i1 + 1) n1 (sup tr1 (n1 - 1) 0) (by first | assumption | omega) (by first | assumption | omega) (by first | assumption | omega) (sup1 htr1 (by first | assumption | omega)) _ _ _ (hP.sub [0, 1, 2, 3] rfl) (hD.sub [0, 1, 2, 3] (by decide) rfl) hS (lv_sub hl1 [2, 3, 4, 5, 6, 0] rfl)
          · replace c_28 : tr1 (n1 - 1) = 0 := (nI_eq (a := tr1 (n1 - 1)) (b := 0) (by first | exact Nat.lt_of_lt_of_le (by assumption) (by decide) | exact Nat.lt_of_le_of_lt (by assumption) (by decide) | omega) (by decide)).mp c_28
            refine lv_iconst (v := 1) hx hb d_Model_isTrue_110 (by decide) ?_
            refine lv_goto (tgt := 115) hx hb d_Model_isTrue_111 (by decide) ?_
            refine va_zast hx hb hK.1 hP hD hS 2 3 rfl rfl (vp_in_nI (by first | assumption | omega) (by decide)) d_Model_isTrue_115 (fun H_30 locs hP1 hD1 hS1 => ?_)
            rw [nI_clamp (by first | exact Nat.lt_of_lt_of_le (by assumption) (by decide) | exact Nat.lt_of_le_of_lt (by assumption) (by decide) | omega)] at hP1 hD1
            rw [xf_supz tr1 (n1 - 1) 1 1 rfl] at hP1 hD1
            clear hP hD hS
            have hS := hS1
            have hW7 : (fun w9 : va_W => va_P D classes w9 H_30 ∧ va_D A w9) [(m0, .inr (11, [.int s_thrown, .int s_taped, .ref m1, .int s_size, .int s_outSize, .ref m2, .int s_kind, .int s_value, .int s_begin, .int s_end, .int s_failed, .ref m3, .ref m4, .ref m5, .int s_isProgram, .int s_half, .ref m6, .ref m7, .ref m8, .ref m9, .ref m10, .ref m11, .ref m12, .ref m13, .ref m14, .ref m15, .ref m16, .ref m17, .ref m18, .ref m19, .ref m20, .int s_signs, .ref m21, .int s_stacked, .ref m22, .int s_name, .int s_shift, .int s_statements, .int s_ifs, .int s_whiles, .int s_variants, .int s_open, .ref m23, .int s_isMade, .int s_conditions, .ref m24, .ref m25, .ref m26, .ref m27, .int s_kept, .ref m28, .int s_tops, .ref m29, .int s_used, .ref m30, .ref m31, .int s_looked, .int s_rows, .int s_firstRow, .ref m32, .ref m33, .ref m34, .ref m35, .ref m36, .ref m37, .ref m38, .ref m39, .ref m40, .int s_isBroken, .ref m41, .int s_atoms, .ref m42])), (m41, .inl (ax 4, 6, .inr (.inl vs))), (m42, .inl (ax 3, 256, .inl (fun j => nI (sup tr1 (n1 - 1) 1 j)))), (h0, .inl (ax 0, N1, .inl f))] := ⟨hP1, hD1⟩
            obtain ⟨hP, hD⟩ := hW7
            clear hP1 hD1 hS1
            refine lv_goto (tgt := 200) hx hb d_Model_isTrue_116 (by decide) ?_
            refine lv_iinc (v := nI (i1 + 1)) (lv' := [(5, .int (nI (i1 + 1))), (6, .int (nI (o1 + 6 * i1))), (0, .ref m0), (1, .ref h0), (2, .int (nI o1)), (3, .int (nI q)), (4, .int (nI n1))]) hx hb d_Model_isTrue_200 hl1 (k := 6) rfl (nI_add i1 1) (by decide) rfl (fun ls hl2 => ?_)
            clear hl1; have hl1 := hl2; clear hl2
            refine lv_goto (tgt := 6) hx hb d_Model_isTrue_203 (by decide) ?_
            exact ih_3 (i1 + 1) n1 (sup tr1 (n1 - 1) 1) (by first | assumption | omega) (by first | assumption | omega) (by first | assumption | omega) (sup1 htr1 (by first | assumption | omega)) _ _ _ (hP.sub [0, 1, 2, 3] rfl) (hD.sub [0, 1, 2, 3] (by decide) rfl) hS (lv_sub hl1 [2, 3, 4, 5, 6, 0] rfl)
      · obtain ⟨⟨hm1, hm4⟩, hgx⟩ := wf_atom hk (by assumption)
        refine lv_aload_n hx hb d_Model_isTrue_28 rfl (lv_at hl1 1 rfl) ?_
        refine va_get (D := D) (ci := 11) (v := .ref m42) (C := R_Model) (T := F_Model) (N := 72) hx hb hts i_Model hown hK.1 hP 0 rfl rfl 71 (by decide) (hts _ wd_1107) (fun _ h9 => h9) rfl d_Model_isTrue_29 ?_
        refine lv_iload hx hb d_Model_isTrue_32 (lv_at hl1 5 rfl) ?_
        refine lv_aload_n hx hb d_Model_isTrue_34 rfl (lv_at hl1 1 rfl) ?_
        refine lv_aload_n hx hb d_Model_isTrue_35 rfl (lv_at hl1 2 rfl) ?_
        refine lv_iload hx hb d_Model_isTrue_36 (lv_at hl1 0 rfl) ?_
        refine lv_iconst (v := 1) hx hb d_Model_isTrue_38 (by decide) ?_
        refine lv_iadd hx hb d_Model_isTrue_39 ?_
        refine lv_topi (fun z_31 ez_31 => ?_)
        have ez_31 : z_31 = nI (o1 + 6 * i1 + 1) := ez_31.trans (nI_add (o1 + 6 * i1) 1)
        subst ez_31
        refine va_iald hx hb hK.1 hP 3 0 rfl rfl (vp_in_nI (by first | assumption | omega) (by first | exact Nat.lt_of_lt_of_le (by assumption) (by decide) | exact Nat.lt_of_le_of_lt (by assumption) (by decide) | omega)) d_Model_isTrue_40 ?_
        refine W.eq (g2 := F0 m 41 ls [.int (f (o1 + 6 * i1 + 1)), .ref m0, .int (nI n1), .ref m42]) (by rw [nI_clamp (by first | exact Nat.lt_of_lt_of_le (by assumption) (by decide) | exact Nat.lt_of_le_of_lt (by assumption) (by decide) | omega)]) ?_
        refine lv_aload_n hx hb d_Model_isTrue_41 rfl (lv_at hl1 2 rfl) ?_
        refine lv_iload hx hb d_Model_isTrue_42 (lv_at hl1 0 rfl) ?_
        refine lv_iconst (v := 2) hx hb d_Model_isTrue_44 (by decide) ?_
        refine lv_iadd hx hb d_Model_isTrue_45 ?_
        refine lv_topi (fun z_32 ez_32 => ?_)
        have ez_32 : z_32 = nI (o1 + 6 * i1 + 2) := ez_32.trans (nI_add (o1 + 6 * i1) 2)
        subst ez_32
        refine va_iald hx hb hK.1 hP 3 0 rfl rfl (vp_in_nI (by first | assumption | omega) (by first | exact Nat.lt_of_lt_of_le (by assumption) (by decide) | exact Nat.lt_of_le_of_lt (by assumption) (by decide) | omega)) d_Model_isTrue_46 ?_
        refine W.eq (g2 := F0 m 47 ls [.int (f (o1 + 6 * i1 + 2)), .int (f (o1 + 6 * i1 + 1)), .ref m0, .int (nI n1), .ref m42]) (by rw [nI_clamp (by first | exact Nat.lt_of_lt_of_le (by assumption) (by decide) | exact Nat.lt_of_le_of_lt (by assumption) (by decide) | omega)]) ?_
        rcases hm1 with ey1 | ⟨y1, hy1, ey1⟩
        · refine W.eq (g2 := F0 m 47 ls [.int (f (o1 + 6 * i1 + 2)), .int (-1), .ref m0, .int (nI n1), .ref m42]) (by rw [ey1]) ?_
          obtain ⟨hPc, hDc, hFc, hCs⟩ := xw_sub3 (wc := [(m0, .inr (11, [.int s_thrown, .int s_taped, .ref m1, .int s_size, .int s_outSize, .ref m2, .int s_kind, .int s_value, .int s_begin, .int s_end, .int s_failed, .ref m3, .ref m4, .ref m5, .int s_isProgram, .int s_half, .ref m6, .ref m7, .ref m8, .ref m9, .ref m10, .ref m11, .ref m12, .ref m13, .ref m14, .ref m15, .ref m16, .ref m17, .ref m18, .ref m19, .ref m20, .int s_signs, .ref m21, .int s_stacked, .ref m22, .int s_name, .int s_shift, .int s_statements, .int s_ifs, .int s_whiles, .int s_variants, .int s_open, .ref m23, .int s_isMade, .int s_conditions, .ref m24, .ref m25, .ref m26, .ref m27, .int s_kept, .ref m28, .int s_tops, .ref m29, .int s_used, .ref m30, .ref m31, .int s_looked, .int s_rows, .int s_firstRow, .ref m32, .ref m33, .ref m34, .ref m35, .ref m36, .ref m37, .ref m38, .ref m39, .ref m40, .int s_isBroken, .ref m41, .int s_atoms, .ref m42]))]) hP hD hS hA [0] (by decide) rfl
          have hz := xz_of hN hS
          refine va_calll (va_runV (As := [.int (-1), .int (f (o1 + 6 * i1 + 2))]) (rest := [.int (nI n1), .ref m42]) ⟨hx, hb, hml, hown, hts⟩ (c_M_termOf_no l D ax m0 m1 m2 m3 m4 m5 m6 m7 m8 m9 m10 m11 m12 m13 m14 m15 m16 m17 m18 m19 m20 m21 m22 m23 m24 m25 m26 m27 m28 m29 m30 m31 m32 m33 m34 m35 m36 m37 m38 m39 m40 m41 m42 s_thrown s_taped s_size s_outSize s_kind s_value s_begin s_end s_failed s_isProgram s_half s_signs s_stacked s_name s_shift s_statements s_ifs s_whiles s_variants s_open s_isMade s_conditions s_kept s_tops s_used s_looked s_rows s_firstRow s_isBroken s_atoms (f (o1 + 6 * i1 + 2)) H.size) (xcV (n := 2) hts wd_1592 wd_15 wd_1589 wd_1591 ps_112 rfl rfl (by decide +kernel) ⟨Nat.le_of_ble_eq_true rfl, Nat.le_of_ble_eq_true rfl⟩) (xpV (ci := 11) (q0 := 0) (As := [.int (-1), .int (f (o1 + 6 * i1 + 2))]) hPc hK hz hDc rfl rfl) rfl rfl hl1.1 rfl (lv_room (Nat.le_of_ble_eq_true rfl)) d_Model_isTrue_47 ⟨Nat.le_of_ble_eq_true rfl, Nat.le_of_ble_eq_true rfl⟩) hS (fun q _ h => hFc q h) hFc (fun r_35 u_33 t H_34 locs ht hvm hw hB hz1 hk1 hS1 => ?_)
          try dsimp only at hw
          subst hw
          obtain ⟨hP1, hD1⟩ := hB
          rw [ht] at hP1
          have hjn := xw_join3 (wl := [(m41, .inl (ax 4, 6, .inr (.inl vs))), (m42, .inl (ax 3, 256, .inl (fun j => nI (tr1 j)))), (h0, .inl (ax 0, N1, .inl f)), (m0, .inr (11, [.int s_thrown, .int s_taped, .ref m1, .int s_size, .int s_outSize, .ref m2, .int s_kind, .int s_value, .int s_begin, .int s_end, .int s_failed, .ref m3, .ref m4, .ref m5, .int s_isProgram, .int s_half, .ref m6, .ref m7, .ref m8, .ref m9, .ref m10, .ref m11, .ref m12, .ref m13, .ref m14, .ref m15, .ref m16, .ref m17, .ref m18, .ref m19, .ref m20, .int s_signs, .ref m21, .int s_stacked, .ref m22, .int s_name, .int s_shift, .int s_statements, .int s_ifs, .int s_whiles, .int s_variants, .int s_open, .ref m23, .int s_isMade, .int s_conditions, .ref m24, .ref m25, .ref m26, .ref m27, .int s_kept, .ref m28, .int s_tops, .ref m29, .int s_used, .ref m30, .ref m31, .int s_looked, .int s_rows, .int s_firstRow, .ref m32, .ref m33, .ref m34, .ref m35, .ref m36, .ref m37, .ref m38, .ref m39, .ref m40, .int s_isBroken, .ref m41, .int s_atoms, .ref m42]))]) hP hD [0] [1, 2, 3] hCs (by decide) (by decide) hk1 hFc hP1 hD1 rfl
          clear hP1 hD1
          clear hPc hDc hFc hCs hz hz1 hk1 ht hvm
          clear hP hD hS
          have hS := hS1
          obtain ⟨hP, hD⟩ := hjn
          clear hS1
          refine lv_aload_n hx hb d_Model_isTrue_50 rfl (lv_at hl1 2 rfl) ?_
          refine lv_iload hx hb d_Model_isTrue_51 (lv_at hl1 0 rfl) ?_
          refine lv_iconst (v := 3) hx hb d_Model_isTrue_53 (by decide) ?_
          refine lv_iadd hx hb d_Model_isTrue_54 ?_
          refine lv_topi (fun z_36 ez_36 => ?_)
          have ez_36 : z_36 = nI (o1 + 6 * i1 + 3) := ez_36.trans (nI_add (o1 + 6 * i1) 3)
          subst ez_36
          refine va_iald hx hb hK.1 hP 2 0 rfl rfl (vp_in_nI (by first | assumption | omega) (by first | exact Nat.lt_of_lt_of_le (by assumption) (by decide) | exact Nat.lt_of_le_of_lt (by assumption) (by decide) | omega)) d_Model_isTrue_55 ?_
          refine W.eq (g2 := F0 m 56 ls [.int (f (o1 + 6 * i1 + 3)), .long ((f (o1 + 6 * i1 + 2)).toInt64), .int (nI n1), .ref m42]) (by rw [nI_clamp (by first | exact Nat.lt_of_lt_of_le (by assumption) (by decide) | exact Nat.lt_of_le_of_lt (by assumption) (by decide) | omega)]) ?_
          refine lv_aload_n hx hb d_Model_isTrue_56 rfl (lv_at hl1 1 rfl) ?_
          refine lv_aload_n hx hb d_Model_isTrue_57 rfl (lv_at hl1 2 rfl) ?_
          refine lv_iload hx hb d_Model_isTrue_58 (lv_at hl1 0 rfl) ?_
          refine lv_iconst (v := 4) hx hb d_Model_isTrue_60 (by decide) ?_
          refine lv_iadd hx hb d_Model_isTrue_61 ?_
          refine lv_topi (fun z_37 ez_37 => ?_)
          have ez_37 : z_37 = nI (o1 + 6 * i1 + 4) := ez_37.trans (nI_add (o1 + 6 * i1) 4)
          subst ez_37
          refine va_iald hx hb hK.1 hP 2 0 rfl rfl (vp_in_nI (by first | assumption | omega) (by first | exact Nat.lt_of_lt_of_le (by assumption) (by decide) | exact Nat.lt_of_le_of_lt (by assumption) (by decide) | omega)) d_Model_isTrue_62 ?_
          refine W.eq (g2 := F0 m 63 ls [.int (f (o1 + 6 * i1 + 4)), .ref m0, .int (f (o1 + 6 * i1 + 3)), .long ((f (o1 + 6 * i1 + 2)).toInt64), .int (nI n1), .ref m42]) (by rw [nI_clamp (by first | exact Nat.lt_of_lt_of_le (by assumption) (by decide) | exact Nat.lt_of_le_of_lt (by assumption) (by decide) | omega)]) ?_
          refine lv_aload_n hx hb d_Model_isTrue_63 rfl (lv_at hl1 2 rfl) ?_
          refine lv_iload hx hb d_Model_isTrue_64 (lv_at hl1 0 rfl) ?_
          refine lv_iconst (v := 5) hx hb d_Model_isTrue_66 (by decide) ?_
          refine lv_iadd hx hb d_Model_isTrue_67 ?_
          refine lv_topi (fun z_38 ez_38 => ?_)
          have ez_38 : z_38 = nI (o1 + 6 * i1 + 5) := ez_38.trans (nI_add (o1 + 6 * i1) 5)
          subst ez_38
          refine va_iald hx hb hK.1 hP 2 0 rfl rfl (vp_in_nI (by first | assumption | omega) (by first | exact Nat.lt_of_lt_of_le (by assumption) (by decide) | exact Nat.lt_of_le_of_lt (by assumption) (by decide) | omega)) d_Model_isTrue_68 ?_
          refine W.eq (g2 := F0 m 69 ls [.int (f (o1 + 6 * i1 + 5)), .int (f (o1 + 6 * i1 + 4)), .ref m0, .int (f (o1 + 6 * i1 + 3)), .long ((f (o1 + 6 * i1 + 2)).toInt64), .int (nI n1), .ref m42]) (by rw [nI_clamp (by first | exact Nat.lt_of_lt_of_le (by assumption) (by decide) | exact Nat.lt_of_le_of_lt (by assumption) (by decide) | omega)]) ?_
          rcases hm4 with ey4 | ⟨y4, hy4, ey4⟩
          · refine W.eq (g2 := F0 m 69 ls [.int (f (o1 + 6 * i1 + 5)), .int (-1), .ref m0, .int (f (o1 + 6 * i1 + 3)), .long ((f (o1 + 6 * i1 + 2)).toInt64), .int (nI n1), .ref m42]) (by rw [ey4]) ?_
            obtain ⟨hPc, hDc, hFc, hCs⟩ := xw_sub3 (wc := [(m0, .inr (11, [.int s_thrown, .int s_taped, .ref m1, .int s_size, .int s_outSize, .ref m2, .int s_kind, .int s_value, .int s_begin, .int s_end, .int s_failed, .ref m3, .ref m4, .ref m5, .int s_isProgram, .int s_half, .ref m6, .ref m7, .ref m8, .ref m9, .ref m10, .ref m11, .ref m12, .ref m13, .ref m14, .ref m15, .ref m16, .ref m17, .ref m18, .ref m19, .ref m20, .int s_signs, .ref m21, .int s_stacked, .ref m22, .int s_name, .int s_shift, .int s_statements, .int s_ifs, .int s_whiles, .int s_variants, .int s_open, .ref m23, .int s_isMade, .int s_conditions, .ref m24, .ref m25, .ref m26, .ref m27, .int s_kept, .ref m28, .int s_tops, .ref m29, .int s_used, .ref m30, .ref m31, .int s_looked, .int s_rows, .int s_firstRow, .ref m32, .ref m33, .ref m34, .ref m35, .ref m36, .ref m37, .ref m38, .ref m39, .ref m40, .int s_isBroken, .ref m41, .int s_atoms, .ref m42]))]) hP hD hS hA [3] (by decide) rfl
            have hz := xz_of hN hS
            refine va_calll (va_runV (As := [.int (-1), .int (f (o1 + 6 * i1 + 5))]) (rest := [.int (f (o1 + 6 * i1 + 3)), .long ((f (o1 + 6 * i1 + 2)).toInt64), .int (nI n1), .ref m42]) ⟨hx, hb, hml, hown, hts⟩ (c_M_termOf_no l D ax m0 m1 m2 m3 m4 m5 m6 m7 m8 m9 m10 m11 m12 m13 m14 m15 m16 m17 m18 m19 m20 m21 m22 m23 m24 m25 m26 m27 m28 m29 m30 m31 m32 m33 m34 m35 m36 m37 m38 m39 m40 m41 m42 s_thrown s_taped s_size s_outSize s_kind s_value s_begin s_end s_failed s_isProgram s_half s_signs s_stacked s_name s_shift s_statements s_ifs s_whiles s_variants s_open s_isMade s_conditions s_kept s_tops s_used s_looked s_rows s_firstRow s_isBroken s_atoms (f (o1 + 6 * i1 + 5)) H_34.size) (xcV (n := 2) hts wd_1592 wd_15 wd_1589 wd_1591 ps_112 rfl rfl (by decide +kernel) ⟨Nat.le_of_ble_eq_true rfl, Nat.le_of_ble_eq_true rfl⟩) (xpV (ci := 11) (q0 := 0) (As := [.int (-1), .int (f (o1 + 6 * i1 + 5))]) hPc hK hz hDc rfl rfl) rfl rfl hl1.1 rfl (lv_room (Nat.le_of_ble_eq_true rfl)) d_Model_isTrue_69 ⟨Nat.le_of_ble_eq_true rfl, Nat.le_of_ble_eq_true rfl⟩) hS (fun q _ h => hFc q h) hFc (fun r_41 u_39 t H_40 locs ht hvm hw hB hz1 hk1 hS1 => ?_)
            try dsimp only at hw
            subst hw
            obtain ⟨hP1, hD1⟩ := hB
            rw [ht] at hP1
            have hjn := xw_join3 (wl := [(m41, .inl (ax 4, 6, .inr (.inl vs))), (m42, .inl (ax 3, 256, .inl (fun j => nI (tr1 j)))), (h0, .inl (ax 0, N1, .inl f)), (m0, .inr (11, [.int s_thrown, .int s_taped, .ref m1, .int s_size, .int s_outSize, .ref m2, .int s_kind, .int s_value, .int s_begin, .int s_end, .int s_failed, .ref m3, .ref m4, .ref m5, .int s_isProgram, .int s_half, .ref m6, .ref m7, .ref m8, .ref m9, .ref m10, .ref m11, .ref m12, .ref m13, .ref m14, .ref m15, .ref m16, .ref m17, .ref m18, .ref m19, .ref m20, .int s_signs, .ref m21, .int s_stacked, .ref m22, .int s_name, .int s_shift, .int s_statements, .int s_ifs, .int s_whiles, .int s_variants, .int s_open, .ref m23, .int s_isMade, .int s_conditions, .ref m24, .ref m25, .ref m26, .ref m27, .int s_kept, .ref m28, .int s_tops, .ref m29, .int s_used, .ref m30, .ref m31, .int s_looked, .int s_rows, .int s_firstRow, .ref m32, .ref m33, .ref m34, .ref m35, .ref m36, .ref m37, .ref m38, .ref m39, .ref m40, .int s_isBroken, .ref m41, .int s_atoms, .ref m42]))]) hP hD [3] [0, 1, 2] hCs (by decide) (by decide) hk1 hFc hP1 hD1 rfl
            clear hP1 hD1
            clear hPc hDc hFc hCs hz hz1 hk1 ht hvm
            clear hP hD hS
            have hS := hS1
            obtain ⟨hP, hD⟩ := hjn
            clear hS1
            obtain ⟨hPc, hDc, hFc, hCs⟩ := xw_sub3 (wc := []) hP hD hS hA [] (by decide) rfl
            have hz := xz_of hN hS
            refine va_calli (va_runS (As := [.long ((f (o1 + 6 * i1 + 2)).toInt64), .int (f (o1 + 6 * i1 + 3)), .long ((f (o1 + 6 * i1 + 5)).toInt64)]) (rest := [.int (nI n1), .ref m42]) ⟨hx, hb, hml, hown, hts⟩ (c_M_compare l D ax ((f (o1 + 6 * i1 + 2)).toInt64) ((f (o1 + 6 * i1 + 5)).toInt64) (f (o1 + 6 * i1 + 3)) H_40.size) (xcS (n := 3) hts wd_1599 wd_15 wd_1597 wd_1598 rfl rfl (by decide +kernel) ⟨Nat.le_of_ble_eq_true rfl, Nat.le_of_ble_eq_true rfl⟩) (xpS (As := [.long ((f (o1 + 6 * i1 + 2)).toInt64), .int (f (o1 + 6 * i1 + 3)), .long ((f (o1 + 6 * i1 + 5)).toInt64)]) hPc hK hz hDc) rfl rfl hl1.1 rfl (lv_room (Nat.le_of_ble_eq_true rfl)) d_Model_isTrue_72 ⟨Nat.le_of_ble_eq_true rfl, Nat.le_of_ble_eq_true rfl⟩) hS (fun q _ h => hFc q h) hFc (fun r_44 u_42 t H_43 locs ht hvm hw hB hz1 hk1 hS1 => ?_)
            try dsimp only at hw
            obtain ⟨hw, hs_45⟩ := hw
            subst hw
            obtain ⟨hP1, hD1⟩ := hB
            rw [ht] at hP1
            have hjn := xw_join3 (wl := [(m41, .inl (ax 4, 6, .inr (.inl vs))), (m42, .inl (ax 3, 256, .inl (fun j => nI (tr1 j)))), (h0, .inl (ax 0, N1, .inl f)), (m0, .inr (11, [.int s_thrown, .int s_taped, .ref m1, .int s_size, .int s_outSize, .ref m2, .int s_kind, .int s_value, .int s_begin, .int s_end, .int s_failed, .ref m3, .ref m4, .ref m5, .int s_isProgram, .int s_half, .ref m6, .ref m7, .ref m8, .ref m9, .ref m10, .ref m11, .ref m12, .ref m13, .ref m14, .ref m15, .ref m16, .ref m17, .ref m18, .ref m19, .ref m20, .int s_signs, .ref m21, .int s_stacked, .ref m22, .int s_name, .int s_shift, .int s_statements, .int s_ifs, .int s_whiles, .int s_variants, .int s_open, .ref m23, .int s_isMade, .int s_conditions, .ref m24, .ref m25, .ref m26, .ref m27, .int s_kept, .ref m28, .int s_tops, .ref m29, .int s_used, .ref m30, .ref m31, .int s_looked, .int s_rows, .int s_firstRow, .ref m32, .ref m33, .ref m34, .ref m35, .ref m36, .ref m37, .ref m38, .ref m39, .ref m40, .int s_isBroken, .ref m41, .int s_atoms, .ref m42]))]) hP hD [] [0, 1, 2, 3] hCs (by decide) (by decide) hk1 hFc hP1 hD1 rfl
            clear hP1 hD1
            clear hPc hDc hFc hCs hz hz1 hk1 ht hvm
            clear hP hD hS
            have hS := hS1
            obtain ⟨hP, hD⟩ := hjn
            clear hS1
            refine va_zast hx hb hK.1 hP hD hS 1 3 rfl rfl (vp_in_nI (by first | assumption | omega) (by decide)) d_Model_isTrue_75 (fun H_46 locs hP1 hD1 hS1 => ?_)
            rw [nI_clamp (by first | exact Nat.lt_of_lt_of_le (by assumption) (by decide) | exact Nat.lt_of_le_of_lt (by assumption) (by decide) | omega)] at hP1 hD1
            rw [xf_supz tr1 n1 (u_42 0) (nI (u_42 0)) (vpn (by first | assumption | omega))] at hP1 hD1
            clear hP hD hS
            have hS := hS1
            have hW7 : (fun w9 : va_W => va_P D classes w9 H_46 ∧ va_D A w9) [(m41, .inl (ax 4, 6, .inr (.inl vs))), (m42, .inl (ax 3, 256, .inl (fun j => nI (sup tr1 n1 (u_42 0) j)))), (h0, .inl (ax 0, N1, .inl f)), (m0, .inr (11, [.int s_thrown, .int s_taped, .ref m1, .int s_size, .int s_outSize, .ref m2, .int s_kind, .int s_value, .int s_begin, .int s_end, .int s_failed, .ref m3, .ref m4, .ref m5, .int s_isProgram, .int s_half, .ref m6, .ref m7, .ref m8, .ref m9, .ref m10, .ref m11, .ref m12, .ref m13, .ref m14, .ref m15, .ref m16, .ref m17, .ref m18, .ref m19, .ref m20, .int s_signs, .ref m21, .int s_stacked, .ref m22, .int s_name, .int s_shift, .int s_statements, .int s_ifs, .int s_whiles, .int s_variants, .int s_open, .ref m23, .int s_isMade, .int s_conditions, .ref m24, .ref m25, .ref m26, .ref m27, .int s_kept, .ref m28, .int s_tops, .ref m29, .int s_used, .ref m30, .ref m31, .int s_looked, .int s_rows, .int s_firstRow, .ref m32, .ref m33, .ref m34, .ref m35, .ref m36, .ref m37, .ref m38, .ref m39, .ref m40, .int s_isBroken, .ref m41, .int s_atoms, .ref m42]))] := ⟨hP1, hD1⟩
            obtain ⟨hP, hD⟩ := hW7
            clear hP1 hD1 hS1
            refine lv_iinc (v := nI (n1 + 1)) (lv' := [(4, .int (nI (n1 + 1))), (6, .int (nI (o1 + 6 * i1))), (0, .ref m0), (1, .ref h0), (2, .int (nI o1)), (3, .int (nI q)), (5, .int (nI i1))]) hx hb d_Model_isTrue_76 hl1 (k := 5) rfl (nI_add n1 1) (by decide) rfl (fun ls hl2 => ?_)
            clear hl1; have hl1 := hl2; clear hl2
            refine lv_goto (tgt := 200) hx hb d_Model_isTrue_79 (by decide) ?_
            refine lv_iinc (v := nI (i1 + 1)) (lv' := [(5, .int (nI (i1 + 1))), (4, .int (nI (n1 + 1))), (6, .int (nI (o1 + 6 * i1))), (0, .ref m0), (1, .ref h0), (2, .int (nI o1)), (3, .int (nI q))]) hx hb d_Model_isTrue_200 hl1 (k := 6) rfl (nI_add i1 1) (by decide) rfl (fun ls hl2 => ?_)
            clear hl1; have hl1 := hl2; clear hl2
            refine lv_goto (tgt := 6) hx hb d_Model_isTrue_203 (by decide) ?_
            exact ih_3 (i1 + 1) (n1 + 1) (sup tr1 n1 (u_42 0)) (by first | assumption | omega) (by first | assumption | omega) (by first | assumption | omega) (sup1 htr1 (by first | assumption | omega)) _ _ _ (hP.sub [3, 0, 1, 2] rfl) (hD.sub [3, 0, 1, 2] (by decide) rfl) hS (lv_sub hl1 [3, 4, 5, 6, 1, 0] rfl)
          · refine W.eq (g2 := F0 m 69 ls [.int (f (o1 + 6 * i1 + 5)), .int (nI y4), .ref m0, .int (f (o1 + 6 * i1 + 3)), .long ((f (o1 + 6 * i1 + 2)).toInt64), .int (nI n1), .ref m42]) (by rw [ey4]) ?_
            obtain ⟨hPc, hDc, hFc, hCs⟩ := xw_sub3 (wc := [(m0, .inr (11, [.int s_thrown, .int s_taped, .ref m1, .int s_size, .int s_outSize, .ref m2, .int s_kind, .int s_value, .int s_begin, .int s_end, .int s_failed, .ref m3, .ref m4, .ref m5, .int s_isProgram, .int s_half, .ref m6, .ref m7, .ref m8, .ref m9, .ref m10, .ref m11, .ref m12, .ref m13, .ref m14, .ref m15, .ref m16, .ref m17, .ref m18, .ref m19, .ref m20, .int s_signs, .ref m21, .int s_stacked, .ref m22, .int s_name, .int s_shift, .int s_statements, .int s_ifs, .int s_whiles, .int s_variants, .int s_open, .ref m23, .int s_isMade, .int s_conditions, .ref m24, .ref m25, .ref m26, .ref m27, .int s_kept, .ref m28, .int s_tops, .ref m29, .int s_used, .ref m30, .ref m31, .int s_looked, .int s_rows, .int s_firstRow, .ref m32, .ref m33, .ref m34, .ref m35, .ref m36, .ref m37, .ref m38, .ref m39, .ref m40, .int s_isBroken, .ref m41, .int s_atoms, .ref m42])), (m41, .inl (ax 4, 6, .inr (.inl vs)))]) hP hD hS hA [3, 0] (by decide) rfl
            have hz := xz_of hN hS
            refine va_calll (va_runV (As := [.int (nI y4), .int (f (o1 + 6 * i1 + 5))]) (rest := [.int (f (o1 + 6 * i1 + 3)), .long ((f (o1 + 6 * i1 + 2)).toInt64), .int (nI n1), .ref m42]) ⟨hx, hb, hml, hown, hts⟩ (c_M_termOf_ok l D ax m0 m1 m2 m3 m4 m5 m6 m7 m8 m9 m10 m11 m12 m13 m14 m15 m16 m17 m18 m19 m20 m21 m22 m23 m24 m25 m26 m27 m28 m29 m30 m31 m32 m33 m34 m35 m36 m37 m38 m39 m40 m41 m42 s_thrown s_taped s_size s_outSize s_kind s_value s_begin s_end s_failed s_isProgram s_half s_signs s_stacked s_name s_shift s_statements s_ifs s_whiles s_variants s_open s_isMade s_conditions s_kept s_tops s_used s_looked s_rows s_firstRow s_isBroken s_atoms y4 (f (o1 + 6 * i1 + 5)) vs H_34.size (by first | assumption | omega)) (xcV (n := 2) hts wd_1592 wd_15 wd_1589 wd_1591 ps_112 rfl rfl (by decide +kernel) ⟨Nat.le_of_ble_eq_true rfl, Nat.le_of_ble_eq_true rfl⟩) (xpV (ci := 11) (q0 := 0) (As := [.int (nI y4), .int (f (o1 + 6 * i1 + 5))]) hPc hK hz hDc rfl rfl) rfl rfl hl1.1 rfl (lv_room (Nat.le_of_ble_eq_true rfl)) d_Model_isTrue_69 ⟨Nat.le_of_ble_eq_true rfl, Nat.le_of_ble_eq_true rfl⟩) hS (fun q _ h => hFc q h) hFc (fun r_49 u_47 t H_48 locs ht hvm hw hB hz1 hk1 hS1 => ?_)
            try dsimp only at hw
            subst hw
            obtain ⟨hP1, hD1⟩ := hB
            rw [ht] at hP1
            have hjn := xw_join3 (wl := [(m42, .inl (ax 3, 256, .inl (fun j => nI (tr1 j)))), (h0, .inl (ax 0, N1, .inl f)), (m0, .inr (11, [.int s_thrown, .int s_taped, .ref m1, .int s_size, .int s_outSize, .ref m2, .int s_kind, .int s_value, .int s_begin, .int s_end, .int s_failed, .ref m3, .ref m4, .ref m5, .int s_isProgram, .int s_half, .ref m6, .ref m7, .ref m8, .ref m9, .ref m10, .ref m11, .ref m12, .ref m13, .ref m14, .ref m15, .ref m16, .ref m17, .ref m18, .ref m19, .ref m20, .int s_signs, .ref m21, .int s_stacked, .ref m22, .int s_name, .int s_shift, .int s_statements, .int s_ifs, .int s_whiles, .int s_variants, .int s_open, .ref m23, .int s_isMade, .int s_conditions, .ref m24, .ref m25, .ref m26, .ref m27, .int s_kept, .ref m28, .int s_tops, .ref m29, .int s_used, .ref m30, .ref m31, .int s_looked, .int s_rows, .int s_firstRow, .ref m32, .ref m33, .ref m34, .ref m35, .ref m36, .ref m37, .ref m38, .ref m39, .ref m40, .int s_isBroken, .ref m41, .int s_atoms, .ref m42])), (m41, .inl (ax 4, 6, .inr (.inl vs)))]) hP hD [3, 0] [1, 2] hCs (by decide) (by decide) hk1 hFc hP1 hD1 rfl
            clear hP1 hD1
            clear hPc hDc hFc hCs hz hz1 hk1 ht hvm
            clear hP hD hS
            have hS := hS1
            obtain ⟨hP, hD⟩ := hjn
            clear hS1
            obtain ⟨hPc, hDc, hFc, hCs⟩ := xw_sub3 (wc := []) hP hD hS hA [] (by decide) rfl
            have hz := xz_of hN hS
            refine va_calli (va_runS (As := [.long ((f (o1 + 6 * i1 + 2)).toInt64), .int (f (o1 + 6 * i1 + 3)), .long (vs y4 + (f (o1 + 6 * i1 + 5)).toInt64)]) (rest := [.int (nI n1), .ref m42]) ⟨hx, hb, hml, hown, hts⟩ (c_M_compare l D ax ((f (o1 + 6 * i1 + 2)).toInt64) (vs y4 + (f (o1 + 6 * i1 + 5)).toInt64) (f (o1 + 6 * i1 + 3)) H_48.size) (xcS (n := 3) hts wd_1599 wd_15 wd_1597 wd_1598 rfl rfl (by decide +kernel) ⟨Nat.le_of_ble_eq_true rfl, Nat.le_of_ble_eq_true rfl⟩) (xpS (As := [.long ((f (o1 + 6 * i1 + 2)).toInt64), .int (f (o1 + 6 * i1 + 3)), .long (vs y4 + (f (o1 + 6 * i1 + 5)).toInt64)]) hPc hK hz hDc) rfl rfl hl1.1 rfl (lv_room (Nat.le_of_ble_eq_true rfl)) d_Model_isTrue_72 ⟨Nat.le_of_ble_eq_true rfl, Nat.le_of_ble_eq_true rfl⟩) hS (fun q _ h => hFc q h) hFc (fun r_52 u_50 t H_51 locs ht hvm hw hB hz1 hk1 hS1 => ?_)
            try dsimp only at hw
            obtain ⟨hw, hs_53⟩ := hw
            subst hw
            obtain ⟨hP1, hD1⟩ := hB
            rw [ht] at hP1
            have hjn := xw_join3 (wl := [(m42, .inl (ax 3, 256, .inl (fun j => nI (tr1 j)))), (h0, .inl (ax 0, N1, .inl f)), (m0, .inr (11, [.int s_thrown, .int s_taped, .ref m1, .int s_size, .int s_outSize, .ref m2, .int s_kind, .int s_value, .int s_begin, .int s_end, .int s_failed, .ref m3, .ref m4, .ref m5, .int s_isProgram, .int s_half, .ref m6, .ref m7, .ref m8, .ref m9, .ref m10, .ref m11, .ref m12, .ref m13, .ref m14, .ref m15, .ref m16, .ref m17, .ref m18, .ref m19, .ref m20, .int s_signs, .ref m21, .int s_stacked, .ref m22, .int s_name, .int s_shift, .int s_statements, .int s_ifs, .int s_whiles, .int s_variants, .int s_open, .ref m23, .int s_isMade, .int s_conditions, .ref m24, .ref m25, .ref m26, .ref m27, .int s_kept, .ref m28, .int s_tops, .ref m29, .int s_used, .ref m30, .ref m31, .int s_looked, .int s_rows, .int s_firstRow, .ref m32, .ref m33, .ref m34, .ref m35, .ref m36, .ref m37, .ref m38, .ref m39, .ref m40, .int s_isBroken, .ref m41, .int s_atoms, .ref m42])), (m41, .inl (ax 4, 6, .inr (.inl vs)))]) hP hD [] [0, 1, 2, 3] hCs (by decide) (by decide) hk1 hFc hP1 hD1 rfl
            clear hP1 hD1
            clear hPc hDc hFc hCs hz hz1 hk1 ht hvm
            clear hP hD hS
            have hS := hS1
            obtain ⟨hP, hD⟩ := hjn
            clear hS1
            refine va_zast hx hb hK.1 hP hD hS 0 3 rfl rfl (vp_in_nI (by first | assumption | omega) (by decide)) d_Model_isTrue_75 (fun H_54 locs hP1 hD1 hS1 => ?_)
            rw [nI_clamp (by first | exact Nat.lt_of_lt_of_le (by assumption) (by decide) | exact Nat.lt_of_le_of_lt (by assumption) (by decide) | omega)] at hP1 hD1
            rw [xf_supz tr1 n1 (u_50 0) (nI (u_50 0)) (vpn (by first | assumption | omega))] at hP1 hD1
            clear hP hD hS
            have hS := hS1
            have hW7 : (fun w9 : va_W => va_P D classes w9 H_54 ∧ va_D A w9) [(m42, .inl (ax 3, 256, .inl (fun j => nI (sup tr1 n1 (u_50 0) j)))), (h0, .inl (ax 0, N1, .inl f)), (m0, .inr (11, [.int s_thrown, .int s_taped, .ref m1, .int s_size, .int s_outSize, .ref m2, .int s_kind, .int s_value, .int s_begin, .int s_end, .int s_failed, .ref m3, .ref m4, .ref m5, .int s_isProgram, .int s_half, .ref m6, .ref m7, .ref m8, .ref m9, .ref m10, .ref m11, .ref m12, .ref m13, .ref m14, .ref m15, .ref m16, .ref m17, .ref m18, .ref m19, .ref m20, .int s_signs, .ref m21, .int s_stacked, .ref m22, .int s_name, .int s_shift, .int s_statements, .int s_ifs, .int s_whiles, .int s_variants, .int s_open, .ref m23, .int s_isMade, .int s_conditions, .ref m24, .ref m25, .ref m26, .ref m27, .int s_kept, .ref m28, .int s_tops, .ref m29, .int s_used, .ref m30, .ref m31, .int s_looked, .int s_rows, .int s_firstRow, .ref m32, .ref m33, .ref m34, .ref m35, .ref m36, .ref m37, .ref m38, .ref m39, .ref m40, .int s_isBroken, .ref m41, .int s_atoms, .ref m42])), (m41, .inl (ax 4, 6, .inr (.inl vs)))] := ⟨hP1, hD1⟩
            obtain ⟨hP, hD⟩ := hW7
            clear hP1 hD1 hS1
            refine lv_iinc (v := nI (n1 + 1)) (lv' := [(4, .int (nI (n1 + 1))), (6, .int (nI (o1 + 6 * i1))), (0, .ref m0), (1, .ref h0), (2, .int (nI o1)), (3, .int (nI q)), (5, .int (nI i1))]) hx hb d_Model_isTrue_76 hl1 (k := 5) rfl (nI_add n1 1) (by decide) rfl (fun ls hl2 => ?_)
            clear hl1; have hl1 := hl2; clear hl2
            refine lv_goto (tgt := 200) hx hb d_Model_isTrue_79 (by decide) ?_
            refine lv_iinc (v := nI (i1 + 1)) (lv' := [(5, .int (nI (i1 + 1))), (4, .int (nI (n1 + 1))), (6, .int (nI (o1 + 6 * i1))), (0, .ref m0), (1, .ref h0), (2, .int (nI o1)), (3, .int (nI q))]) hx hb d_Model_isTrue_200 hl1 (k := 6) rfl (nI_add i1 1) (by decide) rfl (fun ls hl2 => ?_)
            clear hl1; have hl1 := hl2; clear hl2
            refine lv_goto (tgt := 6) hx hb d_Model_isTrue_203 (by decide) ?_
            exact ih_3 (i1 + 1) (n1 + 1) (sup tr1 n1 (u_50 0)) (by first | assumption | omega) (by first | assumption | omega) (by first | assumption | omega) (sup1 htr1 (by first | assumption | omega)) _ _ _ (hP.sub [2, 3, 0, 1] rfl) (hD.sub [2, 3, 0, 1] (by decide) rfl) hS (lv_sub hl1 [3, 4, 5, 6, 1, 0] rfl)
        · refine W.eq (g2 := F0 m 47 ls [.int (f (o1 + 6 * i1 + 2)), .int (nI y1), .ref m0, .int (nI n1), .ref m42]) (by rw [ey1]) ?_
          obtain ⟨hPc, hDc, hFc, hCs⟩ := xw_sub3 (wc := [(m0, .inr (11, [.int s_thrown, .int s_taped, .ref m1, .int s_size, .int s_outSize, .ref m2, .int s_kind, .int s_value, .int s_begin, .int s_end, .int s_failed, .ref m3, .ref m4, .ref m5, .int s_isProgram, .int s_half, .ref m6, .ref m7, .ref m8, .ref m9, .ref m10, .ref m11, .ref m12, .ref m13, .ref m14, .ref m15, .ref m16, .ref m17, .ref m18, .ref m19, .ref m20, .int s_signs, .ref m21, .int s_stacked, .ref m22, .int s_name, .int s_shift, .int s_statements, .int s_ifs, .int s_whiles, .int s_variants, .int s_open, .ref m23, .int s_isMade, .int s_conditions, .ref m24, .ref m25, .ref m26, .ref m27, .int s_kept, .ref m28, .int s_tops, .ref m29, .int s_used, .ref m30, .ref m31, .int s_looked, .int s_rows, .int s_firstRow, .ref m32, .ref m33, .ref m34, .ref m35, .ref m36, .ref m37, .ref m38, .ref m39, .ref m40, .int s_isBroken, .ref m41, .int s_atoms, .ref m42])), (m41, .inl (ax 4, 6, .inr (.inl vs)))]) hP hD hS hA [0, 1] (by decide) rfl
          have hz := xz_of hN hS
          refine va_calll (va_runV (As := [.int (nI y1), .int (f (o1 + 6 * i1 + 2))]) (rest := [.int (nI n1), .ref m42]) ⟨hx, hb, hml, hown, hts⟩ (c_M_termOf_ok l D ax m0 m1 m2 m3 m4 m5 m6 m7 m8 m9 m10 m11 m12 m13 m14 m15 m16 m17 m18 m19 m20 m21 m22 m23 m24 m25 m26 m27 m28 m29 m30 m31 m32 m33 m34 m35 m36 m37 m38 m39 m40 m41 m42 s_thrown s_taped s_size s_outSize s_kind s_value s_begin s_end s_failed s_isProgram s_half s_signs s_stacked s_name s_shift s_statements s_ifs s_whiles s_variants s_open s_isMade s_conditions s_kept s_tops s_used s_looked s_rows s_firstRow s_isBroken s_atoms y1 (f (o1 + 6 * i1 + 2)) vs H.size (by first | assumption | omega)) (xcV (n := 2) hts wd_1592 wd_15 wd_1589 wd_1591 ps_112 rfl rfl (by decide +kernel) ⟨Nat.le_of_ble_eq_true rfl, Nat.le_of_ble_eq_true rfl⟩) (xpV (ci := 11) (q0 := 0) (As := [.int (nI y1), .int (f (o1 + 6 * i1 + 2))]) hPc hK hz hDc rfl rfl) rfl rfl hl1.1 rfl (lv_room (Nat.le_of_ble_eq_true rfl)) d_Model_isTrue_47 ⟨Nat.le_of_ble_eq_true rfl, Nat.le_of_ble_eq_true rfl⟩) hS (fun q _ h => hFc q h) hFc (fun r_57 u_55 t H_56 locs ht hvm hw hB hz1 hk1 hS1 => ?_)
          try dsimp only at hw
          subst hw
          obtain ⟨hP1, hD1⟩ := hB
          rw [ht] at hP1
          have hjn := xw_join3 (wl := [(m42, .inl (ax 3, 256, .inl (fun j => nI (tr1 j)))), (h0, .inl (ax 0, N1, .inl f)), (m0, .inr (11, [.int s_thrown, .int s_taped, .ref m1, .int s_size, .int s_outSize, .ref m2, .int s_kind, .int s_value, .int s_begin, .int s_end, .int s_failed, .ref m3, .ref m4, .ref m5, .int s_isProgram, .int s_half, .ref m6, .ref m7, .ref m8, .ref m9, .ref m10, .ref m11, .ref m12, .ref m13, .ref m14, .ref m15, .ref m16, .ref m17, .ref m18, .ref m19, .ref m20, .int s_signs, .ref m21, .int s_stacked, .ref m22, .int s_name, .int s_shift, .int s_statements, .int s_ifs, .int s_whiles, .int s_variants, .int s_open, .ref m23, .int s_isMade, .int s_conditions, .ref m24, .ref m25, .ref m26, .ref m27, .int s_kept, .ref m28, .int s_tops, .ref m29, .int s_used, .ref m30, .ref m31, .int s_looked, .int s_rows, .int s_firstRow, .ref m32, .ref m33, .ref m34, .ref m35, .ref m36, .ref m37, .ref m38, .ref m39, .ref m40, .int s_isBroken, .ref m41, .int s_atoms, .ref m42])), (m41, .inl (ax 4, 6, .inr (.inl vs)))]) hP hD [0, 1] [2, 3] hCs (by decide) (by decide) hk1 hFc hP1 hD1 rfl
          clear hP1 hD1
          clear hPc hDc hFc hCs hz hz1 hk1 ht hvm
          clear hP hD hS
          have hS := hS1
          obtain ⟨hP, hD⟩ := hjn
          clear hS1
          refine lv_aload_n hx hb d_Model_isTrue_50 rfl (lv_at hl1 2 rfl) ?_
          refine lv_iload hx hb d_Model_isTrue_51 (lv_at hl1 0 rfl) ?_
          refine lv_iconst (v := 3) hx hb d_Model_isTrue_53 (by decide) ?_
          refine lv_iadd hx hb d_Model_isTrue_54 ?_
          refine lv_topi (fun z_58 ez_58 => ?_)
          have ez_58 : z_58 = nI (o1 + 6 * i1 + 3) := ez_58.trans (nI_add (o1 + 6 * i1) 3)
          subst ez_58
          refine va_iald hx hb hK.1 hP 1 0 rfl rfl (vp_in_nI (by first | assumption | omega) (by first | exact Nat.lt_of_lt_of_le (by assumption) (by decide) | exact Nat.lt_of_le_of_lt (by assumption) (by decide) | omega)) d_Model_isTrue_55 ?_
          refine W.eq (g2 := F0 m 56 ls [.int (f (o1 + 6 * i1 + 3)), .long (vs y1 + (f (o1 + 6 * i1 + 2)).toInt64), .int (nI n1), .ref m42]) (by rw [nI_clamp (by first | exact Nat.lt_of_lt_of_le (by assumption) (by decide) | exact Nat.lt_of_le_of_lt (by assumption) (by decide) | omega)]) ?_
          refine lv_aload_n hx hb d_Model_isTrue_56 rfl (lv_at hl1 1 rfl) ?_
          refine lv_aload_n hx hb d_Model_isTrue_57 rfl (lv_at hl1 2 rfl) ?_
          refine lv_iload hx hb d_Model_isTrue_58 (lv_at hl1 0 rfl) ?_
          refine lv_iconst (v := 4) hx hb d_Model_isTrue_60 (by decide) ?_
          refine lv_iadd hx hb d_Model_isTrue_61 ?_
          refine lv_topi (fun z_59 ez_59 => ?_)
          have ez_59 : z_59 = nI (o1 + 6 * i1 + 4) := ez_59.trans (nI_add (o1 + 6 * i1) 4)
          subst ez_59
          refine va_iald hx hb hK.1 hP 1 0 rfl rfl (vp_in_nI (by first | assumption | omega) (by first | exact Nat.lt_of_lt_of_le (by assumption) (by decide) | exact Nat.lt_of_le_of_lt (by assumption) (by decide) | omega)) d_Model_isTrue_62 ?_
          refine W.eq (g2 := F0 m 63 ls [.int (f (o1 + 6 * i1 + 4)), .ref m0, .int (f (o1 + 6 * i1 + 3)), .long (vs y1 + (f (o1 + 6 * i1 + 2)).toInt64), .int (nI n1), .ref m42]) (by rw [nI_clamp (by first | exact Nat.lt_of_lt_of_le (by assumption) (by decide) | exact Nat.lt_of_le_of_lt (by assumption) (by decide) | omega)]) ?_
          refine lv_aload_n hx hb d_Model_isTrue_63 rfl (lv_at hl1 2 rfl) ?_
          refine lv_iload hx hb d_Model_isTrue_64 (lv_at hl1 0 rfl) ?_
          refine lv_iconst (v := 5) hx hb d_Model_isTrue_66 (by decide) ?_
          refine lv_iadd hx hb d_Model_isTrue_67 ?_
          refine lv_topi (fun z_60 ez_60 => ?_)
          have ez_60 : z_60 = nI (o1 + 6 * i1 + 5) := ez_60.trans (nI_add (o1 + 6 * i1) 5)
          subst ez_60
          refine va_iald hx hb hK.1 hP 1 0 rfl rfl (vp_in_nI (by first | assumption | omega) (by first | exact Nat.lt_of_lt_of_le (by assumption) (by decide) | exact Nat.lt_of_le_of_lt (by assumption) (by decide) | omega)) d_Model_isTrue_68 ?_
          refine W.eq (g2 := F0 m 69 ls [.int (f (o1 + 6 * i1 + 5)), .int (f (o1 + 6 * i1 + 4)), .ref m0, .int (f (o1 + 6 * i1 + 3)), .long (vs y1 + (f (o1 + 6 * i1 + 2)).toInt64), .int (nI n1), .ref m42]) (by rw [nI_clamp (by first | exact Nat.lt_of_lt_of_le (by assumption) (by decide) | exact Nat.lt_of_le_of_lt (by assumption) (by decide) | omega)]) ?_
          rcases hm4 with ey4 | ⟨y4, hy4, ey4⟩
          · refine W.eq (g2 := F0 m 69 ls [.int (f (o1 + 6 * i1 + 5)), .int (-1), .ref m0, .int (f (o1 + 6 * i1 + 3)), .long (vs y1 + (f (o1 + 6 * i1 + 2)).toInt64), .int (nI n1), .ref m42]) (by rw [ey4]) ?_
            obtain ⟨hPc, hDc, hFc, hCs⟩ := xw_sub3 (wc := [(m0, .inr (11, [.int s_thrown, .int s_taped, .ref m1, .int s_size, .int s_outSize, .ref m2, .int s_kind, .int s_value, .int s_begin, .int s_end, .int s_failed, .ref m3, .ref m4, .ref m5, .int s_isProgram, .int s_half, .ref m6, .ref m7, .ref m8, .ref m9, .ref m10, .ref m11, .ref m12, .ref m13, .ref m14, .ref m15, .ref m16, .ref m17, .ref m18, .ref m19, .ref m20, .int s_signs, .ref m21, .int s_stacked, .ref m22, .int s_name, .int s_shift, .int s_statements, .int s_ifs, .int s_whiles, .int s_variants, .int s_open, .ref m23, .int s_isMade, .int s_conditions, .ref m24, .ref m25, .ref m26, .ref m27, .int s_kept, .ref m28, .int s_tops, .ref m29, .int s_used, .ref m30, .ref m31, .int s_looked, .int s_rows, .int s_firstRow, .ref m32, .ref m33, .ref m34, .ref m35, .ref m36, .ref m37, .ref m38, .ref m39, .ref m40, .int s_isBroken, .ref m41, .int s_atoms, .ref m42]))]) hP hD hS hA [2] (by decide) rfl
            have hz := xz_of hN hS
            refine va_calll (va_runV (As := [.int (-1), .int (f (o1 + 6 * i1 + 5))]) (rest := [.int (f (o1 + 6 * i1 + 3)), .long (vs y1 + (f (o1 + 6 * i1 + 2)).toInt64), .int (nI n1), .ref m42]) ⟨hx, hb, hml, hown, hts⟩ (c_M_termOf_no l D ax m0 m1 m2 m3 m4 m5 m6 m7 m8 m9 m10 m11 m12 m13 m14 m15 m16 m17 m18 m19 m20 m21 m22 m23 m24 m25 m26 m27 m28 m29 m30 m31 m32 m33 m34 m35 m36 m37 m38 m39 m40 m41 m42 s_thrown s_taped s_size s_outSize s_kind s_value s_begin s_end s_failed s_isProgram s_half s_signs s_stacked s_name s_shift s_statements s_ifs s_whiles s_variants s_open s_isMade s_conditions s_kept s_tops s_used s_looked s_rows s_firstRow s_isBroken s_atoms (f (o1 + 6 * i1 + 5)) H_56.size) (xcV (n := 2) hts wd_1592 wd_15 wd_1589 wd_1591 ps_112 rfl rfl (by decide +kernel) ⟨Nat.le_of_ble_eq_true rfl, Nat.le_of_ble_eq_true rfl⟩) (xpV (ci := 11) (q0 := 0) (As := [.int (-1), .int (f (o1 + 6 * i1 + 5))]) hPc hK hz hDc rfl rfl) rfl rfl hl1.1 rfl (lv_room (Nat.le_of_ble_eq_true rfl)) d_Model_isTrue_69 ⟨Nat.le_of_ble_eq_true rfl, Nat.le_of_ble_eq_true rfl⟩) hS (fun q _ h => hFc q h) hFc (fun r_63 u_61 t H_62 locs ht hvm hw hB hz1 hk1 hS1 => ?_)
            try dsimp only at hw
            subst hw
            obtain ⟨hP1, hD1⟩ := hB
            rw [ht] at hP1
            have hjn := xw_join3 (wl := [(m42, .inl (ax 3, 256, .inl (fun j => nI (tr1 j)))), (h0, .inl (ax 0, N1, .inl f)), (m41, .inl (ax 4, 6, .inr (.inl vs))), (m0, .inr (11, [.int s_thrown, .int s_taped, .ref m1, .int s_size, .int s_outSize, .ref m2, .int s_kind, .int s_value, .int s_begin, .int s_end, .int s_failed, .ref m3, .ref m4, .ref m5, .int s_isProgram, .int s_half, .ref m6, .ref m7, .ref m8, .ref m9, .ref m10, .ref m11, .ref m12, .ref m13, .ref m14, .ref m15, .ref m16, .ref m17, .ref m18, .ref m19, .ref m20, .int s_signs, .ref m21, .int s_stacked, .ref m22, .int s_name, .int s_shift, .int s_statements, .int s_ifs, .int s_whiles, .int s_variants, .int s_open, .ref m23, .int s_isMade, .int s_conditions, .ref m24, .ref m25, .ref m26, .ref m27, .int s_kept, .ref m28, .int s_tops, .ref m29, .int s_used, .ref m30, .ref m31, .int s_looked, .int s_rows, .int s_firstRow, .ref m32, .ref m33, .ref m34, .ref m35, .ref m36, .ref m37, .ref m38, .ref m39, .ref m40, .int s_isBroken, .ref m41, .int s_atoms, .ref m42]))]) hP hD [2] [0, 1, 3] hCs (by decide) (by decide) hk1 hFc hP1 hD1 rfl
            clear hP1 hD1
            clear hPc hDc hFc hCs hz hz1 hk1 ht hvm
            clear hP hD hS
            have hS := hS1
            obtain ⟨hP, hD⟩ := hjn
            clear hS1
            obtain ⟨hPc, hDc, hFc, hCs⟩ := xw_sub3 (wc := []) hP hD hS hA [] (by decide) rfl
            have hz := xz_of hN hS
            refine va_calli (va_runS (As := [.long (vs y1 + (f (o1 + 6 * i1 + 2)).toInt64), .int (f (o1 + 6 * i1 + 3)), .long ((f (o1 + 6 * i1 + 5)).toInt64)]) (rest := [.int (nI n1), .ref m42]) ⟨hx, hb, hml, hown, hts⟩ (c_M_compare l D ax (vs y1 + (f (o1 + 6 * i1 + 2)).toInt64) ((f (o1 + 6 * i1 + 5)).toInt64) (f (o1 + 6 * i1 + 3)) H_62.size) (xcS (n := 3) hts wd_1599 wd_15 wd_1597 wd_1598 rfl rfl (by decide +kernel) ⟨Nat.le_of_ble_eq_true rfl, Nat.le_of_ble_eq_true rfl⟩) (xpS (As := [.long (vs y1 + (f (o1 + 6 * i1 + 2)).toInt64), .int (f (o1 + 6 * i1 + 3)), .long ((f (o1 + 6 * i1 + 5)).toInt64)]) hPc hK hz hDc) rfl rfl hl1.1 rfl (lv_room (Nat.le_of_ble_eq_true rfl)) d_Model_isTrue_72 ⟨Nat.le_of_ble_eq_true rfl, Nat.le_of_ble_eq_true rfl⟩) hS (fun q _ h => hFc q h) hFc (fun r_66 u_64 t H_65 locs ht hvm hw hB hz1 hk1 hS1 => ?_)
            try dsimp only at hw
            obtain ⟨hw, hs_67⟩ := hw
            subst hw
            obtain ⟨hP1, hD1⟩ := hB
            rw [ht] at hP1
            have hjn := xw_join3 (wl := [(m42, .inl (ax 3, 256, .inl (fun j => nI (tr1 j)))), (h0, .inl (ax 0, N1, .inl f)), (m41, .inl (ax 4, 6, .inr (.inl vs))), (m0, .inr (11, [.int s_thrown, .int s_taped, .ref m1, .int s_size, .int s_outSize, .ref m2, .int s_kind, .int s_value, .int s_begin, .int s_end, .int s_failed, .ref m3, .ref m4, .ref m5, .int s_isProgram, .int s_half, .ref m6, .ref m7, .ref m8, .ref m9, .ref m10, .ref m11, .ref m12, .ref m13, .ref m14, .ref m15, .ref m16, .ref m17, .ref m18, .ref m19, .ref m20, .int s_signs, .ref m21, .int s_stacked, .ref m22, .int s_name, .int s_shift, .int s_statements, .int s_ifs, .int s_whiles, .int s_variants, .int s_open, .ref m23, .int s_isMade, .int s_conditions, .ref m24, .ref m25, .ref m26, .ref m27, .int s_kept, .ref m28, .int s_tops, .ref m29, .int s_used, .ref m30, .ref m31, .int s_looked, .int s_rows, .int s_firstRow, .ref m32, .ref m33, .ref m34, .ref m35, .ref m36, .ref m37, .ref m38, .ref m39, .ref m40, .int s_isBroken, .ref m41, .int s_atoms, .ref m42]))]) hP hD [] [0, 1, 2, 3] hCs (by decide) (by decide) hk1 hFc hP1 hD1 rfl
            clear hP1 hD1
            clear hPc hDc hFc hCs hz hz1 hk1 ht hvm
            clear hP hD hS
            have hS := hS1
            obtain ⟨hP, hD⟩ := hjn
            clear hS1
            refine va_zast hx hb hK.1 hP hD hS 0 3 rfl rfl (vp_in_nI (by first | assumption | omega) (by decide)) d_Model_isTrue_75 (fun H_68 locs hP1 hD1 hS1 => ?_)
            rw [nI_clamp (by first | exact Nat.lt_of_lt_of_le (by assumption) (by decide) | exact Nat.lt_of_le_of_lt (by assumption) (by decide) | omega)] at hP1 hD1
            rw [xf_supz tr1 n1 (u_64 0) (nI (u_64 0)) (vpn (by first | assumption | omega))] at hP1 hD1
            clear hP hD hS
            have hS := hS1
            have hW7 : (fun w9 : va_W => va_P D classes w9 H_68 ∧ va_D A w9) [(m42, .inl (ax 3, 256, .inl (fun j => nI (sup tr1 n1 (u_64 0) j)))), (h0, .inl (ax 0, N1, .inl f)), (m41, .inl (ax 4, 6, .inr (.inl vs))), (m0, .inr (11, [.int s_thrown, .int s_taped, .ref m1, .int s_size, .int s_outSize, .ref m2, .int s_kind, .int s_value, .int s_begin, .int s_end, .int s_failed, .ref m3, .ref m4, .ref m5, .int s_isProgram, .int s_half, .ref m6, .ref m7, .ref m8, .ref m9, .ref m10, .ref m11, .ref m12, .ref m13, .ref m14, .ref m15, .ref m16, .ref m17, .ref m18, .ref m19, .ref m20, .int s_signs, .ref m21, .int s_stacked, .ref m22, .int s_name, .int s_shift, .int s_statements, .int s_ifs, .int s_whiles, .int s_variants, .int s_open, .ref m23, .int s_isMade, .int s_conditions, .ref m24, .ref m25, .ref m26, .ref m27, .int s_kept, .ref m28, .int s_tops, .ref m29, .int s_used, .ref m30, .ref m31, .int s_looked, .int s_rows, .int s_firstRow, .ref m32, .ref m33, .ref m34, .ref m35, .ref m36, .ref m37, .ref m38, .ref m39, .ref m40, .int s_isBroken, .ref m41, .int s_atoms, .ref m42]))] := ⟨hP1, hD1⟩
            obtain ⟨hP, hD⟩ := hW7
            clear hP1 hD1 hS1
            refine lv_iinc (v := nI (n1 + 1)) (lv' := [(4, .int (nI (n1 + 1))), (6, .int (nI (o1 + 6 * i1))), (0, .ref m0), (1, .ref h0), (2, .int (nI o1)), (3, .int (nI q)), (5, .int (nI i1))]) hx hb d_Model_isTrue_76 hl1 (k := 5) rfl (nI_add n1 1) (by decide) rfl (fun ls hl2 => ?_)
            clear hl1; have hl1 := hl2; clear hl2
            refine lv_goto (tgt := 200) hx hb d_Model_isTrue_79 (by decide) ?_
            refine lv_iinc (v := nI (i1 + 1)) (lv' := [(5, .int (nI (i1 + 1))), (4, .int (nI (n1 + 1))), (6, .int (nI (o1 + 6 * i1))), (0, .ref m0), (1, .ref h0), (2, .int (nI o1)), (3, .int (nI q))]) hx hb d_Model_isTrue_200 hl1 (k := 6) rfl (nI_add i1 1) (by decide) rfl (fun ls hl2 => ?_)
            clear hl1; have hl1 := hl2; clear hl2
            refine lv_goto (tgt := 6) hx hb d_Model_isTrue_203 (by decide) ?_
            exact ih_3 (i1 + 1) (n1 + 1) (sup tr1 n1 (u_64 0)) (by first | assumption | omega) (by first | assumption | omega) (by first | assumption | omega) (sup1 htr1 (by first | assumption | omega)) _ _ _ (hP.sub [3, 2, 0, 1] rfl) (hD.sub [3, 2, 0, 1] (by decide) rfl) hS (lv_sub hl1 [3, 4, 5, 6, 1, 0] rfl)
          · refine W.eq (g2 := F0 m 69 ls [.int (f (o1 + 6 * i1 + 5)), .int (nI y4), .ref m0, .int (f (o1 + 6 * i1 + 3)), .long (vs y1 + (f (o1 + 6 * i1 + 2)).toInt64), .int (nI n1), .ref m42]) (by rw [ey4]) ?_
            obtain ⟨hPc, hDc, hFc, hCs⟩ := xw_sub3 (wc := [(m0, .inr (11, [.int s_thrown, .int s_taped, .ref m1, .int s_size, .int s_outSize, .ref m2, .int s_kind, .int s_value, .int s_begin, .int s_end, .int s_failed, .ref m3, .ref m4, .ref m5, .int s_isProgram, .int s_half, .ref m6, .ref m7, .ref m8, .ref m9, .ref m10, .ref m11, .ref m12, .ref m13, .ref m14, .ref m15, .ref m16, .ref m17, .ref m18, .ref m19, .ref m20, .int s_signs, .ref m21, .int s_stacked, .ref m22, .int s_name, .int s_shift, .int s_statements, .int s_ifs, .int s_whiles, .int s_variants, .int s_open, .ref m23, .int s_isMade, .int s_conditions, .ref m24, .ref m25, .ref m26, .ref m27, .int s_kept, .ref m28, .int s_tops, .ref m29, .int s_used, .ref m30, .ref m31, .int s_looked, .int s_rows, .int s_firstRow, .ref m32, .ref m33, .ref m34, .ref m35, .ref m36, .ref m37, .ref m38, .ref m39, .ref m40, .int s_isBroken, .ref m41, .int s_atoms, .ref m42])), (m41, .inl (ax 4, 6, .inr (.inl vs)))]) hP hD hS hA [2, 3] (by decide) rfl
            have hz := xz_of hN hS
            refine va_calll (va_runV (As := [.int (nI y4), .int (f (o1 + 6 * i1 + 5))]) (rest := [.int (f (o1 + 6 * i1 + 3)), .long (vs y1 + (f (o1 + 6 * i1 + 2)).toInt64), .int (nI n1), .ref m42]) ⟨hx, hb, hml, hown, hts⟩ (c_M_termOf_ok l D ax m0 m1 m2 m3 m4 m5 m6 m7 m8 m9 m10 m11 m12 m13 m14 m15 m16 m17 m18 m19 m20 m21 m22 m23 m24 m25 m26 m27 m28 m29 m30 m31 m32 m33 m34 m35 m36 m37 m38 m39 m40 m41 m42 s_thrown s_taped s_size s_outSize s_kind s_value s_begin s_end s_failed s_isProgram s_half s_signs s_stacked s_name s_shift s_statements s_ifs s_whiles s_variants s_open s_isMade s_conditions s_kept s_tops s_used s_looked s_rows s_firstRow s_isBroken s_atoms y4 (f (o1 + 6 * i1 + 5)) vs H_56.size (by first | assumption | omega)) (xcV (n := 2) hts wd_1592 wd_15 wd_1589 wd_1591 ps_112 rfl rfl (by decide +kernel) ⟨Nat.le_of_ble_eq_true rfl, Nat.le_of_ble_eq_true rfl⟩) (xpV (ci := 11) (q0 := 0) (As := [.int (nI y4), .int (f (o1 + 6 * i1 + 5))]) hPc hK hz hDc rfl rfl) rfl rfl hl1.1 rfl (lv_room (Nat.le_of_ble_eq_true rfl)) d_Model_isTrue_69 ⟨Nat.le_of_ble_eq_true rfl, Nat.le_of_ble_eq_true rfl⟩) hS (fun q _ h => hFc q h) hFc (fun r_71 u_69 t H_70 locs ht hvm hw hB hz1 hk1 hS1 => ?_)
            try dsimp only at hw
            subst hw
            obtain ⟨hP1, hD1⟩ := hB
            rw [ht] at hP1
            have hjn := xw_join3 (wl := [(m42, .inl (ax 3, 256, .inl (fun j => nI (tr1 j)))), (h0, .inl (ax 0, N1, .inl f)), (m0, .inr (11, [.int s_thrown, .int s_taped, .ref m1, .int s_size, .int s_outSize, .ref m2, .int s_kind, .int s_value, .int s_begin, .int s_end, .int s_failed, .ref m3, .ref m4, .ref m5, .int s_isProgram, .int s_half, .ref m6, .ref m7, .ref m8, .ref m9, .ref m10, .ref m11, .ref m12, .ref m13, .ref m14, .ref m15, .ref m16, .ref m17, .ref m18, .ref m19, .ref m20, .int s_signs, .ref m21, .int s_stacked, .ref m22, .int s_name, .int s_shift, .int s_statements, .int s_ifs, .int s_whiles, .int s_variants, .int s_open, .ref m23, .int s_isMade, .int s_conditions, .ref m24, .ref m25, .ref m26, .ref m27, .int s_kept, .ref m28, .int s_tops, .ref m29, .int s_used, .ref m30, .ref m31, .int s_looked, .int s_rows, .int s_firstRow, .ref m32, .ref m33, .ref m34, .ref m35, .ref m36, .ref m37, .ref m38, .ref m39, .ref m40, .int s_isBroken, .ref m41, .int s_atoms, .ref m42])), (m41, .inl (ax 4, 6, .inr (.inl vs)))]) hP hD [2, 3] [0, 1] hCs (by decide) (by decide) hk1 hFc hP1 hD1 rfl
            clear hP1 hD1
            clear hPc hDc hFc hCs hz hz1 hk1 ht hvm
            clear hP hD hS
            have hS := hS1
            obtain ⟨hP, hD⟩ := hjn
            clear hS1
            obtain ⟨hPc, hDc, hFc, hCs⟩ := xw_sub3 (wc := []) hP hD hS hA [] (by decide) rfl
            have hz := xz_of hN hS
            refine va_calli (va_runS (As := [.long (vs y1 + (f (o1 + 6 * i1 + 2)).toInt64), .int (f (o1 + 6 * i1 + 3)), .long (vs y4 + (f (o1 + 6 * i1 + 5)).toInt64)]) (rest := [.int (nI n1), .ref m42]) ⟨hx, hb, hml, hown, hts⟩ (c_M_compare l D ax (vs y1 + (f (o1 + 6 * i1 + 2)).toInt64) (vs y4 + (f (o1 + 6 * i1 + 5)).toInt64) (f (o1 + 6 * i1 + 3)) H_70.size) (xcS (n := 3) hts wd_1599 wd_15 wd_1597 wd_1598 rfl rfl (by decide +kernel) ⟨Nat.le_of_ble_eq_true rfl, Nat.le_of_ble_eq_true rfl⟩) (xpS (As := [.long (vs y1 + (f (o1 + 6 * i1 + 2)).toInt64), .int (f (o1 + 6 * i1 + 3)), .long (vs y4 + (f (o1 + 6 * i1 + 5)).toInt64)]) hPc hK hz hDc) rfl rfl hl1.1 rfl (lv_room (Nat.le_of_ble_eq_true rfl)) d_Model_isTrue_72 ⟨Nat.le_of_ble_eq_true rfl, Nat.le_of_ble_eq_true rfl⟩) hS (fun q _ h => hFc q h) hFc (fun r_74 u_72 t H_73 locs ht hvm hw hB hz1 hk1 hS1 => ?_)
            try dsimp only at hw
            obtain ⟨hw, hs_75⟩ := hw
            subst hw
            obtain ⟨hP1, hD1⟩ := hB
            rw [ht] at hP1
            have hjn := xw_join3 (wl := [(m42, .inl (ax 3, 256, .inl (fun j => nI (tr1 j)))), (h0, .inl (ax 0, N1, .inl f)), (m0, .inr (11, [.int s_thrown, .int s_taped, .ref m1, .int s_size, .int s_outSize, .ref m2, .int s_kind, .int s_value, .int s_begin, .int s_end, .int s_failed, .ref m3, .ref m4, .ref m5, .int s_isProgram, .int s_half, .ref m6, .ref m7, .ref m8, .ref m9, .ref m10, .ref m11, .ref m12, .ref m13, .ref m14, .ref m15, .ref m16, .ref m17, .ref m18, .ref m19, .ref m20, .int s_signs, .ref m21, .int s_stacked, .ref m22, .int s_name, .int s_shift, .int s_statements, .int s_ifs, .int s_whiles, .int s_variants, .int s_open, .ref m23, .int s_isMade, .int s_conditions, .ref m24, .ref m25, .ref m26, .ref m27, .int s_kept, .ref m28, .int s_tops, .ref m29, .int s_used, .ref m30, .ref m31, .int s_looked, .int s_rows, .int s_firstRow, .ref m32, .ref m33, .ref m34, .ref m35, .ref m36, .ref m37, .ref m38, .ref m39, .ref m40, .int s_isBroken, .ref m41, .int s_atoms, .ref m42])), (m41, .inl (ax 4, 6, .inr (.inl vs)))]) hP hD [] [0, 1, 2, 3] hCs (by decide) (by decide) hk1 hFc hP1 hD1 rfl
            clear hP1 hD1
            clear hPc hDc hFc hCs hz hz1 hk1 ht hvm
            clear hP hD hS
            have hS := hS1
            obtain ⟨hP, hD⟩ := hjn
            clear hS1
            refine va_zast hx hb hK.1 hP hD hS 0 3 rfl rfl (vp_in_nI (by first | assumption | omega) (by decide)) d_Model_isTrue_75 (fun H_76 locs hP1 hD1 hS1 => ?_)
            rw [nI_clamp (by first | exact Nat.lt_of_lt_of_le (by assumption) (by decide) | exact Nat.lt_of_le_of_lt (by assumption) (by decide) | omega)] at hP1 hD1
            rw [xf_supz tr1 n1 (u_72 0) (nI (u_72 0)) (vpn (by first | assumption | omega))] at hP1 hD1
            clear hP hD hS
            have hS := hS1
            have hW7 : (fun w9 : va_W => va_P D classes w9 H_76 ∧ va_D A w9) [(m42, .inl (ax 3, 256, .inl (fun j => nI (sup tr1 n1 (u_72 0) j)))), (h0, .inl (ax 0, N1, .inl f)), (m0, .inr (11, [.int s_thrown, .int s_taped, .ref m1, .int s_size, .int s_outSize, .ref m2, .int s_kind, .int s_value, .int s_begin, .int s_end, .int s_failed, .ref m3, .ref m4, .ref m5, .int s_isProgram, .int s_half, .ref m6, .ref m7, .ref m8, .ref m9, .ref m10, .ref m11, .ref m12, .ref m13, .ref m14, .ref m15, .ref m16, .ref m17, .ref m18, .ref m19, .ref m20, .int s_signs, .ref m21, .int s_stacked, .ref m22, .int s_name, .int s_shift, .int s_statements, .int s_ifs, .int s_whiles, .int s_variants, .int s_open, .ref m23, .int s_isMade, .int s_conditions, .ref m24, .ref m25, .ref m26, .ref m27, .int s_kept, .ref m28, .int s_tops, .ref m29, .int s_used, .ref m30, .ref m31, .int s_looked, .int s_rows, .int s_firstRow, .ref m32, .ref m33, .ref m34, .ref m35, .ref m36, .ref m37, .ref m38, .ref m39, .ref m40, .int s_isBroken, .ref m41, .int s_atoms, .ref m42])), (m41, .inl (ax 4, 6, .inr (.inl vs)))] := ⟨hP1, hD1⟩
            obtain ⟨hP, hD⟩ := hW7
            clear hP1 hD1 hS1
            refine lv_iinc (v := nI (n1 + 1)) (lv' := [(4, .int (nI (n1 + 1))), (6, .int (nI (o1 + 6 * i1))), (0, .ref m0), (1, .ref h0), (2, .int (nI o1)), (3, .int (nI q)), (5, .int (nI i1))]) hx hb d_Model_isTrue_76 hl1 (k := 5) rfl (nI_add n1 1) (by decide) rfl (fun ls hl2 => ?_)
            clear hl1; have hl1 := hl2; clear hl2
            refine lv_goto (tgt := 200) hx hb d_Model_isTrue_79 (by decide) ?_
            refine lv_iinc (v := nI (i1 + 1)) (lv' := [(5, .int (nI (i1 + 1))), (4, .int (nI (n1 + 1))), (6, .int (nI (o1 + 6 * i1))), (0, .ref m0), (1, .ref h0), (2, .int (nI o1)), (3, .int (nI q))]) hx hb d_Model_isTrue_200 hl1 (k := 6) rfl (nI_add i1 1) (by decide) rfl (fun ls hl2 => ?_)
            clear hl1; have hl1 := hl2; clear hl2
            refine lv_goto (tgt := 6) hx hb d_Model_isTrue_203 (by decide) ?_
            exact ih_3 (i1 + 1) (n1 + 1) (sup tr1 n1 (u_72 0)) (by first | assumption | omega) (by first | assumption | omega) (by first | assumption | omega) (sup1 htr1 (by first | assumption | omega)) _ _ _ (hP.sub [2, 3, 0, 1] rfl) (hD.sub [2, 3, 0, 1] (by decide) rfl) hS (lv_sub hl1 [3, 4, 5, 6, 1, 0] rfl)
abbrev b_Model_holds : ByteArray := prog_13_method_92_code
def y_Model_holds : MethodName := ⟨R_Model, "holds", "(I)Z"⟩
theorem d_Model_holds_0 : decode b_Model_holds 0 = .ok (.aload_n 0, 1) := by decide +kernel
theorem d_Model_holds_1 : decode b_Model_holds 1 = .ok (.iload_n 1, 1) := by decide +kernel
theorem d_Model_holds_2 : decode b_Model_holds 2 = .ok (.ifCond .lt 8, 3) := by decide +kernel
theorem d_Model_holds_5 : decode b_Model_holds 5 = .ok (.iload_n 1, 1) := by decide +kernel
theorem d_Model_holds_6 : decode b_Model_holds 6 = .ok (.iconst 1, 1) := by decide +kernel
theorem d_Model_holds_7 : decode b_Model_holds 7 = .ok (.if_icmp .le 7, 3) := by decide +kernel
theorem d_Model_holds_10 : decode b_Model_holds 10 = .ok (.iconst 1, 1) := by decide +kernel
theorem d_Model_holds_11 : decode b_Model_holds 11 = .ok (.goto 4, 3) := by decide +kernel
theorem d_Model_holds_14 : decode b_Model_holds 14 = .ok (.iconst 0, 1) := by decide +kernel
theorem d_Model_holds_15 : decode b_Model_holds 15 = .ok (.putfield 148, 3) := by decide +kernel
theorem d_Model_holds_18 : decode b_Model_holds 18 = .ok (.aload_n 0, 1) := by decide +kernel
theorem d_Model_holds_19 : decode b_Model_holds 19 = .ok (.getfield 148, 3) := by decide +kernel
theorem d_Model_holds_22 : decode b_Model_holds 22 = .ok (.ifCond .ne 39, 3) := by decide +kernel
theorem d_Model_holds_25 : decode b_Model_holds 25 = .ok (.aload_n 0, 1) := by decide +kernel
theorem d_Model_holds_26 : decode b_Model_holds 26 = .ok (.aload_n 0, 1) := by decide +kernel
theorem d_Model_holds_27 : decode b_Model_holds 27 = .ok (.getfield 17, 3) := by decide +kernel
theorem d_Model_holds_30 : decode b_Model_holds 30 = .ok (.sipush 768, 3) := by decide +kernel
theorem d_Model_holds_33 : decode b_Model_holds 33 = .ok (.aload_n 0, 1) := by decide +kernel
theorem d_Model_holds_34 : decode b_Model_holds 34 = .ok (.getfield 23, 3) := by decide +kernel
theorem d_Model_holds_37 : decode b_Model_holds 37 = .ok (.iload_n 1, 1) := by decide +kernel
theorem d_Model_holds_38 : decode b_Model_holds 38 = .ok (.iaload, 1) := by decide +kernel
theorem d_Model_holds_39 : decode b_Model_holds 39 = .ok (.imul, 1) := by decide +kernel
theorem d_Model_holds_40 : decode b_Model_holds 40 = .ok (.aload_n 0, 1) := by decide +kernel
theorem d_Model_holds_41 : decode b_Model_holds 41 = .ok (.getfield 20, 3) := by decide +kernel
theorem d_Model_holds_44 : decode b_Model_holds 44 = .ok (.aload_n 0, 1) := by decide +kernel
theorem d_Model_holds_45 : decode b_Model_holds 45 = .ok (.getfield 23, 3) := by decide +kernel
theorem d_Model_holds_48 : decode b_Model_holds 48 = .ok (.iload_n 1, 1) := by decide +kernel
theorem d_Model_holds_49 : decode b_Model_holds 49 = .ok (.iaload, 1) := by decide +kernel
theorem d_Model_holds_50 : decode b_Model_holds 50 = .ok (.iaload, 1) := by decide +kernel
theorem d_Model_holds_51 : decode b_Model_holds 51 = .ok (.invokevirtual 475, 3) := by decide +kernel
theorem d_Model_holds_54 : decode b_Model_holds 54 = .ok (.ifCond .eq 7, 3) := by decide +kernel
theorem d_Model_holds_57 : decode b_Model_holds 57 = .ok (.iconst 1, 1) := by decide +kernel
theorem d_Model_holds_58 : decode b_Model_holds 58 = .ok (.goto 4, 3) := by decide +kernel
theorem d_Model_holds_61 : decode b_Model_holds 61 = .ok (.iconst 0, 1) := by decide +kernel
theorem d_Model_holds_62 : decode b_Model_holds 62 = .ok (.ireturn, 1) := by decide +kernel
set_option maxHeartbeats 40000000 in
set_option maxRecDepth 100000 in
theorem c_M_holds_no (l : Launch) (D : va_G) (ax : Nat → ClassId) (m0 m1 m2 m3 m4 m5 m6 m7 m8 m9 m10 m11 m12 m13 m14 m15 m16 m17 m18 m19 m20 m21 m22 m23 m24 m25 m26 m27 m28 m29 m30 m31 m32 m33 m34 m35 m36 m37 m38 m39 m40 m41 m42 : Nat) (s_thrown s_taped s_size s_outSize s_kind s_value s_begin s_end s_failed s_isProgram s_half s_signs s_stacked s_name s_shift s_statements s_ifs s_whiles s_variants s_open s_isMade s_conditions s_kept s_tops s_used s_looked s_rows s_firstRow s_isBroken s_atoms : Int32) (x1 : Int32) (sz : Nat) (hno : ∀ j : Nat, j ≤ 1 → x1 ≠ nI j) : Met l y_Model_holds (xws (.code y_Model_holds b_Model_holds 2 (some .boolean))) ({ frames := 10, cells := 0, slots := 0, locals := 400 }) (va_Pc [.ref m0, .int x1] (xo D ax [(m0, .inr (11, [.int s_thrown, .int s_taped, .ref m1, .int s_size, .int s_outSize, .ref m2, .int s_kind, .int s_value, .int s_begin, .int s_end, .int s_failed, .ref m3, .ref m4, .ref m5, .int s_isProgram, .int s_half, .ref m6, .ref m7, .ref m8, .ref m9, .ref m10, .ref m11, .ref m12, .ref m13, .ref m14, .ref m15, .ref m16, .ref m17, .ref m18, .ref m19, .ref m20, .int s_signs, .ref m21, .int s_stacked, .ref m22, .int s_name, .int s_shift, .int s_statements, .int s_ifs, .int s_whiles, .int s_variants, .int s_open, .ref m23, .int s_isMade, .int s_conditions, .ref m24, .ref m25, .ref m26, .ref m27, .int s_kept, .ref m28, .int s_tops, .ref m29, .int s_used, .ref m30, .ref m31, .int s_looked, .int s_rows, .int s_firstRow, .ref m32, .ref m33, .ref m34, .ref m35, .ref m36, .ref m37, .ref m38, .ref m39, .ref m40, .int s_isBroken, .ref m41, .int s_atoms, .ref m42]))] sz)) ((va_Qi (fun (r : Int32) (u : Nat → Nat) => r = 0) (xb D (va_A [(m0, .inr (11, [.int s_thrown, .int s_taped, .ref m1, .int s_size, .int s_outSize, .ref m2, .int s_kind, .int s_value, .int s_begin, .int s_end, .int s_failed, .ref m3, .ref m4, .ref m5, .int s_isProgram, .int s_half, .ref m6, .ref m7, .ref m8, .ref m9, .ref m10, .ref m11, .ref m12, .ref m13, .ref m14, .ref m15, .ref m16, .ref m17, .ref m18, .ref m19, .ref m20, .int s_signs, .ref m21, .int s_stacked, .ref m22, .int s_name, .int s_shift, .int s_statements, .int s_ifs, .int s_whiles, .int s_variants, .int s_open, .ref m23, .int s_isMade, .int s_conditions, .ref m24, .ref m25, .ref m26, .ref m27, .int s_kept, .ref m28, .int s_tops, .ref m29, .int s_used, .ref m30, .ref m31, .int s_looked, .int s_rows, .int s_firstRow, .ref m32, .ref m33, .ref m34, .ref m35, .ref m36, .ref m37, .ref m38, .ref m39, .ref m40, .int s_isBroken, .ref m41, .int s_atoms, .ref m42]))] sz) (fun u => [(m0, .inr (11, [.int 1, .int s_taped, .ref m1, .int s_size, .int s_outSize, .ref m2, .int s_kind, .int s_value, .int s_begin, .int s_end, .int s_failed, .ref m3, .ref m4, .ref m5, .int s_isProgram, .int s_half, .ref m6, .ref m7, .ref m8, .ref m9, .ref m10, .ref m11, .ref m12, .ref m13, .ref m14, .ref m15, .ref m16, .ref m17, .ref m18, .ref m19, .ref m20, .int s_signs, .ref m21, .int s_stacked, .ref m22, .int s_name, .int s_shift, .int s_statements, .int s_ifs, .int s_whiles, .int s_variants, .int s_open, .ref m23, .int s_isMade, .int s_conditions, .ref m24, .ref m25, .ref m26, .ref m27, .int s_kept, .ref m28, .int s_tops, .ref m29, .int s_used, .ref m30, .ref m31, .int s_looked, .int s_rows, .int s_firstRow, .ref m32, .ref m33, .ref m34, .ref m35, .ref m36, .ref m37, .ref m38, .ref m39, .ref m40, .int s_isBroken, .ref m41, .int s_atoms, .ref m42]))])) (va_A [(m0, .inr (11, [.int s_thrown, .int s_taped, .ref m1, .int s_size, .int s_outSize, .ref m2, .int s_kind, .int s_value, .int s_begin, .int s_end, .int s_failed, .ref m3, .ref m4, .ref m5, .int s_isProgram, .int s_half, .ref m6, .ref m7, .ref m8, .ref m9, .ref m10, .ref m11, .ref m12, .ref m13, .ref m14, .ref m15, .ref m16, .ref m17, .ref m18, .ref m19, .ref m20, .int s_signs, .ref m21, .int s_stacked, .ref m22, .int s_name, .int s_shift, .int s_statements, .int s_ifs, .int s_whiles, .int s_variants, .int s_open, .ref m23, .int s_isMade, .int s_conditions, .ref m24, .ref m25, .ref m26, .ref m27, .int s_kept, .ref m28, .int s_tops, .ref m29, .int s_used, .ref m30, .ref m31, .int s_looked, .int s_rows, .int s_firstRow, .ref m32, .ref m33, .ref m34, .ref m35, .ref m36, .ref m37, .ref m38, .ref m39, .ref m40, .int s_isBroken, .ref m41, .int s_atoms, .ref m42]))] sz))) 0 0 (va_A [(m0, .inr (11, [.int s_thrown, .int s_taped, .ref m1, .int s_size, .int s_outSize, .ref m2, .int s_kind, .int s_value, .int s_begin, .int s_end, .int s_failed, .ref m3, .ref m4, .ref m5, .int s_isProgram, .int s_half, .ref m6, .ref m7, .ref m8, .ref m9, .ref m10, .ref m11, .ref m12, .ref m13, .ref m14, .ref m15, .ref m16, .ref m17, .ref m18, .ref m19, .ref m20, .int s_signs, .ref m21, .int s_stacked, .ref m22, .int s_name, .int s_shift, .int s_statements, .int s_ifs, .int s_whiles, .int s_variants, .int s_open, .ref m23, .int s_isMade, .int s_conditions, .ref m24, .ref m25, .ref m26, .ref m27, .int s_kept, .ref m28, .int s_tops, .ref m29, .int s_used, .ref m30, .ref m31, .int s_looked, .int s_rows, .int s_firstRow, .ref m32, .ref m33, .ref m34, .ref m35, .ref m36, .ref m37, .ref m38, .ref m39, .ref m40, .int s_isBroken, .ref m41, .int s_atoms, .ref m42]))] sz) := by
  refine Met.ofW (cc := b_Model_holds) (maxL := 2) (ret := (some .boolean)) (by decide) rfl ?_
  intro p e s m args below meth c s₁ B hml hv
  obtain ⟨rfl, hsz, hP, hK, hD0⟩ := hv
  have hx := B.exec
  have hb := B.bytes
  have hr := B.returns
  have hts := xw_hts B.pre
  have hown : s.vm.findClass R_Model = some m.cls := findClass_of_methodNamed B.named
  have hlocks := B.notSynchronized
  subst hsz
  have hD := hD0.self (sz := s.heap.size)
  have hN := xz_entry hP
  generalize hAe : va_A [(m0, .inr (11, [.int s_thrown, .int s_taped, .ref m1, .int s_size, .int s_outSize, .ref m2, .int s_kind, .int s_value, .int s_begin, .int s_end, .int s_failed, .ref m3, .ref m4, .ref m5, .int s_isProgram, .int s_half, .ref m6, .ref m7, .ref m8, .ref m9, .ref m10, .ref m11, .ref m12, .ref m13, .ref m14, .ref m15, .ref m16, .ref m17, .ref m18, .ref m19, .ref m20, .int s_signs, .ref m21, .int s_stacked, .ref m22, .int s_name, .int s_shift, .int s_statements, .int s_ifs, .int s_whiles, .int s_variants, .int s_open, .ref m23, .int s_isMade, .int s_conditions, .ref m24, .ref m25, .ref m26, .ref m27, .int s_kept, .ref m28, .int s_tops, .ref m29, .int s_used, .ref m30, .ref m31, .int s_looked, .int s_rows, .int s_firstRow, .ref m32, .ref m33, .ref m34, .ref m35, .ref m36, .ref m37, .ref m38, .ref m39, .ref m40, .int s_isBroken, .ref m41, .int s_atoms, .ref m42]))] s.heap.size = A at hD hN ⊢
  have hA : ∀ q : Nat, s.heap.size ≤ q → A q := fun q h => by rw [← hAe]; exact Or.inr h
  have hS : va_S A s.heap s.heap [] := va_S.rf
  have hl0 := lv_entry ([.ref m0, .int x1]) (n := 2) (Nat.le_of_ble_eq_true rfl)
  rw [lg_entry_eq]
  generalize (lg_sl ([.ref m0, .int x1]) ++ List.replicate (2 - (lg_sl ([.ref m0, .int x1])).length) Slot.unset).toArray = ls at hl0 ⊢
  have hl1 : lv_has ls 2 [(0, .ref m0), (1, .int x1)] := hl0
  refine xw_gen (fun Z9 hQe => ?_)
  refine lv_aload_n hx hb d_Model_holds_0 rfl (lv_at hl1 0 rfl) ?_
  refine lv_iload_n hx hb d_Model_holds_1 rfl (lv_at hl1 1 rfl) ?_
  refine lv_if_lt (tgt := 10) hx hb d_Model_holds_2 (by decide) (fun c_1 => ?_) (fun c_1 => ?_)
  · refine lv_iconst (v := 1) hx hb d_Model_holds_10 (by decide) ?_
    refine lv_goto (tgt := 15) hx hb d_Model_holds_11 (by decide) ?_
    refine va_put (D := D) (ci := 11) (v := .int 1) (ty := .int) (C := R_Model) (T := F_Model) (N := 72) hx hb hts i_Model t_Model t_Model_ok n_Model hown hK.1 hP hD hS 0 rfl rfl 0 (by decide) (hts _ wd_1036) (fun _ h9 => h9) rfl (by decide +kernel) rfl rfl (Nat.le_of_ble_eq_true rfl) d_Model_holds_15 (fun H_2 locs hP1 hD1 hS1 => ?_)
    clear hP hD hS
    have hS := hS1
    have hW7 : (fun w9 : va_W => va_P D classes w9 H_2 ∧ va_D A w9) [(m0, .inr (11, [.int 1, .int s_taped, .ref m1, .int s_size, .int s_outSize, .ref m2, .int s_kind, .int s_value, .int s_begin, .int s_end, .int s_failed, .ref m3, .ref m4, .ref m5, .int s_isProgram, .int s_half, .ref m6, .ref m7, .ref m8, .ref m9, .ref m10, .ref m11, .ref m12, .ref m13, .ref m14, .ref m15, .ref m16, .ref m17, .ref m18, .ref m19, .ref m20, .int s_signs, .ref m21, .int s_stacked, .ref m22, .int s_name, .int s_shift, .int s_statements, .int s_ifs, .int s_whiles, .int s_variants, .int s_open, .ref m23, .int s_isMade, .int s_conditions, .ref m24, .ref m25, .ref m26, .ref m27, .int s_kept, .ref m28, .int s_tops, .ref m29, .int s_used, .ref m30, .ref m31, .int s_looked, .int s_rows, .int s_firstRow, .ref m32, .ref m33, .ref m34, .ref m35, .ref m36, .ref m37, .ref m38, .ref m39, .ref m40, .int s_isBroken, .ref m41, .int s_atoms, .ref m42]))] := ⟨hP1, hD1⟩
    obtain ⟨hP, hD⟩ := hW7
    clear hP1 hD1 hS1
    refine lv_aload_n hx hb d_Model_holds_18 rfl (lv_at hl1 0 rfl) ?_
    refine va_get (D := D) (ci := 11) (v := .int 1) (C := R_Model) (T := F_Model) (N := 72) hx hb hts i_Model hown hK.1 hP 0 rfl rfl 0 (by decide) (hts _ wd_1036) (fun _ h9 => h9) rfl d_Model_holds_19 ?_
    refine lv_if_ne (tgt := 61) hx hb d_Model_holds_22 (by decide) (fun c_3 => ?_) (fun c_3 => ?_)
    rotate_left
    · first | exact absurd c_3 (by decide) | exact absurd (by decide) c_3
    refine lv_iconst (v := 0) hx hb d_Model_holds_61 (by decide) ?_
    rw [← hQe]
    obtain ⟨hP9, hD9⟩ := xw_sub2 (wc := (fun u : Nat → Nat => [(m0, .inr (11, [.int 1, .int s_taped, .ref m1, .int s_size, .int s_outSize, .ref m2, .int s_kind, .int s_value, .int s_begin, .int s_end, .int s_failed, .ref m3, .ref m4, .ref m5, .int s_isProgram, .int s_half, .ref m6, .ref m7, .ref m8, .ref m9, .ref m10, .ref m11, .ref m12, .ref m13, .ref m14, .ref m15, .ref m16, .ref m17, .ref m18, .ref m19, .ref m20, .int s_signs, .ref m21, .int s_stacked, .ref m22, .int s_name, .int s_shift, .int s_statements, .int s_ifs, .int s_whiles, .int s_variants, .int s_open, .ref m23, .int s_isMade, .int s_conditions, .ref m24, .ref m25, .ref m26, .ref m27, .int s_kept, .ref m28, .int s_tops, .ref m29, .int s_used, .ref m30, .ref m31, .int s_looked, .int s_rows, .int s_firstRow, .ref m32, .ref m33, .ref m34, .ref m35, .ref m36, .ref m37, .ref m38, .ref m39, .ref m40, .int s_isBroken, .ref m41, .int s_atoms, .ref m42]))]) (ixn [])) hP hD [0] (by decide) rfl
    exact W.zret (v := 0) hx hb hr rfl (fun t ht hW => ⟨⟨0, ixn [], rfl, rfl, ⟨by rw [ht]; exact hP9, hD9⟩⟩, hS.F ht⟩) hS.2.2 d_Model_holds_62
  · refine lv_iload_n hx hb d_Model_holds_5 rfl (lv_at hl1 1 rfl) ?_
    refine lv_iconst (v := 1) hx hb d_Model_holds_6 (by decide) ?_
    refine lv_icmp_le (tgt := 14) hx hb d_Model_holds_7 (by decide) (fun c_4 => ?_) (fun c_4 => ?_)
    · obtain ⟨j, a1, a2, e9⟩ := rng (a := 0) (b := 1) rfl rfl (by assumption) (by first | assumption | exact nle (by assumption))
      exact absurd e9 (hno j a2)
    · refine lv_iconst (v := 1) hx hb d_Model_holds_10 (by decide) ?_
      refine lv_goto (tgt := 15) hx hb d_Model_holds_11 (by decide) ?_
      refine va_put (D := D) (ci := 11) (v := .int 1) (ty := .int) (C := R_Model) (T := F_Model) (N := 72) hx hb hts i_Model t_Model t_Model_ok n_Model hown hK.1 hP hD hS 0 rfl rfl 0 (by decide) (hts _ wd_1036) (fun _ h9 => h9) rfl (by decide +kernel) rfl rfl (Nat.le_of_ble_eq_true rfl) d_Model_holds_15 (fun H_5 locs hP1 hD1 hS1 => ?_)
      clear hP hD hS
      have hS := hS1
      have hW7 : (fun w9 : va_W => va_P D classes w9 H_5 ∧ va_D A w9) [(m0, .inr (11, [.int 1, .int s_taped, .ref m1, .int s_size, .int s_outSize, .ref m2, .int s_kind, .int s_value, .int s_begin, .int s_end, .int s_failed, .ref m3, .ref m4, .ref m5, .int s_isProgram, .int s_half, .ref m6, .ref m7, .ref m8, .ref m9, .ref m10, .ref m11, .ref m12, .ref m13, .ref m14, .ref m15, .ref m16, .ref m17, .ref m18, .ref m19, .ref m20, .int s_signs, .ref m21, .int s_stacked, .ref m22, .int s_name, .int s_shift, .int s_statements, .int s_ifs, .int s_whiles, .int s_variants, .int s_open, .ref m23, .int s_isMade, .int s_conditions, .ref m24, .ref m25, .ref m26, .ref m27, .int s_kept, .ref m28, .int s_tops, .ref m29, .int s_used, .ref m30, .ref m31, .int s_looked, .int s_rows, .int s_firstRow, .ref m32, .ref m33, .ref m34, .ref m35, .ref m36, .ref m37, .ref m38, .ref m39, .ref m40, .int s_isBroken, .ref m41, .int s_atoms, .ref m42]))] := ⟨hP1, hD1⟩
      obtain ⟨hP, hD⟩ := hW7
      clear hP1 hD1 hS1
      refine lv_aload_n hx hb d_Model_holds_18 rfl (lv_at hl1 0 rfl) ?_
      refine va_get (D := D) (ci := 11) (v := .int 1) (C := R_Model) (T := F_Model) (N := 72) hx hb hts i_Model hown hK.1 hP 0 rfl rfl 0 (by decide) (hts _ wd_1036) (fun _ h9 => h9) rfl d_Model_holds_19 ?_
      refine lv_if_ne (tgt := 61) hx hb d_Model_holds_22 (by decide) (fun c_6 => ?_) (fun c_6 => ?_)
      rotate_left
      · first | exact absurd c_6 (by decide) | exact absurd (by decide) c_6
      refine lv_iconst (v := 0) hx hb d_Model_holds_61 (by decide) ?_
      rw [← hQe]
      obtain ⟨hP9, hD9⟩ := xw_sub2 (wc := (fun u : Nat → Nat => [(m0, .inr (11, [.int 1, .int s_taped, .ref m1, .int s_size, .int s_outSize, .ref m2, .int s_kind, .int s_value, .int s_begin, .int s_end, .int s_failed, .ref m3, .ref m4, .ref m5, .int s_isProgram, .int s_half, .ref m6, .ref m7, .ref m8, .ref m9, .ref m10, .ref m11, .ref m12, .ref m13, .ref m14, .ref m15, .ref m16, .ref m17, .ref m18, .ref m19, .ref m20, .int s_signs, .ref m21, .int s_stacked, .ref m22, .int s_name, .int s_shift, .int s_statements, .int s_ifs, .int s_whiles, .int s_variants, .int s_open, .ref m23, .int s_isMade, .int s_conditions, .ref m24, .ref m25, .ref m26, .ref m27, .int s_kept, .ref m28, .int s_tops, .ref m29, .int s_used, .ref m30, .ref m31, .int s_looked, .int s_rows, .int s_firstRow, .ref m32, .ref m33, .ref m34, .ref m35, .ref m36, .ref m37, .ref m38, .ref m39, .ref m40, .int s_isBroken, .ref m41, .int s_atoms, .ref m42]))]) (ixn [])) hP hD [0] (by decide) rfl
      exact W.zret (v := 0) hx hb hr rfl (fun t ht hW => ⟨⟨0, ixn [], rfl, rfl, ⟨by rw [ht]; exact hP9, hD9⟩⟩, hS.F ht⟩) hS.2.2 d_Model_holds_62
set_option maxHeartbeats 40000000 in
set_option maxRecDepth 100000 in
theorem c_M_holds_ok (l : Launch) (D : va_G) (ax : Nat → ClassId) (m0 m1 m2 m3 m4 m5 m6 m7 m8 m9 m10 m11 m12 m13 m14 m15 m16 m17 m18 m19 m20 m21 m22 m23 m24 m25 m26 m27 m28 m29 m30 m31 m32 m33 m34 m35 m36 m37 m38 m39 m40 m41 m42 : Nat) (s_thrown s_taped s_size s_outSize s_kind s_value s_begin s_end s_failed s_isProgram s_half s_signs s_stacked s_name s_shift s_statements s_ifs s_whiles s_variants s_open s_isMade s_conditions s_kept s_tops s_used s_looked s_rows s_firstRow s_isBroken s_atoms : Int32) (wh : Nat) (tr nw tz : Nat → Nat) (tx : Nat → Int32) (vs : Nat → Int64) (sz : Nat) (hwh : wh ≤ 1) (htx : txo tx tz nw wh) (htr : ∀ j, tr j ≤ 1) : Met l y_Model_holds (xws (.code y_Model_holds b_Model_holds 2 (some .boolean))) ({ frames := 40, cells := 0, slots := 0, locals := 1600 }) (va_Pc [.ref m0, .int (nI wh)] (xo D ax [(m0, .inr (11, [.int s_thrown, .int s_taped, .ref m1, .int s_size, .int s_outSize, .ref m2, .int s_kind, .int s_value, .int s_begin, .int s_end, .int s_failed, .ref m3, .ref m4, .ref m5, .int s_isProgram, .int s_half, .ref m6, .ref m7, .ref m8, .ref m9, .ref m10, .ref m11, .ref m12, .ref m13, .ref m14, .ref m15, .ref m16, .ref m17, .ref m18, .ref m19, .ref m20, .int s_signs, .ref m21, .int s_stacked, .ref m22, .int s_name, .int s_shift, .int s_statements, .int s_ifs, .int s_whiles, .int s_variants, .int s_open, .ref m23, .int s_isMade, .int s_conditions, .ref m24, .ref m25, .ref m26, .ref m27, .int s_kept, .ref m28, .int s_tops, .ref m29, .int s_used, .ref m30, .ref m31, .int s_looked, .int s_rows, .int s_firstRow, .ref m32, .ref m33, .ref m34, .ref m35, .ref m36, .ref m37, .ref m38, .ref m39, .ref m40, .int s_isBroken, .ref m41, .int s_atoms, .ref m42])), (m41, .inl (ax 4, 6, .inr (.inl vs))), (m42, .inl (ax 3, 256, .inl (fun j => nI (tr j)))), (m5, .inl (ax 0, 2, .inl (fun j => nI (nw j)))), (m4, .inl (ax 0, 4, .inl (fun j => nI (tz j)))), (m3, .inl (ax 0, 3072, .inl tx))] sz)) ((va_Qi (fun (r : Int32) (u : Nat → Nat) => r = nI (u 0) ∧ (u 0 ≤ 1)) (fun (u : Nat → Nat) (t9 : State) => ∃ xtr : Nat → Nat, (∀ j, xtr j ≤ 1) ∧ va_P D classes [(m0, .inr (11, [.int 0, .int s_taped, .ref m1, .int s_size, .int s_outSize, .ref m2, .int s_kind, .int s_value, .int s_begin, .int s_end, .int s_failed, .ref m3, .ref m4, .ref m5, .int s_isProgram, .int s_half, .ref m6, .ref m7, .ref m8, .ref m9, .ref m10, .ref m11, .ref m12, .ref m13, .ref m14, .ref m15, .ref m16, .ref m17, .ref m18, .ref m19, .ref m20, .int s_signs, .ref m21, .int s_stacked, .ref m22, .int s_name, .int s_shift, .int s_statements, .int s_ifs, .int s_whiles, .int s_variants, .int s_open, .ref m23, .int s_isMade, .int s_conditions, .ref m24, .ref m25, .ref m26, .ref m27, .int s_kept, .ref m28, .int s_tops, .ref m29, .int s_used, .ref m30, .ref m31, .int s_looked, .int s_rows, .int s_firstRow, .ref m32, .ref m33, .ref m34, .ref m35, .ref m36, .ref m37, .ref m38, .ref m39, .ref m40, .int s_isBroken, .ref m41, .int s_atoms, .ref m42])), (m41, .inl (ax 4, 6, .inr (.inl vs))), (m42, .inl (ax 3, 256, .inl (fun j => nI (xtr j)))), (m5, .inl (ax 0, 2, .inl (fun j => nI (nw j)))), (m4, .inl (ax 0, 4, .inl (fun j => nI (tz j)))), (m3, .inl (ax 0, 3072, .inl tx))] t9.heap ∧ va_D (va_A [(m0, .inr (11, [.int s_thrown, .int s_taped, .ref m1, .int s_size, .int s_outSize, .ref m2, .int s_kind, .int s_value, .int s_begin, .int s_end, .int s_failed, .ref m3, .ref m4, .ref m5, .int s_isProgram, .int s_half, .ref m6, .ref m7, .ref m8, .ref m9, .ref m10, .ref m11, .ref m12, .ref m13, .ref m14, .ref m15, .ref m16, .ref m17, .ref m18, .ref m19, .ref m20, .int s_signs, .ref m21, .int s_stacked, .ref m22, .int s_name, .int s_shift, .int s_statements, .int s_ifs, .int s_whiles, .int s_variants, .int s_open, .ref m23, .int s_isMade, .int s_conditions, .ref m24, .ref m25, .ref m26, .ref m27, .int s_kept, .ref m28, .int s_tops, .ref m29, .int s_used, .ref m30, .ref m31, .int s_looked, .int s_rows, .int s_firstRow, .ref m32, .ref m33, .ref m34, .ref m35, .ref m36, .ref m37, .ref m38, .ref m39, .ref m40, .int s_isBroken, .ref m41, .int s_atoms, .ref m42])), (m41, .inl (ax 4, 6, .inr (.inl vs))), (m42, .inl (ax 3, 256, .inl (fun j => nI (tr j)))), (m5, .inl (ax 0, 2, .inl (fun j => nI (nw j)))), (m4, .inl (ax 0, 4, .inl (fun j => nI (tz j)))), (m3, .inl (ax 0, 3072, .inl tx))] sz) [(m0, .inr (11, [.int 0, .int s_taped, .ref m1, .int s_size, .int s_outSize, .ref m2, .int s_kind, .int s_value, .int s_begin, .int s_end, .int s_failed, .ref m3, .ref m4, .ref m5, .int s_isProgram, .int s_half, .ref m6, .ref m7, .ref m8, .ref m9, .ref m10, .ref m11, .ref m12, .ref m13, .ref m14, .ref m15, .ref m16, .ref m17, .ref m18, .ref m19, .ref m20, .int s_signs, .ref m21, .int s_stacked, .ref m22, .int s_name, .int s_shift, .int s_statements, .int s_ifs, .int s_whiles, .int s_variants, .int s_open, .ref m23, .int s_isMade, .int s_conditions, .ref m24, .ref m25, .ref m26, .ref m27, .int s_kept, .ref m28, .int s_tops, .ref m29, .int s_used, .ref m30, .ref m31, .int s_looked, .int s_rows, .int s_firstRow, .ref m32, .ref m33, .ref m34, .ref m35, .ref m36, .ref m37, .ref m38, .ref m39, .ref m40, .int s_isBroken, .ref m41, .int s_atoms, .ref m42])), (m41, .inl (ax 4, 6, .inr (.inl vs))), (m42, .inl (ax 3, 256, .inl (fun j => nI (xtr j)))), (m5, .inl (ax 0, 2, .inl (fun j => nI (nw j)))), (m4, .inl (ax 0, 4, .inl (fun j => nI (tz j)))), (m3, .inl (ax 0, 3072, .inl tx))]) (va_A [(m0, .inr (11, [.int s_thrown, .int s_taped, .ref m1, .int s_size, .int s_outSize, .ref m2, .int s_kind, .int s_value, .int s_begin, .int s_end, .int s_failed, .ref m3, .ref m4, .ref m5, .int s_isProgram, .int s_half, .ref m6, .ref m7, .ref m8, .ref m9, .ref m10, .ref m11, .ref m12, .ref m13, .ref m14, .ref m15, .ref m16, .ref m17, .ref m18, .ref m19, .ref m20, .int s_signs, .ref m21, .int s_stacked, .ref m22, .int s_name, .int s_shift, .int s_statements, .int s_ifs, .int s_whiles, .int s_variants, .int s_open, .ref m23, .int s_isMade, .int s_conditions, .ref m24, .ref m25, .ref m26, .ref m27, .int s_kept, .ref m28, .int s_tops, .ref m29, .int s_used, .ref m30, .ref m31, .int s_looked, .int s_rows, .int s_firstRow, .ref m32, .ref m33, .ref m34, .ref m35, .ref m36, .ref m37, .ref m38, .ref m39, .ref m40, .int s_isBroken, .ref m41, .int s_atoms, .ref m42])), (m41, .inl (ax 4, 6, .inr (.inl vs))), (m42, .inl (ax 3, 256, .inl (fun j => nI (tr j)))), (m5, .inl (ax 0, 2, .inl (fun j => nI (nw j)))), (m4, .inl (ax 0, 4, .inl (fun j => nI (tz j)))), (m3, .inl (ax 0, 3072, .inl tx))] sz))) 0 0 (va_A [(m0, .inr (11, [.int s_thrown, .int s_taped, .ref m1, .int s_size, .int s_outSize, .ref m2, .int s_kind, .int s_value, .int s_begin, .int s_end, .int s_failed, .ref m3, .ref m4, .ref m5, .int s_isProgram, .int s_half, .ref m6, .ref m7, .ref m8, .ref m9, .ref m10, .ref m11, .ref m12, .ref m13, .ref m14, .ref m15, .ref m16, .ref m17, .ref m18, .ref m19, .ref m20, .int s_signs, .ref m21, .int s_stacked, .ref m22, .int s_name, .int s_shift, .int s_statements, .int s_ifs, .int s_whiles, .int s_variants, .int s_open, .ref m23, .int s_isMade, .int s_conditions, .ref m24, .ref m25, .ref m26, .ref m27, .int s_kept, .ref m28, .int s_tops, .ref m29, .int s_used, .ref m30, .ref m31, .int s_looked, .int s_rows, .int s_firstRow, .ref m32, .ref m33, .ref m34, .ref m35, .ref m36, .ref m37, .ref m38, .ref m39, .ref m40, .int s_isBroken, .ref m41, .int s_atoms, .ref m42])), (m41, .inl (ax 4, 6, .inr (.inl vs))), (m42, .inl (ax 3, 256, .inl (fun j => nI (tr j)))), (m5, .inl (ax 0, 2, .inl (fun j => nI (nw j)))), (m4, .inl (ax 0, 4, .inl (fun j => nI (tz j)))), (m3, .inl (ax 0, 3072, .inl tx))] sz) := by
  refine Met.ofW (cc := b_Model_holds) (maxL := 2) (ret := (some .boolean)) (by decide) rfl ?_
  intro p e s m args below meth c s₁ B hml hv
  obtain ⟨rfl, hsz, hP, hK, hD0⟩ := hv
  have hx := B.exec
  have hb := B.bytes
  have hr := B.returns
  have hts := xw_hts B.pre
  have hown : s.vm.findClass R_Model = some m.cls := findClass_of_methodNamed B.named
  have hlocks := B.notSynchronized
  subst hsz
  have hD := hD0.self (sz := s.heap.size)
  have hN := xz_entry hP
  generalize hAe : va_A [(m0, .inr (11, [.int s_thrown, .int s_taped, .ref m1, .int s_size, .int s_outSize, .ref m2, .int s_kind, .int s_value, .int s_begin, .int s_end, .int s_failed, .ref m3, .ref m4, .ref m5, .int s_isProgram, .int s_half, .ref m6, .ref m7, .ref m8, .ref m9, .ref m10, .ref m11, .ref m12, .ref m13, .ref m14, .ref m15, .ref m16, .ref m17, .ref m18, .ref m19, .ref m20, .int s_signs, .ref m21, .int s_stacked, .ref m22, .int s_name, .int s_shift, .int s_statements, .int s_ifs, .int s_whiles, .int s_variants, .int s_open, .ref m23, .int s_isMade, .int s_conditions, .ref m24, .ref m25, .ref m26, .ref m27, .int s_kept, .ref m28, .int s_tops, .ref m29, .int s_used, .ref m30, .ref m31, .int s_looked, .int s_rows, .int s_firstRow, .ref m32, .ref m33, .ref m34, .ref m35, .ref m36, .ref m37, .ref m38, .ref m39, .ref m40, .int s_isBroken, .ref m41, .int s_atoms, .ref m42])), (m41, .inl (ax 4, 6, .inr (.inl vs))), (m42, .inl (ax 3, 256, .inl (fun j => nI (tr j)))), (m5, .inl (ax 0, 2, .inl (fun j => nI (nw j)))), (m4, .inl (ax 0, 4, .inl (fun j => nI (tz j)))), (m3, .inl (ax 0, 3072, .inl tx))] s.heap.size = A at hD hN ⊢
  have hA : ∀ q : Nat, s.heap.size ≤ q → A q := fun q h => by rw [← hAe]; exact Or.inr h
  have hS : va_S A s.heap s.heap [] := va_S.rf
  have hl0 := lv_entry ([.ref m0, .int (nI wh)]) (n := 2) (Nat.le_of_ble_eq_true rfl)
  rw [lg_entry_eq]
  generalize (lg_sl ([.ref m0, .int (nI wh)]) ++ List.replicate (2 - (lg_sl ([.ref m0, .int (nI wh)])).length) Slot.unset).toArray = ls at hl0 ⊢
  have hl1 : lv_has ls 2 [(0, .ref m0), (1, .int (nI wh))] := hl0
  refine xw_gen (fun Z9 hQe => ?_)
  obtain ⟨x1, x2, x3, x4, x5⟩ := htx
  refine lv_aload_n hx hb d_Model_holds_0 rfl (lv_at hl1 0 rfl) ?_
  refine lv_iload_n hx hb d_Model_holds_1 rfl (lv_at hl1 1 rfl) ?_
  refine lv_if_lt (tgt := 10) hx hb d_Model_holds_2 (by decide) (fun c_1 => ?_) (fun c_1 => ?_)
  · exfalso
    replace c_1 : wh < 0 := (nI_ltI (a := wh) (b := 0) (by first | exact Nat.lt_of_lt_of_le (by assumption) (by decide) | exact Nat.lt_of_le_of_lt (by assumption) (by decide) | omega) (by decide)).mp c_1
    omega
  replace c_1 : ¬ wh < 0 := fun hq9 => c_1 ((nI_ltI (a := wh) (b := 0) (by first | exact Nat.lt_of_lt_of_le (by assumption) (by decide) | exact Nat.lt_of_le_of_lt (by assumption) (by decide) | omega) (by decide)).mpr hq9)
  refine lv_iload_n hx hb d_Model_holds_5 rfl (lv_at hl1 1 rfl) ?_
  refine lv_iconst (v := 1) hx hb d_Model_holds_6 (by decide) ?_
  refine lv_icmp_le (tgt := 14) hx hb d_Model_holds_7 (by decide) (fun c_2 => ?_) (fun c_2 => ?_)
  rotate_left
  · exfalso
    replace c_2 : ¬ wh ≤ 1 := fun hq9 => c_2 ((nI_leI (a := wh) (b := 1) (by first | exact Nat.lt_of_lt_of_le (by assumption) (by decide) | exact Nat.lt_of_le_of_lt (by assumption) (by decide) | omega) (by decide)).mpr hq9)
    omega
  replace c_2 : wh ≤ 1 := (nI_leI (a := wh) (b := 1) (by first | exact Nat.lt_of_lt_of_le (by assumption) (by decide) | exact Nat.lt_of_le_of_lt (by assumption) (by decide) | omega) (by decide)).mp c_2
  refine lv_iconst (v := 0) hx hb d_Model_holds_14 (by decide) ?_
  refine va_put (D := D) (ci := 11) (v := .int 0) (ty := .int) (C := R_Model) (T := F_Model) (N := 72) hx hb hts i_Model t_Model t_Model_ok n_Model hown hK.1 hP hD hS 0 rfl rfl 0 (by decide) (hts _ wd_1036) (fun _ h9 => h9) rfl (by decide +kernel) rfl rfl (Nat.le_of_ble_eq_true rfl) d_Model_holds_15 (fun H_3 locs hP1 hD1 hS1 => ?_)
  clear hP hD hS
  have hS := hS1
  have hW7 : (fun w9 : va_W => va_P D classes w9 H_3 ∧ va_D A w9) [(m0, .inr (11, [.int 0, .int s_taped, .ref m1, .int s_size, .int s_outSize, .ref m2, .int s_kind, .int s_value, .int s_begin, .int s_end, .int s_failed, .ref m3, .ref m4, .ref m5, .int s_isProgram, .int s_half, .ref m6, .ref m7, .ref m8, .ref m9, .ref m10, .ref m11, .ref m12, .ref m13, .ref m14, .ref m15, .ref m16, .ref m17, .ref m18, .ref m19, .ref m20, .int s_signs, .ref m21, .int s_stacked, .ref m22, .int s_name, .int s_shift, .int s_statements, .int s_ifs, .int s_whiles, .int s_variants, .int s_open, .ref m23, .int s_isMade, .int s_conditions, .ref m24, .ref m25, .ref m26, .ref m27, .int s_kept, .ref m28, .int s_tops, .ref m29, .int s_used, .ref m30, .ref m31, .int s_looked, .int s_rows, .int s_firstRow, .ref m32, .ref m33, .ref m34, .ref m35, .ref m36, .ref m37, .ref m38, .ref m39, .ref m40, .int s_isBroken, .ref m41, .int s_atoms, .ref m42])), (m41, .inl (ax 4, 6, .inr (.inl vs))), (m42, .inl (ax 3, 256, .inl (fun j => nI (tr j)))), (m5, .inl (ax 0, 2, .inl (fun j => nI (nw j)))), (m4, .inl (ax 0, 4, .inl (fun j => nI (tz j)))), (m3, .inl (ax 0, 3072, .inl tx))] := ⟨hP1, hD1⟩
  obtain ⟨hP, hD⟩ := hW7
  clear hP1 hD1 hS1
  refine lv_aload_n hx hb d_Model_holds_18 rfl (lv_at hl1 0 rfl) ?_
  refine va_get (D := D) (ci := 11) (v := .int 0) (C := R_Model) (T := F_Model) (N := 72) hx hb hts i_Model hown hK.1 hP 0 rfl rfl 0 (by decide) (hts _ wd_1036) (fun _ h9 => h9) rfl d_Model_holds_19 ?_
  refine lv_if_ne (tgt := 61) hx hb d_Model_holds_22 (by decide) (fun c_4 => ?_) (fun c_4 => ?_)
  · first | exact absurd c_4 (by decide) | exact absurd (by decide) c_4
  refine lv_aload_n hx hb d_Model_holds_25 rfl (lv_at hl1 0 rfl) ?_
  refine lv_aload_n hx hb d_Model_holds_26 rfl (lv_at hl1 0 rfl) ?_
  refine va_get (D := D) (ci := 11) (v := .ref m3) (C := R_Model) (T := F_Model) (N := 72) hx hb hts i_Model hown hK.1 hP 0 rfl rfl 11 (by decide) (hts _ wd_1047) (fun _ h9 => h9) rfl d_Model_holds_27 ?_
  refine lv_sipush (v := 768) hx hb d_Model_holds_30 (by decide) ?_
  refine lv_aload_n hx hb d_Model_holds_33 rfl (lv_at hl1 0 rfl) ?_
  refine va_get (D := D) (ci := 11) (v := .ref m5) (C := R_Model) (T := F_Model) (N := 72) hx hb hts i_Model hown hK.1 hP 0 rfl rfl 13 (by decide) (hts _ wd_1049) (fun _ h9 => h9) rfl d_Model_holds_34 ?_
  refine lv_iload_n hx hb d_Model_holds_37 rfl (lv_at hl1 1 rfl) ?_
  refine va_iald hx hb hK.1 hP 3 0 rfl rfl (vp_in_nI (by first | assumption | omega) (by decide)) d_Model_holds_38 ?_
  refine W.eq (g2 := F0 m 39 ls [.int (nI (nw wh)), .int 768, .ref m3, .ref m0]) (by rw [nI_clamp (by first | exact Nat.lt_of_lt_of_le (by assumption) (by decide) | exact Nat.lt_of_le_of_lt (by assumption) (by decide) | omega)]) ?_
  refine lv_imul hx hb d_Model_holds_39 ?_
  refine lv_topi (fun z_5 ez_5 => ?_)
  have ez_5 : z_5 = nI (768 * (nw wh)) := ez_5.trans (pk_mul 768 (nw wh))
  subst ez_5
  refine lv_aload_n hx hb d_Model_holds_40 rfl (lv_at hl1 0 rfl) ?_
  refine va_get (D := D) (ci := 11) (v := .ref m4) (C := R_Model) (T := F_Model) (N := 72) hx hb hts i_Model hown hK.1 hP 0 rfl rfl 12 (by decide) (hts _ wd_1048) (fun _ h9 => h9) rfl d_Model_holds_41 ?_
  refine lv_aload_n hx hb d_Model_holds_44 rfl (lv_at hl1 0 rfl) ?_
  refine va_get (D := D) (ci := 11) (v := .ref m5) (C := R_Model) (T := F_Model) (N := 72) hx hb hts i_Model hown hK.1 hP 0 rfl rfl 13 (by decide) (hts _ wd_1049) (fun _ h9 => h9) rfl d_Model_holds_45 ?_
  refine lv_iload_n hx hb d_Model_holds_48 rfl (lv_at hl1 1 rfl) ?_
  refine va_iald hx hb hK.1 hP 3 0 rfl rfl (vp_in_nI (by first | assumption | omega) (by decide)) d_Model_holds_49 ?_
  refine W.eq (g2 := F0 m 50 ls [.int (nI (nw wh)), .ref m4, .int (nI (768 * (nw wh))), .ref m3, .ref m0]) (by rw [nI_clamp (by first | exact Nat.lt_of_lt_of_le (by assumption) (by decide) | exact Nat.lt_of_le_of_lt (by assumption) (by decide) | omega)]) ?_
  refine va_iald hx hb hK.1 hP 4 0 rfl rfl (vp_in_nI (by first | assumption | omega) (by decide)) d_Model_holds_50 ?_
  refine W.eq (g2 := F0 m 51 ls [.int (nI (tz (nw wh))), .int (nI (768 * (nw wh))), .ref m3, .ref m0]) (by rw [nI_clamp (by first | exact Nat.lt_of_lt_of_le (by assumption) (by decide) | exact Nat.lt_of_le_of_lt (by assumption) (by decide) | omega)]) ?_
  obtain ⟨hPc, hDc, hFc, hCs⟩ := xw_sub3 (wc := [(m0, .inr (11, [.int 0, .int s_taped, .ref m1, .int s_size, .int s_outSize, .ref m2, .int s_kind, .int s_value, .int s_begin, .int s_end, .int s_failed, .ref m3, .ref m4, .ref m5, .int s_isProgram, .int s_half, .ref m6, .ref m7, .ref m8, .ref m9, .ref m10, .ref m11, .ref m12, .ref m13, .ref m14, .ref m15, .ref m16, .ref m17, .ref m18, .ref m19, .ref m20, .int s_signs, .ref m21, .int s_stacked, .ref m22, .int s_name, .int s_shift, .int s_statements, .int s_ifs, .int s_whiles, .int s_variants, .int s_open, .ref m23, .int s_isMade, .int s_conditions, .ref m24, .ref m25, .ref m26, .ref m27, .int s_kept, .ref m28, .int s_tops, .ref m29, .int s_used, .ref m30, .ref m31, .int s_looked, .int s_rows, .int s_firstRow, .ref m32, .ref m33, .ref m34, .ref m35, .ref m36, .ref m37, .ref m38, .ref m39, .ref m40, .int s_isBroken, .ref m41, .int s_atoms, .ref m42])), (m41, .inl (ax 4, 6, .inr (.inl vs))), (m42, .inl (ax 3, 256, .inl (fun j => nI (tr j)))), (m3, .inl (ax 0, 3072, .inl tx))]) hP hD hS hA [0, 1, 2, 5] (by decide) rfl
  have hz := xz_of hN hS
  refine va_calli (va_runV (As := [.ref m3, .int (nI (768 * (nw wh))), .int (nI (tz (nw wh)))]) (rest := []) ⟨hx, hb, hml, hown, hts⟩ (c_M_isTrue l D ax m0 m1 m2 m3 m4 m5 m6 m7 m8 m9 m10 m11 m12 m13 m14 m15 m16 m17 m18 m19 m20 m21 m22 m23 m24 m25 m26 m27 m28 m29 m30 m31 m32 m33 m34 m35 m36 m37 m38 m39 m40 m41 m42 0 s_taped s_size s_outSize s_kind s_value s_begin s_end s_failed s_isProgram s_half s_signs s_stacked s_name s_shift s_statements s_ifs s_whiles s_variants s_open s_isMade s_conditions s_kept s_tops s_used s_looked s_rows s_firstRow s_isBroken s_atoms m3 3072 (768 * (nw wh)) (tz (nw wh)) tr tx vs H_3.size x4 x5 (by first | assumption | omega) (by first | assumption | omega) (by first | assumption | omega) htr) (xcV (n := 3) hts wd_1596 wd_15 wd_1593 wd_1595 ps_113 rfl rfl (by decide +kernel) ⟨Nat.le_of_ble_eq_true rfl, Nat.le_of_ble_eq_true rfl⟩) (xpV (ci := 11) (q0 := 0) (As := [.ref m3, .int (nI (768 * (nw wh))), .int (nI (tz (nw wh)))]) hPc hK hz hDc rfl rfl) rfl rfl hl1.1 rfl (lv_room (Nat.le_of_ble_eq_true rfl)) d_Model_holds_51 ⟨Nat.le_of_ble_eq_true rfl, Nat.le_of_ble_eq_true rfl⟩) hS (fun q _ h => hFc q h) hFc (fun r_8 u_6 t H_7 locs ht hvm hw hB hz1 hk1 hS1 => ?_)
  try dsimp only at hw
  obtain ⟨hw, hs_9⟩ := hw
  subst hw
  obtain ⟨x_10, hx_11, hP1, hD1⟩ := hB
  rw [ht] at hP1
  have hjn := xw_join3 (wl := [(m5, .inl (ax 0, 2, .inl (fun j => nI (nw j)))), (m4, .inl (ax 0, 4, .inl (fun j => nI (tz j)))), (m0, .inr (11, [.int 0, .int s_taped, .ref m1, .int s_size, .int s_outSize, .ref m2, .int s_kind, .int s_value, .int s_begin, .int s_end, .int s_failed, .ref m3, .ref m4, .ref m5, .int s_isProgram, .int s_half, .ref m6, .ref m7, .ref m8, .ref m9, .ref m10, .ref m11, .ref m12, .ref m13, .ref m14, .ref m15, .ref m16, .ref m17, .ref m18, .ref m19, .ref m20, .int s_signs, .ref m21, .int s_stacked, .ref m22, .int s_name, .int s_shift, .int s_statements, .int s_ifs, .int s_whiles, .int s_variants, .int s_open, .ref m23, .int s_isMade, .int s_conditions, .ref m24, .ref m25, .ref m26, .ref m27, .int s_kept, .ref m28, .int s_tops, .ref m29, .int s_used, .ref m30, .ref m31, .int s_looked, .int s_rows, .int s_firstRow, .ref m32, .ref m33, .ref m34, .ref m35, .ref m36, .ref m37, .ref m38, .ref m39, .ref m40, .int s_isBroken, .ref m41, .int s_atoms, .ref m42])), (m41, .inl (ax 4, 6, .inr (.inl vs))), (m42, .inl (ax 3, 256, .inl (fun j => nI (x_10 j)))), (m3, .inl (ax 0, 3072, .inl tx))]) hP hD [0, 1, 2, 5] [3, 4] hCs (by decide) (by decide) hk1 hFc hP1 hD1 rfl
  clear hP1 hD1
  clear hPc hDc hFc hCs hz hz1 hk1 ht hvm
  clear hP hD hS
  have hS := hS1
  obtain ⟨hP, hD⟩ := hjn
  clear hS1
  refine lv_if_eq (tgt := 61) hx hb d_Model_holds_54 (by decide) (fun c_12 => ?_) (fun c_12 => ?_)
  · replace c_12 : u_6 0 = 0 := (nI_eq (a := u_6 0) (b := 0) (by first | exact Nat.lt_of_lt_of_le (by assumption) (by decide) | exact Nat.lt_of_le_of_lt (by assumption) (by decide) | omega) (by decide)).mp c_12
    refine lv_iconst (v := 0) hx hb d_Model_holds_61 (by decide) ?_
    rw [← hQe]
    obtain ⟨hP9, hD9⟩ := xw_sub2 (wc := (fun (u : Nat → Nat) (xtr : Nat → Nat) => [(m0, .inr (11, [.int 0, .int s_taped, .ref m1, .int s_size, .int s_outSize, .ref m2, .int s_kind, .int s_value, .int s_begin, .int s_end, .int s_failed, .ref m3, .ref m4, .ref m5, .int s_isProgram, .int s_half, .ref m6, .ref m7, .ref m8, .ref m9, .ref m10, .ref m11, .ref m12, .ref m13, .ref m14, .ref m15, .ref m16, .ref m17, .ref m18, .ref m19, .ref m20, .int s_signs, .ref m21, .int s_stacked, .ref m22, .int s_name, .int s_shift, .int s_statements, .int s_ifs, .int s_whiles, .int s_variants, .int s_open, .ref m23, .int s_isMade, .int s_conditions, .ref m24, .ref m25, .ref m26, .ref m27, .int s_kept, .ref m28, .int s_tops, .ref m29, .int s_used, .ref m30, .ref m31, .int s_looked, .int s_rows, .int s_firstRow, .ref m32, .ref m33, .ref m34, .ref m35, .ref m36, .ref m37, .ref m38, .ref m39, .ref m40, .int s_isBroken, .ref m41, .int s_atoms, .ref m42])), (m41, .inl (ax 4, 6, .inr (.inl vs))), (m42, .inl (ax 3, 256, .inl (fun j => nI (xtr j)))), (m5, .inl (ax 0, 2, .inl (fun j => nI (nw j)))), (m4, .inl (ax 0, 4, .inl (fun j => nI (tz j)))), (m3, .inl (ax 0, 3072, .inl tx))]) (ixn [0]) x_10) hP hD [2, 3, 4, 0, 1, 5] (by decide) rfl
    have hex0 : ∀ j, x_10 j ≤ 1 := (by assumption)
    have hsp0 : 0 ≤ 1 := (by first | assumption | omega)
    exact W.zret (v := 0) hx hb hr rfl (fun t ht hW => ⟨⟨0, ixn [0], rfl, ⟨rfl, hsp0⟩, ⟨x_10, hex0, by rw [ht]; exact hP9, hD9⟩⟩, hS.F ht⟩) hS.2.2 d_Model_holds_62
  · replace c_12 : ¬ u_6 0 = 0 := fun hq9 => c_12 ((nI_eq (a := u_6 0) (b := 0) (by first | exact Nat.lt_of_lt_of_le (by assumption) (by decide) | exact Nat.lt_of_le_of_lt (by assumption) (by decide) | omega) (by decide)).mpr hq9)
    refine lv_iconst (v := 1) hx hb d_Model_holds_57 (by decide) ?_
    refine lv_goto (tgt := 62) hx hb d_Model_holds_58 (by decide) ?_
    rw [← hQe]
    obtain ⟨hP9, hD9⟩ := xw_sub2 (wc := (fun (u : Nat → Nat) (xtr : Nat → Nat) => [(m0, .inr (11, [.int 0, .int s_taped, .ref m1, .int s_size, .int s_outSize, .ref m2, .int s_kind, .int s_value, .int s_begin, .int s_end, .int s_failed, .ref m3, .ref m4, .ref m5, .int s_isProgram, .int s_half, .ref m6, .ref m7, .ref m8, .ref m9, .ref m10, .ref m11, .ref m12, .ref m13, .ref m14, .ref m15, .ref m16, .ref m17, .ref m18, .ref m19, .ref m20, .int s_signs, .ref m21, .int s_stacked, .ref m22, .int s_name, .int s_shift, .int s_statements, .int s_ifs, .int s_whiles, .int s_variants, .int s_open, .ref m23, .int s_isMade, .int s_conditions, .ref m24, .ref m25, .ref m26, .ref m27, .int s_kept, .ref m28, .int s_tops, .ref m29, .int s_used, .ref m30, .ref m31, .int s_looked, .int s_rows, .int s_firstRow, .ref m32, .ref m33, .ref m34, .ref m35, .ref m36, .ref m37, .ref m38, .ref m39, .ref m40, .int s_isBroken, .ref m41, .int s_atoms, .ref m42])), (m41, .inl (ax 4, 6, .inr (.inl vs))), (m42, .inl (ax 3, 256, .inl (fun j => nI (xtr j)))), (m5, .inl (ax 0, 2, .inl (fun j => nI (nw j)))), (m4, .inl (ax 0, 4, .inl (fun j => nI (tz j)))), (m3, .inl (ax 0, 3072, .inl tx))]) (ixn [1]) x_10) hP hD [2, 3, 4, 0, 1, 5] (by decide) rfl
    have hex0 : ∀ j, x_10 j ≤ 1 := (by assumption)
    have hsp0 : 1 ≤ 1 := (by first | assumption | omega)
    exact W.zret (v := 1) hx hb hr rfl (fun t ht hW => ⟨⟨1, ixn [1], rfl, ⟨rfl, hsp0⟩, ⟨x_10, hex0, by rw [ht]; exact hP9, hD9⟩⟩, hS.F ht⟩) hS.2.2 d_Model_holds_62
