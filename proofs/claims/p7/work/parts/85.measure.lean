theorem wd_1095 : ((Jvm.Cond.fieldLink "TripleDeskModel" (110 : Nat) "TripleDeskModel" "sizeOf" "[I")) ∈ lw_gd := lw_gd_in (i := 1095) (by decide +kernel) rfl
theorem wd_1096 : ((Jvm.Cond.fieldLink "TripleDeskModel" (113 : Nat) "TripleDeskModel" "whenTrue" "[I")) ∈ lw_gd := lw_gd_in (i := 1096) (by decide +kernel) rfl
theorem wd_1097 : ((Jvm.Cond.fieldLink "TripleDeskModel" (116 : Nat) "TripleDeskModel" "whenFalse" "[I")) ∈ lw_gd := lw_gd_in (i := 1097) (by decide +kernel) rfl
theorem wd_1511 : ((Jvm.Cond.methodLink "TripleDeskModel" (399 : Nat) ({ cls := "TripleDeskModel", name := "limit", desc := "(I)I" } : Jvm.MethodName))) ∈ lw_gd := lw_gd_in (i := 1511) (by decide +kernel) rfl
theorem wd_1512 : ((Jvm.Cond.static ({ cls := "TripleDeskModel", name := "limit", desc := "(I)I" } : Jvm.MethodName))) ∈ lw_gd := lw_gd_in (i := 1512) (by decide +kernel) rfl
theorem wd_1513 : ((Jvm.Cond.code ({ cls := "TripleDeskModel", name := "limit", desc := "(I)I" } : Jvm.MethodName) prog_13_method_61_code (1 : Nat) (Option.some Jvm.ClassFile.FieldType.int))) ∈ lw_gd := lw_gd_in (i := 1513) (by decide +kernel) rfl
abbrev b_Model_limit : ByteArray := prog_13_method_61_code
def y_Model_limit : MethodName := ⟨R_Model, "limit", "(I)I"⟩
theorem d_Model_limit_0 : decode b_Model_limit 0 = .ok (.iload_n 0, 1) := by decide +kernel
theorem d_Model_limit_1 : decode b_Model_limit 1 = .ok (.sipush 5001, 3) := by decide +kernel
theorem d_Model_limit_4 : decode b_Model_limit 4 = .ok (.if_icmp .le 9, 3) := by decide +kernel
theorem d_Model_limit_7 : decode b_Model_limit 7 = .ok (.sipush 5001, 3) := by decide +kernel
theorem d_Model_limit_10 : decode b_Model_limit 10 = .ok (.goto 4, 3) := by decide +kernel
theorem d_Model_limit_13 : decode b_Model_limit 13 = .ok (.iload_n 0, 1) := by decide +kernel
theorem d_Model_limit_14 : decode b_Model_limit 14 = .ok (.ireturn, 1) := by decide +kernel
set_option maxHeartbeats 40000000 in
set_option maxRecDepth 100000 in
theorem c_M_limit (l : Launch) (D : va_G) (ax : Nat → ClassId) (q : Nat) (sz : Nat) (hq : q < 2 ^ 31) (hq1 : 1 ≤ q) : Met l y_Model_limit (xws (.code y_Model_limit b_Model_limit 1 (some .int))) ({ frames := 10, cells := 0, slots := 0, locals := 400 }) (va_Pc [.int (nI q)] (xo D ax [] sz)) ((va_Qi (fun (r : Int32) (u : Nat → Nat) => r = nI (u 0) ∧ (1 ≤ u 0 ∧ u 0 ≤ 5001 ∧ u 0 = lm8 q)) (xb D (va_A [] sz) (fun u => [])) (va_A [] sz))) 0 0 (va_A [] sz) := by
  refine Met.ofW (cc := b_Model_limit) (maxL := 1) (ret := (some .int)) (by decide) rfl ?_
  intro p e s m args below meth c s₁ B hml hv
  obtain ⟨rfl, hsz, hP, hK, hD0⟩ := hv
  have hx := B.exec
  have hb := B.bytes
  have hr := B.returns
  have hts := xw_hts B.pre
  have hown : s.vm.findClass R_Model = some m.cls := findClass_of_methodNamed B.named
  have hlocks := B.notSynchronized
  subst hsz
  have hD := hD0.self (sz := s.heap.size)
  have hN := xz_entry hP
  generalize hAe : va_A [] s.heap.size = A at hD hN ⊢
  have hA : ∀ q : Nat, s.heap.size ≤ q → A q := fun q h => by rw [← hAe]; exact Or.inr h
  have hS : va_S A s.heap s.heap [] := va_S.rf
  have hl0 := lv_entry ([.int (nI q)]) (n := 1) (Nat.le_of_ble_eq_true rfl)
  rw [lg_entry_eq]
  generalize (lg_sl ([.int (nI q)]) ++ List.replicate (1 - (lg_sl ([.int (nI q)])).length) Slot.unset).toArray = ls at hl0 ⊢
  have hl1 : lv_has ls 1 [(0, .int (nI q))] := hl0
  refine xw_gen (fun Z9 hQe => ?_)
  refine lv_iload_n hx hb d_Model_limit_0 rfl (lv_at hl1 0 rfl) ?_
  refine lv_sipush (v := 5001) hx hb d_Model_limit_1 (by decide) ?_
  refine lv_icmp_le (tgt := 13) hx hb d_Model_limit_4 (by decide) (fun c_1 => ?_) (fun c_1 => ?_)
  · replace c_1 : q ≤ 5001 := (nI_leI (a := q) (b := 5001) (by first | exact Nat.lt_of_lt_of_le (by assumption) (by decide) | exact Nat.lt_of_le_of_lt (by assumption) (by decide) | omega) (by decide)).mp c_1
    refine lv_iload_n hx hb d_Model_limit_13 rfl (lv_at hl1 0 rfl) ?_
    rw [← hQe]
    obtain ⟨hP9, hD9⟩ := xw_sub2 (wc := (fun u : Nat → Nat => []) (ixn [q])) hP hD [] (by decide) rfl
    have hsp0 : 1 ≤ q := (by first | assumption | omega)
    have hsp1 : q ≤ 5001 := (by first | assumption | omega)
    have hsp2 : q = lm8 q := (by first | exact (lm8_n (by first | assumption | omega)).symm | exact (lm8_m (by first | assumption | omega)).symm)
    exact W.iret (v := nI q) hx hb hr (fun t ht hW => ⟨⟨nI q, ixn [q], rfl, ⟨rfl, ⟨hsp0, hsp1, hsp2⟩⟩, ⟨by rw [ht]; exact hP9, hD9⟩⟩, hS.F ht⟩) hS.2.2 d_Model_limit_14
  · replace c_1 : ¬ q ≤ 5001 := fun hq9 => c_1 ((nI_leI (a := q) (b := 5001) (by first | exact Nat.lt_of_lt_of_le (by assumption) (by decide) | exact Nat.lt_of_le_of_lt (by assumption) (by decide) | omega) (by decide)).mpr hq9)
    refine lv_sipush (v := 5001) hx hb d_Model_limit_7 (by decide) ?_
    refine lv_goto (tgt := 14) hx hb d_Model_limit_10 (by decide) ?_
    rw [← hQe]
    obtain ⟨hP9, hD9⟩ := xw_sub2 (wc := (fun u : Nat → Nat => []) (ixn [5001])) hP hD [] (by decide) rfl
    have hsp0 : 1 ≤ 5001 := (by first | assumption | omega)
    have hsp1 : 5001 ≤ 5001 := (by first | assumption | omega)
    have hsp2 : 5001 = lm8 q := (by first | exact (lm8_n (by first | assumption | omega)).symm | exact (lm8_m (by first | assumption | omega)).symm)
    exact W.iret (v := 5001) hx hb hr (fun t ht hW => ⟨⟨5001, ixn [5001], rfl, ⟨rfl, ⟨hsp0, hsp1, hsp2⟩⟩, ⟨by rw [ht]; exact hP9, hD9⟩⟩, hS.F ht⟩) hS.2.2 d_Model_limit_14
abbrev b_Model_measure : ByteArray := prog_13_method_62_code
def y_Model_measure : MethodName := ⟨R_Model, "measure", "(II)V"⟩
theorem d_Model_measure_0 : decode b_Model_measure 0 = .ok (.iconst 0, 1) := by decide +kernel
theorem d_Model_measure_1 : decode b_Model_measure 1 = .ok (.istore_n 3, 1) := by decide +kernel
theorem d_Model_measure_2 : decode b_Model_measure 2 = .ok (.iload_n 3, 1) := by decide +kernel
theorem d_Model_measure_3 : decode b_Model_measure 3 = .ok (.iload_n 2, 1) := by decide +kernel
theorem d_Model_measure_4 : decode b_Model_measure 4 = .ok (.if_icmp .ge 289, 3) := by decide +kernel
theorem d_Model_measure_7 : decode b_Model_measure 7 = .ok (.aload_n 0, 1) := by decide +kernel
theorem d_Model_measure_8 : decode b_Model_measure 8 = .ok (.getfield 94, 3) := by decide +kernel
theorem d_Model_measure_11 : decode b_Model_measure 11 = .ok (.bipush 6, 2) := by decide +kernel
theorem d_Model_measure_13 : decode b_Model_measure 13 = .ok (.iload_n 1, 1) := by decide +kernel
theorem d_Model_measure_14 : decode b_Model_measure 14 = .ok (.iload_n 3, 1) := by decide +kernel
theorem d_Model_measure_15 : decode b_Model_measure 15 = .ok (.iadd, 1) := by decide +kernel
theorem d_Model_measure_16 : decode b_Model_measure 16 = .ok (.imul, 1) := by decide +kernel
theorem d_Model_measure_17 : decode b_Model_measure 17 = .ok (.iaload, 1) := by decide +kernel
theorem d_Model_measure_18 : decode b_Model_measure 18 = .ok (.istore 4, 2) := by decide +kernel
theorem d_Model_measure_20 : decode b_Model_measure 20 = .ok (.iload 4, 2) := by decide +kernel
theorem d_Model_measure_22 : decode b_Model_measure 22 = .ok (.ifCond .ne 62, 3) := by decide +kernel
theorem d_Model_measure_25 : decode b_Model_measure 25 = .ok (.aload_n 0, 1) := by decide +kernel
theorem d_Model_measure_26 : decode b_Model_measure 26 = .ok (.getfield 94, 3) := by decide +kernel
theorem d_Model_measure_29 : decode b_Model_measure 29 = .ok (.bipush 6, 2) := by decide +kernel
theorem d_Model_measure_31 : decode b_Model_measure 31 = .ok (.iload_n 1, 1) := by decide +kernel
theorem d_Model_measure_32 : decode b_Model_measure 32 = .ok (.iload_n 3, 1) := by decide +kernel
theorem d_Model_measure_33 : decode b_Model_measure 33 = .ok (.iadd, 1) := by decide +kernel
theorem d_Model_measure_34 : decode b_Model_measure 34 = .ok (.imul, 1) := by decide +kernel
theorem d_Model_measure_35 : decode b_Model_measure 35 = .ok (.iconst 3, 1) := by decide +kernel
theorem d_Model_measure_36 : decode b_Model_measure 36 = .ok (.iadd, 1) := by decide +kernel
theorem d_Model_measure_37 : decode b_Model_measure 37 = .ok (.iaload, 1) := by decide +kernel
theorem d_Model_measure_38 : decode b_Model_measure 38 = .ok (.istore 5, 2) := by decide +kernel
theorem d_Model_measure_40 : decode b_Model_measure 40 = .ok (.aload_n 0, 1) := by decide +kernel
theorem d_Model_measure_41 : decode b_Model_measure 41 = .ok (.getfield 110, 3) := by decide +kernel
theorem d_Model_measure_44 : decode b_Model_measure 44 = .ok (.iload_n 3, 1) := by decide +kernel
theorem d_Model_measure_45 : decode b_Model_measure 45 = .ok (.iconst 1, 1) := by decide +kernel
theorem d_Model_measure_46 : decode b_Model_measure 46 = .ok (.iastore, 1) := by decide +kernel
theorem d_Model_measure_47 : decode b_Model_measure 47 = .ok (.aload_n 0, 1) := by decide +kernel
theorem d_Model_measure_48 : decode b_Model_measure 48 = .ok (.getfield 113, 3) := by decide +kernel
theorem d_Model_measure_51 : decode b_Model_measure 51 = .ok (.iload_n 3, 1) := by decide +kernel
theorem d_Model_measure_52 : decode b_Model_measure 52 = .ok (.iload 5, 2) := by decide +kernel
theorem d_Model_measure_54 : decode b_Model_measure 54 = .ok (.iconst 3, 1) := by decide +kernel
theorem d_Model_measure_55 : decode b_Model_measure 55 = .ok (.if_icmp .ne 7, 3) := by decide +kernel
theorem d_Model_measure_58 : decode b_Model_measure 58 = .ok (.iconst 2, 1) := by decide +kernel
theorem d_Model_measure_59 : decode b_Model_measure 59 = .ok (.goto 4, 3) := by decide +kernel
theorem d_Model_measure_62 : decode b_Model_measure 62 = .ok (.iconst 1, 1) := by decide +kernel
theorem d_Model_measure_63 : decode b_Model_measure 63 = .ok (.iastore, 1) := by decide +kernel
theorem d_Model_measure_64 : decode b_Model_measure 64 = .ok (.aload_n 0, 1) := by decide +kernel
theorem d_Model_measure_65 : decode b_Model_measure 65 = .ok (.getfield 116, 3) := by decide +kernel
theorem d_Model_measure_68 : decode b_Model_measure 68 = .ok (.iload_n 3, 1) := by decide +kernel
theorem d_Model_measure_69 : decode b_Model_measure 69 = .ok (.iload 5, 2) := by decide +kernel
theorem d_Model_measure_71 : decode b_Model_measure 71 = .ok (.iconst 2, 1) := by decide +kernel
theorem d_Model_measure_72 : decode b_Model_measure 72 = .ok (.if_icmp .ne 7, 3) := by decide +kernel
theorem d_Model_measure_75 : decode b_Model_measure 75 = .ok (.iconst 2, 1) := by decide +kernel
theorem d_Model_measure_76 : decode b_Model_measure 76 = .ok (.goto 4, 3) := by decide +kernel
theorem d_Model_measure_79 : decode b_Model_measure 79 = .ok (.iconst 1, 1) := by decide +kernel
theorem d_Model_measure_80 : decode b_Model_measure 80 = .ok (.iastore, 1) := by decide +kernel
theorem d_Model_measure_81 : decode b_Model_measure 81 = .ok (.goto 206, 3) := by decide +kernel
theorem d_Model_measure_84 : decode b_Model_measure 84 = .ok (.iload 4, 2) := by decide +kernel
theorem d_Model_measure_86 : decode b_Model_measure 86 = .ok (.iconst 1, 1) := by decide +kernel
theorem d_Model_measure_87 : decode b_Model_measure 87 = .ok (.if_icmp .ne 50, 3) := by decide +kernel
theorem d_Model_measure_90 : decode b_Model_measure 90 = .ok (.aload_n 0, 1) := by decide +kernel
theorem d_Model_measure_91 : decode b_Model_measure 91 = .ok (.getfield 110, 3) := by decide +kernel
theorem d_Model_measure_94 : decode b_Model_measure 94 = .ok (.iload_n 3, 1) := by decide +kernel
theorem d_Model_measure_95 : decode b_Model_measure 95 = .ok (.aload_n 0, 1) := by decide +kernel
theorem d_Model_measure_96 : decode b_Model_measure 96 = .ok (.getfield 110, 3) := by decide +kernel
theorem d_Model_measure_99 : decode b_Model_measure 99 = .ok (.iload_n 3, 1) := by decide +kernel
theorem d_Model_measure_100 : decode b_Model_measure 100 = .ok (.iconst 1, 1) := by decide +kernel
theorem d_Model_measure_101 : decode b_Model_measure 101 = .ok (.isub, 1) := by decide +kernel
theorem d_Model_measure_102 : decode b_Model_measure 102 = .ok (.iaload, 1) := by decide +kernel
theorem d_Model_measure_103 : decode b_Model_measure 103 = .ok (.iconst 1, 1) := by decide +kernel
theorem d_Model_measure_104 : decode b_Model_measure 104 = .ok (.iadd, 1) := by decide +kernel
theorem d_Model_measure_105 : decode b_Model_measure 105 = .ok (.iastore, 1) := by decide +kernel
theorem d_Model_measure_106 : decode b_Model_measure 106 = .ok (.aload_n 0, 1) := by decide +kernel
theorem d_Model_measure_107 : decode b_Model_measure 107 = .ok (.getfield 113, 3) := by decide +kernel
theorem d_Model_measure_110 : decode b_Model_measure 110 = .ok (.iload_n 3, 1) := by decide +kernel
theorem d_Model_measure_111 : decode b_Model_measure 111 = .ok (.aload_n 0, 1) := by decide +kernel
theorem d_Model_measure_112 : decode b_Model_measure 112 = .ok (.getfield 116, 3) := by decide +kernel
theorem d_Model_measure_115 : decode b_Model_measure 115 = .ok (.iload_n 3, 1) := by decide +kernel
theorem d_Model_measure_116 : decode b_Model_measure 116 = .ok (.iconst 1, 1) := by decide +kernel
theorem d_Model_measure_117 : decode b_Model_measure 117 = .ok (.isub, 1) := by decide +kernel
theorem d_Model_measure_118 : decode b_Model_measure 118 = .ok (.iaload, 1) := by decide +kernel
theorem d_Model_measure_119 : decode b_Model_measure 119 = .ok (.iastore, 1) := by decide +kernel
theorem d_Model_measure_120 : decode b_Model_measure 120 = .ok (.aload_n 0, 1) := by decide +kernel
theorem d_Model_measure_121 : decode b_Model_measure 121 = .ok (.getfield 116, 3) := by decide +kernel
theorem d_Model_measure_124 : decode b_Model_measure 124 = .ok (.iload_n 3, 1) := by decide +kernel
theorem d_Model_measure_125 : decode b_Model_measure 125 = .ok (.aload_n 0, 1) := by decide +kernel
theorem d_Model_measure_126 : decode b_Model_measure 126 = .ok (.getfield 113, 3) := by decide +kernel
theorem d_Model_measure_129 : decode b_Model_measure 129 = .ok (.iload_n 3, 1) := by decide +kernel
theorem d_Model_measure_130 : decode b_Model_measure 130 = .ok (.iconst 1, 1) := by decide +kernel
theorem d_Model_measure_131 : decode b_Model_measure 131 = .ok (.isub, 1) := by decide +kernel
theorem d_Model_measure_132 : decode b_Model_measure 132 = .ok (.iaload, 1) := by decide +kernel
theorem d_Model_measure_133 : decode b_Model_measure 133 = .ok (.iastore, 1) := by decide +kernel
theorem d_Model_measure_134 : decode b_Model_measure 134 = .ok (.goto 153, 3) := by decide +kernel
theorem d_Model_measure_137 : decode b_Model_measure 137 = .ok (.iload_n 3, 1) := by decide +kernel
theorem d_Model_measure_138 : decode b_Model_measure 138 = .ok (.iconst 1, 1) := by decide +kernel
theorem d_Model_measure_139 : decode b_Model_measure 139 = .ok (.isub, 1) := by decide +kernel
theorem d_Model_measure_140 : decode b_Model_measure 140 = .ok (.istore 5, 2) := by decide +kernel
theorem d_Model_measure_142 : decode b_Model_measure 142 = .ok (.iload 5, 2) := by decide +kernel
theorem d_Model_measure_144 : decode b_Model_measure 144 = .ok (.aload_n 0, 1) := by decide +kernel
theorem d_Model_measure_145 : decode b_Model_measure 145 = .ok (.getfield 110, 3) := by decide +kernel
theorem d_Model_measure_148 : decode b_Model_measure 148 = .ok (.iload 5, 2) := by decide +kernel
theorem d_Model_measure_150 : decode b_Model_measure 150 = .ok (.iaload, 1) := by decide +kernel
theorem d_Model_measure_151 : decode b_Model_measure 151 = .ok (.isub, 1) := by decide +kernel
theorem d_Model_measure_152 : decode b_Model_measure 152 = .ok (.istore 6, 2) := by decide +kernel
theorem d_Model_measure_154 : decode b_Model_measure 154 = .ok (.aload_n 0, 1) := by decide +kernel
theorem d_Model_measure_155 : decode b_Model_measure 155 = .ok (.getfield 110, 3) := by decide +kernel
theorem d_Model_measure_158 : decode b_Model_measure 158 = .ok (.iload_n 3, 1) := by decide +kernel
theorem d_Model_measure_159 : decode b_Model_measure 159 = .ok (.aload_n 0, 1) := by decide +kernel
theorem d_Model_measure_160 : decode b_Model_measure 160 = .ok (.getfield 110, 3) := by decide +kernel
theorem d_Model_measure_163 : decode b_Model_measure 163 = .ok (.iload 6, 2) := by decide +kernel
theorem d_Model_measure_165 : decode b_Model_measure 165 = .ok (.iaload, 1) := by decide +kernel
theorem d_Model_measure_166 : decode b_Model_measure 166 = .ok (.aload_n 0, 1) := by decide +kernel
theorem d_Model_measure_167 : decode b_Model_measure 167 = .ok (.getfield 110, 3) := by decide +kernel
theorem d_Model_measure_170 : decode b_Model_measure 170 = .ok (.iload 5, 2) := by decide +kernel
theorem d_Model_measure_172 : decode b_Model_measure 172 = .ok (.iaload, 1) := by decide +kernel
theorem d_Model_measure_173 : decode b_Model_measure 173 = .ok (.iadd, 1) := by decide +kernel
theorem d_Model_measure_174 : decode b_Model_measure 174 = .ok (.iconst 1, 1) := by decide +kernel
theorem d_Model_measure_175 : decode b_Model_measure 175 = .ok (.iadd, 1) := by decide +kernel
theorem d_Model_measure_176 : decode b_Model_measure 176 = .ok (.iastore, 1) := by decide +kernel
theorem d_Model_measure_177 : decode b_Model_measure 177 = .ok (.aload_n 0, 1) := by decide +kernel
theorem d_Model_measure_178 : decode b_Model_measure 178 = .ok (.getfield 113, 3) := by decide +kernel
theorem d_Model_measure_181 : decode b_Model_measure 181 = .ok (.iload 6, 2) := by decide +kernel
theorem d_Model_measure_183 : decode b_Model_measure 183 = .ok (.iaload, 1) := by decide +kernel
theorem d_Model_measure_184 : decode b_Model_measure 184 = .ok (.aload_n 0, 1) := by decide +kernel
theorem d_Model_measure_185 : decode b_Model_measure 185 = .ok (.getfield 113, 3) := by decide +kernel
theorem d_Model_measure_188 : decode b_Model_measure 188 = .ok (.iload 5, 2) := by decide +kernel
theorem d_Model_measure_190 : decode b_Model_measure 190 = .ok (.iaload, 1) := by decide +kernel
theorem d_Model_measure_191 : decode b_Model_measure 191 = .ok (.iadd, 1) := by decide +kernel
theorem d_Model_measure_192 : decode b_Model_measure 192 = .ok (.invokestatic 399, 3) := by decide +kernel
theorem d_Model_measure_195 : decode b_Model_measure 195 = .ok (.istore 7, 2) := by decide +kernel
theorem d_Model_measure_197 : decode b_Model_measure 197 = .ok (.aload_n 0, 1) := by decide +kernel
theorem d_Model_measure_198 : decode b_Model_measure 198 = .ok (.getfield 116, 3) := by decide +kernel
theorem d_Model_measure_201 : decode b_Model_measure 201 = .ok (.iload 6, 2) := by decide +kernel
theorem d_Model_measure_203 : decode b_Model_measure 203 = .ok (.iaload, 1) := by decide +kernel
theorem d_Model_measure_204 : decode b_Model_measure 204 = .ok (.aload_n 0, 1) := by decide +kernel
theorem d_Model_measure_205 : decode b_Model_measure 205 = .ok (.getfield 116, 3) := by decide +kernel
theorem d_Model_measure_208 : decode b_Model_measure 208 = .ok (.iload 5, 2) := by decide +kernel
theorem d_Model_measure_210 : decode b_Model_measure 210 = .ok (.iaload, 1) := by decide +kernel
theorem d_Model_measure_211 : decode b_Model_measure 211 = .ok (.iadd, 1) := by decide +kernel
theorem d_Model_measure_212 : decode b_Model_measure 212 = .ok (.invokestatic 399, 3) := by decide +kernel
theorem d_Model_measure_215 : decode b_Model_measure 215 = .ok (.istore 8, 2) := by decide +kernel
theorem d_Model_measure_217 : decode b_Model_measure 217 = .ok (.aload_n 0, 1) := by decide +kernel
theorem d_Model_measure_218 : decode b_Model_measure 218 = .ok (.getfield 113, 3) := by decide +kernel
theorem d_Model_measure_221 : decode b_Model_measure 221 = .ok (.iload_n 3, 1) := by decide +kernel
theorem d_Model_measure_222 : decode b_Model_measure 222 = .ok (.iload 4, 2) := by decide +kernel
theorem d_Model_measure_224 : decode b_Model_measure 224 = .ok (.iconst 2, 1) := by decide +kernel
theorem d_Model_measure_225 : decode b_Model_measure 225 = .ok (.if_icmp .ne 24, 3) := by decide +kernel
theorem d_Model_measure_228 : decode b_Model_measure 228 = .ok (.aload_n 0, 1) := by decide +kernel
theorem d_Model_measure_229 : decode b_Model_measure 229 = .ok (.getfield 113, 3) := by decide +kernel
theorem d_Model_measure_232 : decode b_Model_measure 232 = .ok (.iload 6, 2) := by decide +kernel
theorem d_Model_measure_234 : decode b_Model_measure 234 = .ok (.iaload, 1) := by decide +kernel
theorem d_Model_measure_235 : decode b_Model_measure 235 = .ok (.aload_n 0, 1) := by decide +kernel
theorem d_Model_measure_236 : decode b_Model_measure 236 = .ok (.getfield 113, 3) := by decide +kernel
theorem d_Model_measure_239 : decode b_Model_measure 239 = .ok (.iload 5, 2) := by decide +kernel
theorem d_Model_measure_241 : decode b_Model_measure 241 = .ok (.iaload, 1) := by decide +kernel
theorem d_Model_measure_242 : decode b_Model_measure 242 = .ok (.imul, 1) := by decide +kernel
theorem d_Model_measure_243 : decode b_Model_measure 243 = .ok (.invokestatic 399, 3) := by decide +kernel
theorem d_Model_measure_246 : decode b_Model_measure 246 = .ok (.goto 5, 3) := by decide +kernel
theorem d_Model_measure_249 : decode b_Model_measure 249 = .ok (.iload 7, 2) := by decide +kernel
theorem d_Model_measure_251 : decode b_Model_measure 251 = .ok (.iastore, 1) := by decide +kernel
theorem d_Model_measure_252 : decode b_Model_measure 252 = .ok (.aload_n 0, 1) := by decide +kernel
theorem d_Model_measure_253 : decode b_Model_measure 253 = .ok (.getfield 116, 3) := by decide +kernel
theorem d_Model_measure_256 : decode b_Model_measure 256 = .ok (.iload_n 3, 1) := by decide +kernel
theorem d_Model_measure_257 : decode b_Model_measure 257 = .ok (.iload 4, 2) := by decide +kernel
theorem d_Model_measure_259 : decode b_Model_measure 259 = .ok (.iconst 3, 1) := by decide +kernel
theorem d_Model_measure_260 : decode b_Model_measure 260 = .ok (.if_icmp .ne 24, 3) := by decide +kernel
theorem d_Model_measure_263 : decode b_Model_measure 263 = .ok (.aload_n 0, 1) := by decide +kernel
theorem d_Model_measure_264 : decode b_Model_measure 264 = .ok (.getfield 116, 3) := by decide +kernel
theorem d_Model_measure_267 : decode b_Model_measure 267 = .ok (.iload 6, 2) := by decide +kernel
theorem d_Model_measure_269 : decode b_Model_measure 269 = .ok (.iaload, 1) := by decide +kernel
theorem d_Model_measure_270 : decode b_Model_measure 270 = .ok (.aload_n 0, 1) := by decide +kernel
theorem d_Model_measure_271 : decode b_Model_measure 271 = .ok (.getfield 116, 3) := by decide +kernel
theorem d_Model_measure_274 : decode b_Model_measure 274 = .ok (.iload 5, 2) := by decide +kernel
theorem d_Model_measure_276 : decode b_Model_measure 276 = .ok (.iaload, 1) := by decide +kernel
theorem d_Model_measure_277 : decode b_Model_measure 277 = .ok (.imul, 1) := by decide +kernel
theorem d_Model_measure_278 : decode b_Model_measure 278 = .ok (.invokestatic 399, 3) := by decide +kernel
theorem d_Model_measure_281 : decode b_Model_measure 281 = .ok (.goto 5, 3) := by decide +kernel
theorem d_Model_measure_284 : decode b_Model_measure 284 = .ok (.iload 8, 2) := by decide +kernel
theorem d_Model_measure_286 : decode b_Model_measure 286 = .ok (.iastore, 1) := by decide +kernel
theorem d_Model_measure_287 : decode b_Model_measure 287 = .ok (.iinc 3 1, 3) := by decide +kernel
theorem d_Model_measure_290 : decode b_Model_measure 290 = .ok (.goto (-288), 3) := by decide +kernel
theorem d_Model_measure_293 : decode b_Model_measure 293 = .ok (.return_, 1) := by decide +kernel
set_option maxHeartbeats 40000000 in
set_option maxRecDepth 100000 in
theorem c_M_measure (l : Launch) (D : va_G) (ax : Nat → ClassId) (m0 m1 m2 m3 m4 m5 m6 m7 m8 m9 m10 m11 m12 m13 m14 m15 m16 m17 m18 m19 m20 m21 m22 m23 m24 m25 m26 m27 m28 m29 m30 m31 m32 m33 m34 m35 m36 m37 m38 m39 m40 m41 m42 : Nat) (s_thrown s_taped s_size s_outSize s_kind s_value s_begin s_end s_failed s_isProgram s_half s_signs s_stacked s_name s_shift s_statements s_ifs s_whiles s_variants s_open s_isMade s_conditions s_kept s_tops s_used s_looked s_rows s_firstRow s_isBroken s_atoms : Int32) (fr q : Nat) (sf wt wf : Nat → Nat) (kp : Nat → Int32) (sz : Nat) (hf : fml kp fr q) (hq : fr + q ≤ 30000) : Met l y_Model_measure (xws (.code y_Model_measure b_Model_measure 9 none)) ({ frames := 20, cells := 0, slots := 0, locals := 800 }) (va_Pc [.ref m0, .int (nI fr), .int (nI q)] (xo D ax [(m0, .inr (11, [.int s_thrown, .int s_taped, .ref m1, .int s_size, .int s_outSize, .ref m2, .int s_kind, .int s_value, .int s_begin, .int s_end, .int s_failed, .ref m3, .ref m4, .ref m5, .int s_isProgram, .int s_half, .ref m6, .ref m7, .ref m8, .ref m9, .ref m10, .ref m11, .ref m12, .ref m13, .ref m14, .ref m15, .ref m16, .ref m17, .ref m18, .ref m19, .ref m20, .int s_signs, .ref m21, .int s_stacked, .ref m22, .int s_name, .int s_shift, .int s_statements, .int s_ifs, .int s_whiles, .int s_variants, .int s_open, .ref m23, .int s_isMade, .int s_conditions, .ref m24, .ref m25, .ref m26, .ref m27, .int s_kept, .ref m28, .int s_tops, .ref m29, .int s_used, .ref m30, .ref m31, .int s_looked, .int s_rows, .int s_firstRow, .ref m32, .ref m33, .ref m34, .ref m35, .ref m36, .ref m37, .ref m38, .ref m39, .ref m40, .int s_isBroken, .ref m41, .int s_atoms, .ref m42])), (m28, .inl (ax 0, 180000, .inl kp)), (m32, .inl (ax 0, 30000, .inl (fun j => nI (sf j)))), (m33, .inl (ax 0, 30000, .inl (fun j => nI (wt j)))), (m34, .inl (ax 0, 30000, .inl (fun j => nI (wf j))))] sz)) ((va_Qv (fun (u : Nat → Nat) => True) (fun (u : Nat → Nat) (t9 : State) => ∃ xsf : Nat → Nat, ∃ xwt : Nat → Nat, ∃ xwf : Nat → Nat, (mea kp fr q xsf xwt xwf) ∧ (szs kp fr q xsf) ∧ (szA kp fr q xsf) ∧ (rwQ8 (sgl kp (6 * fr) q) q xsf xwt xwf) ∧ va_P D classes [(m0, .inr (11, [.int s_thrown, .int s_taped, .ref m1, .int s_size, .int s_outSize, .ref m2, .int s_kind, .int s_value, .int s_begin, .int s_end, .int s_failed, .ref m3, .ref m4, .ref m5, .int s_isProgram, .int s_half, .ref m6, .ref m7, .ref m8, .ref m9, .ref m10, .ref m11, .ref m12, .ref m13, .ref m14, .ref m15, .ref m16, .ref m17, .ref m18, .ref m19, .ref m20, .int s_signs, .ref m21, .int s_stacked, .ref m22, .int s_name, .int s_shift, .int s_statements, .int s_ifs, .int s_whiles, .int s_variants, .int s_open, .ref m23, .int s_isMade, .int s_conditions, .ref m24, .ref m25, .ref m26, .ref m27, .int s_kept, .ref m28, .int s_tops, .ref m29, .int s_used, .ref m30, .ref m31, .int s_looked, .int s_rows, .int s_firstRow, .ref m32, .ref m33, .ref m34, .ref m35, .ref m36, .ref m37, .ref m38, .ref m39, .ref m40, .int s_isBroken, .ref m41, .int s_atoms, .ref m42])), (m28, .inl (ax 0, 180000, .inl kp)), (m32, .inl (ax 0, 30000, .inl (fun j => nI (xsf j)))), (m33, .inl (ax 0, 30000, .inl (fun j => nI (xwt j)))), (m34, .inl (ax 0, 30000, .inl (fun j => nI (xwf j))))] t9.heap ∧ va_D (va_A [(m0, .inr (11, [.int s_thrown, .int s_taped, .ref m1, .int s_size, .int s_outSize, .ref m2, .int s_kind, .int s_value, .int s_begin, .int s_end, .int s_failed, .ref m3, .ref m4, .ref m5, .int s_isProgram, .int s_half, .ref m6, .ref m7, .ref m8, .ref m9, .ref m10, .ref m11, .ref m12, .ref m13, .ref m14, .ref m15, .ref m16, .ref m17, .ref m18, .ref m19, .ref m20, .int s_signs, .ref m21, .int s_stacked, .ref m22, .int s_name, .int s_shift, .int s_statements, .int s_ifs, .int s_whiles, .int s_variants, .int s_open, .ref m23, .int s_isMade, .int s_conditions, .ref m24, .ref m25, .ref m26, .ref m27, .int s_kept, .ref m28, .int s_tops, .ref m29, .int s_used, .ref m30, .ref m31, .int s_looked, .int s_rows, .int s_firstRow, .ref m32, .ref m33, .ref m34, .ref m35, .ref m36, .ref m37, .ref m38, .ref m39, .ref m40, .int s_isBroken, .ref m41, .int s_atoms, .ref m42])), (m28, .inl (ax 0, 180000, .inl kp)), (m32, .inl (ax 0, 30000, .inl (fun j => nI (sf j)))), (m33, .inl (ax 0, 30000, .inl (fun j => nI (wt j)))), (m34, .inl (ax 0, 30000, .inl (fun j => nI (wf j))))] sz) [(m0, .inr (11, [.int s_thrown, .int s_taped, .ref m1, .int s_size, .int s_outSize, .ref m2, .int s_kind, .int s_value, .int s_begin, .int s_end, .int s_failed, .ref m3, .ref m4, .ref m5, .int s_isProgram, .int s_half, .ref m6, .ref m7, .ref m8, .ref m9, .ref m10, .ref m11, .ref m12, .ref m13, .ref m14, .ref m15, .ref m16, .ref m17, .ref m18, .ref m19, .ref m20, .int s_signs, .ref m21, .int s_stacked, .ref m22, .int s_name, .int s_shift, .int s_statements, .int s_ifs, .int s_whiles, .int s_variants, .int s_open, .ref m23, .int s_isMade, .int s_conditions, .ref m24, .ref m25, .ref m26, .ref m27, .int s_kept, .ref m28, .int s_tops, .ref m29, .int s_used, .ref m30, .ref m31, .int s_looked, .int s_rows, .int s_firstRow, .ref m32, .ref m33, .ref m34, .ref m35, .ref m36, .ref m37, .ref m38, .ref m39, .ref m40, .int s_isBroken, .ref m41, .int s_atoms, .ref m42])), (m28, .inl (ax 0, 180000, .inl kp)), (m32, .inl (ax 0, 30000, .inl (fun j => nI (xsf j)))), (m33, .inl (ax 0, 30000, .inl (fun j => nI (xwt j)))), (m34, .inl (ax 0, 30000, .inl (fun j => nI (xwf j))))]) (va_A [(m0, .inr (11, [.int s_thrown, .int s_taped, .ref m1, .int s_size, .int s_outSize, .ref m2, .int s_kind, .int s_value, .int s_begin, .int s_end, .int s_failed, .ref m3, .ref m4, .ref m5, .int s_isProgram, .int s_half, .ref m6, .ref m7, .ref m8, .ref m9, .ref m10, .ref m11, .ref m12, .ref m13, .ref m14, .ref m15, .ref m16, .ref m17, .ref m18, .ref m19, .ref m20, .int s_signs, .ref m21, .int s_stacked, .ref m22, .int s_name, .int s_shift, .int s_statements, .int s_ifs, .int s_whiles, .int s_variants, .int s_open, .ref m23, .int s_isMade, .int s_conditions, .ref m24, .ref m25, .ref m26, .ref m27, .int s_kept, .ref m28, .int s_tops, .ref m29, .int s_used, .ref m30, .ref m31, .int s_looked, .int s_rows, .int s_firstRow, .ref m32, .ref m33, .ref m34, .ref m35, .ref m36, .ref m37, .ref m38, .ref m39, .ref m40, .int s_isBroken, .ref m41, .int s_atoms, .ref m42])), (m28, .inl (ax 0, 180000, .inl kp)), (m32, .inl (ax 0, 30000, .inl (fun j => nI (sf j)))), (m33, .inl (ax 0, 30000, .inl (fun j => nI (wt j)))), (m34, .inl (ax 0, 30000, .inl (fun j => nI (wf j))))] sz))) 0 0 (va_A [(m0, .inr (11, [.int s_thrown, .int s_taped, .ref m1, .int s_size, .int s_outSize, .ref m2, .int s_kind, .int s_value, .int s_begin, .int s_end, .int s_failed, .ref m3, .ref m4, .ref m5, .int s_isProgram, .int s_half, .ref m6, .ref m7, .ref m8, .ref m9, .ref m10, .ref m11, .ref m12, .ref m13, .ref m14, .ref m15, .ref m16, .ref m17, .ref m18, .ref m19, .ref m20, .int s_signs, .ref m21, .int s_stacked, .ref m22, .int s_name, .int s_shift, .int s_statements, .int s_ifs, .int s_whiles, .int s_variants, .int s_open, .ref m23, .int s_isMade, .int s_conditions, .ref m24, .ref m25, .ref m26, .ref m27, .int s_kept, .ref m28, .int s_tops, .ref m29, .int s_used, .ref m30, .ref m31, .int s_looked, .int s_rows, .int s_firstRow, .ref m32, .ref m33, .ref m34, .ref m35, .ref m36, .ref m37, .ref m38, .ref m39, .ref m40, .int s_isBroken, .ref m41, .int s_atoms, .ref m42])), (m28, .inl (ax 0, 180000, .inl kp)), (m32, .inl (ax 0, 30000, .inl (fun j => nI (sf j)))), (m33, .inl (ax 0, 30000, .inl (fun j => nI (wt j)))), (m34, .inl (ax 0, 30000, .inl (fun j => nI (wf j))))] sz) := by
  refine Met.ofW (cc := b_Model_measure) (maxL := 9) (ret := none) (by decide) rfl ?_
  intro p e s m args below meth c s₁ B hml hv
  obtain ⟨rfl, hsz, hP, hK, hD0⟩ := hv
  have hx := B.exec
  have hb := B.bytes
  have hr := B.returns
  have hts := xw_hts B.pre
  have hown : s.vm.findClass R_Model = some m.cls := findClass_of_methodNamed B.named
  have hlocks := B.notSynchronized
  subst hsz
  have hD := hD0.self (sz := s.heap.size)
  have hN := xz_entry hP
  generalize hAe : va_A [(m0, .inr (11, [.int s_thrown, .int s_taped, .ref m1, .int s_size, .int s_outSize, .ref m2, .int s_kind, .int s_value, .int s_begin, .int s_end, .int s_failed, .ref m3, .ref m4, .ref m5, .int s_isProgram, .int s_half, .ref m6, .ref m7, .ref m8, .ref m9, .ref m10, .ref m11, .ref m12, .ref m13, .ref m14, .ref m15, .ref m16, .ref m17, .ref m18, .ref m19, .ref m20, .int s_signs, .ref m21, .int s_stacked, .ref m22, .int s_name, .int s_shift, .int s_statements, .int s_ifs, .int s_whiles, .int s_variants, .int s_open, .ref m23, .int s_isMade, .int s_conditions, .ref m24, .ref m25, .ref m26, .ref m27, .int s_kept, .ref m28, .int s_tops, .ref m29, .int s_used, .ref m30, .ref m31, .int s_looked, .int s_rows, .int s_firstRow, .ref m32, .ref m33, .ref m34, .ref m35, .ref m36, .ref m37, .ref m38, .ref m39, .ref m40, .int s_isBroken, .ref m41, .int s_atoms, .ref m42])), (m28, .inl (ax 0, 180000, .inl kp)), (m32, .inl (ax 0, 30000, .inl (fun j => nI (sf j)))), (m33, .inl (ax 0, 30000, .inl (fun j => nI (wt j)))), (m34, .inl (ax 0, 30000, .inl (fun j => nI (wf j))))] s.heap.size = A at hD hN ⊢
  have hA : ∀ q : Nat, s.heap.size ≤ q → A q := fun q h => by rw [← hAe]; exact Or.inr h
  have hS : va_S A s.heap s.heap [] := va_S.rf
  have hl0 := lv_entry ([.ref m0, .int (nI fr), .int (nI q)]) (n := 9) (Nat.le_of_ble_eq_true rfl)
  rw [lg_entry_eq]
  generalize (lg_sl ([.ref m0, .int (nI fr), .int (nI q)]) ++ List.replicate (9 - (lg_sl ([.ref m0, .int (nI fr), .int (nI q)])).length) Slot.unset).toArray = ls at hl0 ⊢
  have hl1 : lv_has ls 9 [(0, .ref m0), (1, .int (nI fr)), (2, .int (nI q))] := hl0
  refine xw_gen (fun Z9 hQe => ?_)
  refine lv_iconst (v := 0) hx hb d_Model_measure_0 (by decide) ?_
  refine lv_istore_n (lv' := [(3, .int 0), (0, .ref m0), (1, .int (nI fr)), (2, .int (nI q))]) hx hb d_Model_measure_1 rfl hl1 (by decide) rfl (fun ls hl2 => ?_)
  clear hl1; have hl1 := hl2; clear hl2
  suffices key_1 : ∀ (k : Nat) (k1 : Nat) (sf1 wt1 wf1 : Nat → Nat), q - k1 < k → k1 ≤ q → mea kp fr k1 sf1 wt1 wf1 → szs kp fr k1 sf1 → szA kp fr k1 sf1 → rwQ8 (sgl kp (6 * fr) q) k1 sf1 wt1 wf1 → ∀ (H : Heap) (locs : List Loc) (ls : Array Slot), va_P D classes [(m0, .inr (11, [.int s_thrown, .int s_taped, .ref m1, .int s_size, .int s_outSize, .ref m2, .int s_kind, .int s_value, .int s_begin, .int s_end, .int s_failed, .ref m3, .ref m4, .ref m5, .int s_isProgram, .int s_half, .ref m6, .ref m7, .ref m8, .ref m9, .ref m10, .ref m11, .ref m12, .ref m13, .ref m14, .ref m15, .ref m16, .ref m17, .ref m18, .ref m19, .ref m20, .int s_signs, .ref m21, .int s_stacked, .ref m22, .int s_name, .int s_shift, .int s_statements, .int s_ifs, .int s_whiles, .int s_variants, .int s_open, .ref m23, .int s_isMade, .int s_conditions, .ref m24, .ref m25, .ref m26, .ref m27, .int s_kept, .ref m28, .int s_tops, .ref m29, .int s_used, .ref m30, .ref m31, .int s_looked, .int s_rows, .int s_firstRow, .ref m32, .ref m33, .ref m34, .ref m35, .ref m36, .ref m37, .ref m38, .ref m39, .ref m40, .int s_isBroken, .ref m41, .int s_atoms, .ref m42])), (m28, .inl (ax 0, 180000, .inl kp)), (m32, .inl (ax 0, 30000, .inl (fun j => nI (sf1 j)))), (m33, .inl (ax 0, 30000, .inl (fun j => nI (wt1 j)))), (m34, .inl (ax 0, 30000, .inl (fun j => nI (wf1 j))))] H → va_D A [(m0, .inr (11, [.int s_thrown, .int s_taped, .ref m1, .int s_size, .int s_outSize, .ref m2, .int s_kind, .int s_value, .int s_begin, .int s_end, .int s_failed, .ref m3, .ref m4, .ref m5, .int s_isProgram, .int s_half, .ref m6, .ref m7, .ref m8, .ref m9, .ref m10, .ref m11, .ref m12, .ref m13, .ref m14, .ref m15, .ref m16, .ref m17, .ref m18, .ref m19, .ref m20, .int s_signs, .ref m21, .int s_stacked, .ref m22, .int s_name, .int s_shift, .int s_statements, .int s_ifs, .int s_whiles, .int s_variants, .int s_open, .ref m23, .int s_isMade, .int s_conditions, .ref m24, .ref m25, .ref m26, .ref m27, .int s_kept, .ref m28, .int s_tops, .ref m29, .int s_used, .ref m30, .ref m31, .int s_looked, .int s_rows, .int s_firstRow, .ref m32, .ref m33, .ref m34, .ref m35, .ref m36, .ref m37, .ref m38, .ref m39, .ref m40, .int s_isBroken, .ref m41, .int s_atoms, .ref m42])), (m28, .inl (ax 0, 180000, .inl kp)), (m32, .inl (ax 0, 30000, .inl (fun j => nI (sf1 j)))), (m33, .inl (ax 0, 30000, .inl (fun j => nI (wt1 j)))), (m34, .inl (ax 0, 30000, .inl (fun j => nI (wf1 j))))] → va_S A s.heap H locs → lv_has ls 9 [(0, .ref m0), (1, .int (nI fr)), (2, .int (nI q)), (3, .int (nI k1))] → W p l e (headSpec (xws (.code y_Model_measure b_Model_measure 9 none)) ({ frames := 20, cells := 0, slots := 0, locals := 800 })).room s m ([.ref m0, .int (nI fr), .int (nI q)] : List Value).toArray below meth c H locs 0 0 Z9 (F0 m 2 ls []) from key_1 (q - 0 + 1) 0 sf wt wf (Nat.lt_succ_self _) (by first | assumption | omega) (fun j hj => absurd hj (Nat.not_lt_zero _)) (fun j hj => absurd hj (Nat.not_lt_zero _)) (fun j hj => absurd hj (Nat.not_lt_zero _)) rwQ8_0 _ _ _ (hP) (hD) hS (lv_sub hl1 [1, 2, 3, 0] rfl)
  intro k_2
  induction k_2 with
  | zero =>
    intro k1 sf1 wt1 wf1 hk_4
    exact absurd hk_4 (Nat.not_lt_zero _)
  | succ k_2 ih_3 =>
    clear hP hD hS hl1
    intro k1 sf1 wt1 wf1 hk_4 hk1 hm1 hz1 ha1 hr1 H locs ls hP hD hS hl1
    refine lv_iload_n hx hb d_Model_measure_2 rfl (lv_at hl1 3 rfl) ?_
    refine lv_iload_n hx hb d_Model_measure_3 rfl (lv_at hl1 2 rfl) ?_
    refine lv_icmp_ge (tgt := 293) hx hb d_Model_measure_4 (by decide) (fun c_5 => ?_) (fun c_5 => ?_)
    · replace c_5 : q ≤ k1 := (nI_leI (a := q) (b := k1) (by first | exact Nat.lt_of_lt_of_le (by assumption) (by decide) | exact Nat.lt_of_le_of_lt (by assumption) (by decide) | omega) (by first | exact Nat.lt_of_lt_of_le (by assumption) (by decide) | exact Nat.lt_of_le_of_lt (by assumption) (by decide) | omega)).mp c_5
      have ekq : k1 = q := by omega
      rw [ekq] at hm1 hz1 ha1 hr1
      rw [← hQe]
      obtain ⟨hP9, hD9⟩ := xw_sub2 (wc := (fun (u : Nat → Nat) (xsf : Nat → Nat) (xwt : Nat → Nat) (xwf : Nat → Nat) => [(m0, .inr (11, [.int s_thrown, .int s_taped, .ref m1, .int s_size, .int s_outSize, .ref m2, .int s_kind, .int s_value, .int s_begin, .int s_end, .int s_failed, .ref m3, .ref m4, .ref m5, .int s_isProgram, .int s_half, .ref m6, .ref m7, .ref m8, .ref m9, .ref m10, .ref m11, .ref m12, .ref m13, .ref m14, .ref m15, .ref m16, .ref m17, .ref m18, .ref m19, .ref m20, .int s_signs, .ref m21, .int s_stacked, .ref m22, .int s_name, .int s_shift, .int s_statements, .int s_ifs, .int s_whiles, .int s_variants, .int s_open, .ref m23, .int s_isMade, .int s_conditions, .ref m24, .ref m25, .ref m26, .ref m27, .int s_kept, .ref m28, .int s_tops, .ref m29, .int s_used, .ref m30, .ref m31, .int s_looked, .int s_rows, .int s_firstRow, .ref m32, .ref m33, .ref m34, .ref m35, .ref m36, .ref m37, .ref m38, .ref m39, .ref m40, .int s_isBroken, .ref m41, .int s_atoms, .ref m42])), (m28, .inl (ax 0, 180000, .inl kp)), (m32, .inl (ax 0, 30000, .inl (fun j => nI (xsf j)))), (m33, .inl (ax 0, 30000, .inl (fun j => nI (xwt j)))), (m34, .inl (ax 0, 30000, .inl (fun j => nI (xwf j))))]) (ixn []) sf1 wt1 wf1) hP hD [0, 1, 2, 3, 4] (by decide) rfl
      have hex0 : mea kp fr q sf1 wt1 wf1 := (by assumption)
      have hex1 : szs kp fr q sf1 := (by assumption)
      have hex2 : szA kp fr q sf1 := (by assumption)
      have hex3 : rwQ8 (sgl kp (6 * fr) q) q sf1 wt1 wf1 := (by assumption)
      exact W.vret hx hb hr (fun t ht hW => ⟨⟨ixn [], rfl, trivial, ⟨sf1, wt1, wf1, hex0, hex1, hex2, hex3, by rw [ht]; exact hP9, hD9⟩⟩, hS.F ht⟩) hS.2.2 d_Model_measure_293
    · replace c_5 : ¬ q ≤ k1 := fun hq9 => c_5 ((nI_leI (a := q) (b := k1) (by first | exact Nat.lt_of_lt_of_le (by assumption) (by decide) | exact Nat.lt_of_le_of_lt (by assumption) (by decide) | omega) (by first | exact Nat.lt_of_lt_of_le (by assumption) (by decide) | exact Nat.lt_of_le_of_lt (by assumption) (by decide) | omega)).mpr hq9)
      have hk := hf.1 k1 (by first | assumption | omega)
      have hle := hgt_le (f := kp) (b := 6 * fr) k1
      refine lv_aload_n hx hb d_Model_measure_7 rfl (lv_at hl1 0 rfl) ?_
      refine va_get (D := D) (ci := 11) (v := .ref m28) (C := R_Model) (T := F_Model) (N := 72) hx hb hts i_Model hown hK.1 hP 0 rfl rfl 50 (by decide) (hts _ wd_1086) (fun _ h9 => h9) rfl d_Model_measure_8 ?_
      refine lv_bipush (v := 6) hx hb d_Model_measure_11 (by decide) ?_
      refine lv_iload_n hx hb d_Model_measure_13 rfl (lv_at hl1 1 rfl) ?_
      refine lv_iload_n hx hb d_Model_measure_14 rfl (lv_at hl1 3 rfl) ?_
      refine lv_iadd hx hb d_Model_measure_15 ?_
      refine lv_topi (fun z_6 ez_6 => ?_)
      have ez_6 : z_6 = nI (fr + k1) := ez_6.trans (nI_add fr k1)
      subst ez_6
      refine lv_imul hx hb d_Model_measure_16 ?_
      refine lv_topi (fun z_7 ez_7 => ?_)
      have ez_7 : z_7 = nI (6 * (fr + k1)) := ez_7.trans (pk_mul 6 (fr + k1))
      subst ez_7
      refine va_iald hx hb hK.1 hP 1 0 rfl rfl (vp_in_nI (by first | assumption | omega) (by decide)) d_Model_measure_17 ?_
      refine W.eq (g2 := F0 m 18 ls [.int (kp (6 * (fr + k1)))]) (by rw [nI_clamp (by first | exact Nat.lt_of_lt_of_le (by assumption) (by decide) | exact Nat.lt_of_le_of_lt (by assumption) (by decide) | omega)]) ?_
      refine lv_istore (lv' := [(4, .int (kp (6 * (fr + k1)))), (0, .ref m0), (1, .int (nI fr)), (2, .int (nI q)), (3, .int (nI k1))]) hx hb d_Model_measure_18 hl1 (by decide) rfl (fun ls hl2 => ?_)
      clear hl1; have hl1 := hl2; clear hl2
      refine lv_iload hx hb d_Model_measure_20 (lv_at hl1 0 rfl) ?_
      refine lv_if_ne (tgt := 84) hx hb d_Model_measure_22 (by decide) (fun c_8 => ?_) (fun c_8 => ?_)
      · refine lv_iload hx hb d_Model_measure_84 (lv_at hl1 0 rfl) ?_
        refine lv_iconst (v := 1) hx hb d_Model_measure_86 (by decide) ?_
        refine lv_icmp_ne (tgt := 137) hx hb d_Model_measure_87 (by decide) (fun c_9 => ?_) (fun c_9 => ?_)
        · have h0 : ¬ kp (6 * fr + 6 * k1) = 0 := by rw [show 6 * fr + 6 * k1 = 6 * (fr + k1) by omega]; assumption
          have h1 : ¬ kp (6 * fr + 6 * k1) = 1 := by rw [show 6 * fr + 6 * k1 = 6 * (fr + k1) by omega]; assumption
          obtain ⟨hg2, hgx, hop⟩ := wf_bin hk h0 h1
          have hop8 : hid (kp (6 * fr + 6 * k1) = 2 ∨ kp (6 * fr + 6 * k1) = 3) := hop; clear hop
          obtain ⟨b1, b2, b3, b4, b5, b6, b7⟩ := hm1 (k1 - 1) (by first | assumption | omega)
          rw [show k1 - 1 + 1 = k1 by omega] at b2 b3
          have hle2 := hgt_le (f := kp) (b := 6 * fr) (k1 - sf1 (k1 - 1))
          refine lv_iload_n hx hb d_Model_measure_137 rfl (lv_at hl1 4 rfl) ?_
          refine lv_iconst (v := 1) hx hb d_Model_measure_138 (by decide) ?_
          refine lv_isub hx hb d_Model_measure_139 ?_
          refine lv_topi (fun z_10 ez_10 => ?_)
          have ez_10 : z_10 = nI (k1 - 1) := ez_10.trans (pk_sub (a := k1) (b := 1) (by first | assumption | omega))
          subst ez_10
          refine lv_istore (lv' := [(5, .int (nI (k1 - 1))), (4, .int (kp (6 * (fr + k1)))), (0, .ref m0), (1, .int (nI fr)), (2, .int (nI q)), (3, .int (nI k1))]) hx hb d_Model_measure_140 hl1 (by decide) rfl (fun ls hl2 => ?_)
          clear hl1; have hl1 := hl2; clear hl2
          refine lv_iload hx hb d_Model_measure_142 (lv_at hl1 0 rfl) ?_
          refine lv_aload_n hx hb d_Model_measure_144 rfl (lv_at hl1 2 rfl) ?_
          refine va_get (D := D) (ci := 11) (v := .ref m32) (C := R_Model) (T := F_Model) (N := 72) hx hb hts i_Model hown hK.1 hP 0 rfl rfl 59 (by decide) (hts _ wd_1095) (fun _ h9 => h9) rfl d_Model_measure_145 ?_
          refine lv_iload hx hb d_Model_measure_148 (lv_at hl1 0 rfl) ?_
          refine va_iald hx hb hK.1 hP 2 0 rfl rfl (vp_in_nI (by first | assumption | omega) (by decide)) d_Model_measure_150 ?_
          refine W.eq (g2 := F0 m 151 ls [.int (nI (sf1 (k1 - 1))), .int (nI (k1 - 1))]) (by rw [nI_clamp (by first | exact Nat.lt_of_lt_of_le (by assumption) (by decide) | exact Nat.lt_of_le_of_lt (by assumption) (by decide) | omega)]) ?_
          refine lv_isub hx hb d_Model_measure_151 ?_
          refine lv_topi (fun z_11 ez_11 => ?_)
          have ez_11 : z_11 = nI ((k1 - 1) - (sf1 (k1 - 1))) := ez_11.trans (pk_sub (a := k1 - 1) (b := sf1 (k1 - 1)) (by first | assumption | omega))
          subst ez_11
          refine lv_istore (lv' := [(6, .int (nI ((k1 - 1) - (sf1 (k1 - 1))))), (5, .int (nI (k1 - 1))), (4, .int (kp (6 * (fr + k1)))), (0, .ref m0), (1, .int (nI fr)), (2, .int (nI q)), (3, .int (nI k1))]) hx hb d_Model_measure_152 hl1 (by decide) rfl (fun ls hl2 => ?_)
          clear hl1; have hl1 := hl2; clear hl2
          obtain ⟨c1, c2, c3, c4, c5, c6, c7⟩ := hm1 ((k1 - 1) - (sf1 (k1 - 1))) (by first | assumption | omega)
          rw [show (k1 - 1) - (sf1 (k1 - 1)) + 1 = k1 - sf1 (k1 - 1) by omega] at c2 c3
          have d1 := Nat.mul_le_mul c4 b4
          have d2 := Nat.mul_le_mul c5 b5
          have d3 := Nat.mul_le_mul c6 b6
          have d4 := Nat.mul_le_mul c7 b7
          refine lv_aload_n hx hb d_Model_measure_154 rfl (lv_at hl1 3 rfl) ?_
          refine va_get (D := D) (ci := 11) (v := .ref m32) (C := R_Model) (T := F_Model) (N := 72) hx hb hts i_Model hown hK.1 hP 0 rfl rfl 59 (by decide) (hts _ wd_1095) (fun _ h9 => h9) rfl d_Model_measure_155 ?_
          refine lv_iload_n hx hb d_Model_measure_158 rfl (lv_at hl1 6 rfl) ?_
          refine lv_aload_n hx hb d_Model_measure_159 rfl (lv_at hl1 3 rfl) ?_
          refine va_get (D := D) (ci := 11) (v := .ref m32) (C := R_Model) (T := F_Model) (N := 72) hx hb hts i_Model hown hK.1 hP 0 rfl rfl 59 (by decide) (hts _ wd_1095) (fun _ h9 => h9) rfl d_Model_measure_160 ?_
          refine lv_iload hx hb d_Model_measure_163 (lv_at hl1 0 rfl) ?_
          refine va_iald hx hb hK.1 hP 2 0 rfl rfl (vp_in_nI (by first | assumption | omega) (by decide)) d_Model_measure_165 ?_
          refine W.eq (g2 := F0 m 166 ls [.int (nI (sf1 ((k1 - 1) - (sf1 (k1 - 1))))), .int (nI k1), .ref m32]) (by rw [nI_clamp (by first | exact Nat.lt_of_lt_of_le (by assumption) (by decide) | exact Nat.lt_of_le_of_lt (by assumption) (by decide) | omega)]) ?_
          refine lv_aload_n hx hb d_Model_measure_166 rfl (lv_at hl1 3 rfl) ?_
          refine va_get (D := D) (ci := 11) (v := .ref m32) (C := R_Model) (T := F_Model) (N := 72) hx hb hts i_Model hown hK.1 hP 0 rfl rfl 59 (by decide) (hts _ wd_1095) (fun _ h9 => h9) rfl d_Model_measure_167 ?_
          refine lv_iload hx hb d_Model_measure_170 (lv_at hl1 1 rfl) ?_
          refine va_iald hx hb hK.1 hP 2 0 rfl rfl (vp_in_nI (by first | assumption | omega) (by decide)) d_Model_measure_172 ?_
          refine W.eq (g2 := F0 m 173 ls [.int (nI (sf1 (k1 - 1))), .int (nI (sf1 ((k1 - 1) - (sf1 (k1 - 1))))), .int (nI k1), .ref m32]) (by rw [nI_clamp (by first | exact Nat.lt_of_lt_of_le (by assumption) (by decide) | exact Nat.lt_of_le_of_lt (by assumption) (by decide) | omega)]) ?_
          refine lv_iadd hx hb d_Model_measure_173 ?_
          refine lv_topi (fun z_12 ez_12 => ?_)
          have ez_12 : z_12 = nI (sf1 ((k1 - 1) - (sf1 (k1 - 1))) + sf1 (k1 - 1)) := ez_12.trans (nI_add (sf1 ((k1 - 1) - (sf1 (k1 - 1)))) (sf1 (k1 - 1)))
          subst ez_12
          refine lv_iconst (v := 1) hx hb d_Model_measure_174 (by decide) ?_
          refine lv_iadd hx hb d_Model_measure_175 ?_
          refine lv_topi (fun z_13 ez_13 => ?_)
          have ez_13 : z_13 = nI (sf1 ((k1 - 1) - (sf1 (k1 - 1))) + sf1 (k1 - 1) + 1) := ez_13.trans (nI_add (sf1 ((k1 - 1) - (sf1 (k1 - 1))) + sf1 (k1 - 1)) 1)
          subst ez_13
          refine va_iast hx hb hK.1 hP hD hS 2 0 rfl rfl (vp_in_nI (by first | assumption | omega) (by decide)) d_Model_measure_176 (fun H_14 locs hP1 hD1 hS1 => ?_)
          rw [nI_clamp (by first | exact Nat.lt_of_lt_of_le (by assumption) (by decide) | exact Nat.lt_of_le_of_lt (by assumption) (by decide) | omega)] at hP1 hD1
          rw [xf_sup sf1 k1 (sf1 ((k1 - 1) - (sf1 (k1 - 1))) + sf1 (k1 - 1) + 1)] at hP1 hD1
          clear hP hD hS
          have hS := hS1
          have hW7 : (fun w9 : va_W => va_P D classes w9 H_14 ∧ va_D A w9) [(m0, .inr (11, [.int s_thrown, .int s_taped, .ref m1, .int s_size, .int s_outSize, .ref m2, .int s_kind, .int s_value, .int s_begin, .int s_end, .int s_failed, .ref m3, .ref m4, .ref m5, .int s_isProgram, .int s_half, .ref m6, .ref m7, .ref m8, .ref m9, .ref m10, .ref m11, .ref m12, .ref m13, .ref m14, .ref m15, .ref m16, .ref m17, .ref m18, .ref m19, .ref m20, .int s_signs, .ref m21, .int s_stacked, .ref m22, .int s_name, .int s_shift, .int s_statements, .int s_ifs, .int s_whiles, .int s_variants, .int s_open, .ref m23, .int s_isMade, .int s_conditions, .ref m24, .ref m25, .ref m26, .ref m27, .int s_kept, .ref m28, .int s_tops, .ref m29, .int s_used, .ref m30, .ref m31, .int s_looked, .int s_rows, .int s_firstRow, .ref m32, .ref m33, .ref m34, .ref m35, .ref m36, .ref m37, .ref m38, .ref m39, .ref m40, .int s_isBroken, .ref m41, .int s_atoms, .ref m42])), (m28, .inl (ax 0, 180000, .inl kp)), (m32, .inl (ax 0, 30000, .inl (fun j => nI (sup sf1 k1 (sf1 ((k1 - 1) - (sf1 (k1 - 1))) + sf1 (k1 - 1) + 1) j)))), (m33, .inl (ax 0, 30000, .inl (fun j => nI (wt1 j)))), (m34, .inl (ax 0, 30000, .inl (fun j => nI (wf1 j))))] := ⟨hP1, hD1⟩
          obtain ⟨hP, hD⟩ := hW7
          clear hP1 hD1 hS1
          refine lv_aload_n hx hb d_Model_measure_177 rfl (lv_at hl1 3 rfl) ?_
          refine va_get (D := D) (ci := 11) (v := .ref m33) (C := R_Model) (T := F_Model) (N := 72) hx hb hts i_Model hown hK.1 hP 0 rfl rfl 60 (by decide) (hts _ wd_1096) (fun _ h9 => h9) rfl d_Model_measure_178 ?_
          refine lv_iload hx hb d_Model_measure_181 (lv_at hl1 0 rfl) ?_
          refine va_iald hx hb hK.1 hP 3 0 rfl rfl (vp_in_nI (by first | assumption | omega) (by decide)) d_Model_measure_183 ?_
          refine W.eq (g2 := F0 m 184 ls [.int (nI (wt1 ((k1 - 1) - (sf1 (k1 - 1)))))]) (by rw [nI_clamp (by first | exact Nat.lt_of_lt_of_le (by assumption) (by decide) | exact Nat.lt_of_le_of_lt (by assumption) (by decide) | omega)]) ?_
          refine lv_aload_n hx hb d_Model_measure_184 rfl (lv_at hl1 3 rfl) ?_
          refine va_get (D := D) (ci := 11) (v := .ref m33) (C := R_Model) (T := F_Model) (N := 72) hx hb hts i_Model hown hK.1 hP 0 rfl rfl 60 (by decide) (hts _ wd_1096) (fun _ h9 => h9) rfl d_Model_measure_185 ?_
          refine lv_iload hx hb d_Model_measure_188 (lv_at hl1 1 rfl) ?_
          refine va_iald hx hb hK.1 hP 3 0 rfl rfl (vp_in_nI (by first | assumption | omega) (by decide)) d_Model_measure_190 ?_
          refine W.eq (g2 := F0 m 191 ls [.int (nI (wt1 (k1 - 1))), .int (nI (wt1 ((k1 - 1) - (sf1 (k1 - 1)))))]) (by rw [nI_clamp (by first | exact Nat.lt_of_lt_of_le (by assumption) (by decide) | exact Nat.lt_of_le_of_lt (by assumption) (by decide) | omega)]) ?_
          refine lv_iadd hx hb d_Model_measure_191 ?_
          refine lv_topi (fun z_15 ez_15 => ?_)
          have ez_15 : z_15 = nI (wt1 ((k1 - 1) - (sf1 (k1 - 1))) + wt1 (k1 - 1)) := ez_15.trans (nI_add (wt1 ((k1 - 1) - (sf1 (k1 - 1)))) (wt1 (k1 - 1)))
          subst ez_15
          obtain ⟨hPc, hDc, hFc, hCs⟩ := xw_sub3 (wc := []) hP hD hS hA [] (by decide) rfl
          have hz := xz_of hN hS
          refine va_calli (va_runS (As := [.int (nI (wt1 ((k1 - 1) - (sf1 (k1 - 1))) + wt1 (k1 - 1)))]) (rest := []) ⟨hx, hb, hml, hown, hts⟩ (c_M_limit l D ax (wt1 ((k1 - 1) - (sf1 (k1 - 1))) + wt1 (k1 - 1)) H_14.size (by first | assumption | omega) (by first | assumption | omega)) (xcS (n := 1) hts wd_1513 wd_15 wd_1511 wd_1512 rfl rfl (by decide +kernel) ⟨Nat.le_of_ble_eq_true rfl, Nat.le_of_ble_eq_true rfl⟩) (xpS (As := [.int (nI (wt1 ((k1 - 1) - (sf1 (k1 - 1))) + wt1 (k1 - 1)))]) hPc hK hz hDc) rfl rfl hl1.1 rfl (lv_room (Nat.le_of_ble_eq_true rfl)) d_Model_measure_192 ⟨Nat.le_of_ble_eq_true rfl, Nat.le_of_ble_eq_true rfl⟩) hS (fun q _ h => hFc q h) hFc (fun r_18 u_16 t H_17 locs ht hvm hw hB hz1 hk1 hS1 => ?_)
          try dsimp only at hw
          obtain ⟨hw, hs_19, hs_20, hs_21⟩ := hw
          subst hw
          obtain ⟨hP1, hD1⟩ := hB
          rw [ht] at hP1
          have hjn := xw_join3 (wl := [(m0, .inr (11, [.int s_thrown, .int s_taped, .ref m1, .int s_size, .int s_outSize, .ref m2, .int s_kind, .int s_value, .int s_begin, .int s_end, .int s_failed, .ref m3, .ref m4, .ref m5, .int s_isProgram, .int s_half, .ref m6, .ref m7, .ref m8, .ref m9, .ref m10, .ref m11, .ref m12, .ref m13, .ref m14, .ref m15, .ref m16, .ref m17, .ref m18, .ref m19, .ref m20, .int s_signs, .ref m21, .int s_stacked, .ref m22, .int s_name, .int s_shift, .int s_statements, .int s_ifs, .int s_whiles, .int s_variants, .int s_open, .ref m23, .int s_isMade, .int s_conditions, .ref m24, .ref m25, .ref m26, .ref m27, .int s_kept, .ref m28, .int s_tops, .ref m29, .int s_used, .ref m30, .ref m31, .int s_looked, .int s_rows, .int s_firstRow, .ref m32, .ref m33, .ref m34, .ref m35, .ref m36, .ref m37, .ref m38, .ref m39, .ref m40, .int s_isBroken, .ref m41, .int s_atoms, .ref m42])), (m28, .inl (ax 0, 180000, .inl kp)), (m32, .inl (ax 0, 30000, .inl (fun j => nI (sup sf1 k1 (sf1 ((k1 - 1) - (sf1 (k1 - 1))) + sf1 (k1 - 1) + 1) j)))), (m33, .inl (ax 0, 30000, .inl (fun j => nI (wt1 j)))), (m34, .inl (ax 0, 30000, .inl (fun j => nI (wf1 j))))]) hP hD [] [0, 1, 2, 3, 4] hCs (by decide) (by decide) hk1 hFc hP1 hD1 rfl
          clear hP1 hD1
          clear hPc hDc hFc hCs hz hz1 hk1 ht hvm
          clear hP hD hS
          have hS := hS1
          obtain ⟨hP, hD⟩ := hjn
          clear hS1
          refine lv_istore (lv' := [(7, .int (nI (u_16 0))), (6, .int (nI ((k1 - 1) - (sf1 (k1 - 1))))), (5, .int (nI (k1 - 1))), (4, .int (kp (6 * (fr + k1)))), (0, .ref m0), (1, .int (nI fr)), (2, .int (nI q)), (3, .int (nI k1))]) hx hb d_Model_measure_195 hl1 (by decide) rfl (fun ls hl2 => ?_)
          clear hl1; have hl1 := hl2; clear hl2
          refine lv_aload_n hx hb d_Model_measure_197 rfl (lv_at hl1 4 rfl) ?_
          refine va_get (D := D) (ci := 11) (v := .ref m34) (C := R_Model) (T := F_Model) (N := 72) hx hb hts i_Model hown hK.1 hP 0 rfl rfl 61 (by decide) (hts _ wd_1097) (fun _ h9 => h9) rfl d_Model_measure_198 ?_
          refine lv_iload hx hb d_Model_measure_201 (lv_at hl1 1 rfl) ?_
          refine va_iald hx hb hK.1 hP 4 0 rfl rfl (vp_in_nI (by first | assumption | omega) (by decide)) d_Model_measure_203 ?_
          refine W.eq (g2 := F0 m 204 ls [.int (nI (wf1 ((k1 - 1) - (sf1 (k1 - 1)))))]) (by rw [nI_clamp (by first | exact Nat.lt_of_lt_of_le (by assumption) (by decide) | exact Nat.lt_of_le_of_lt (by assumption) (by decide) | omega)]) ?_
          refine lv_aload_n hx hb d_Model_measure_204 rfl (lv_at hl1 4 rfl) ?_
          refine va_get (D := D) (ci := 11) (v := .ref m34) (C := R_Model) (T := F_Model) (N := 72) hx hb hts i_Model hown hK.1 hP 0 rfl rfl 61 (by decide) (hts _ wd_1097) (fun _ h9 => h9) rfl d_Model_measure_205 ?_
          refine lv_iload hx hb d_Model_measure_208 (lv_at hl1 2 rfl) ?_
          refine va_iald hx hb hK.1 hP 4 0 rfl rfl (vp_in_nI (by first | assumption | omega) (by decide)) d_Model_measure_210 ?_
          refine W.eq (g2 := F0 m 211 ls [.int (nI (wf1 (k1 - 1))), .int (nI (wf1 ((k1 - 1) - (sf1 (k1 - 1)))))]) (by rw [nI_clamp (by first | exact Nat.lt_of_lt_of_le (by assumption) (by decide) | exact Nat.lt_of_le_of_lt (by assumption) (by decide) | omega)]) ?_
          refine lv_iadd hx hb d_Model_measure_211 ?_
          refine lv_topi (fun z_22 ez_22 => ?_)
          have ez_22 : z_22 = nI (wf1 ((k1 - 1) - (sf1 (k1 - 1))) + wf1 (k1 - 1)) := ez_22.trans (nI_add (wf1 ((k1 - 1) - (sf1 (k1 - 1)))) (wf1 (k1 - 1)))
          subst ez_22
          obtain ⟨hPc, hDc, hFc, hCs⟩ := xw_sub3 (wc := []) hP hD hS hA [] (by decide) rfl
          have hz := xz_of hN hS
          refine va_calli (va_runS (As := [.int (nI (wf1 ((k1 - 1) - (sf1 (k1 - 1))) + wf1 (k1 - 1)))]) (rest := []) ⟨hx, hb, hml, hown, hts⟩ (c_M_limit l D ax (wf1 ((k1 - 1) - (sf1 (k1 - 1))) + wf1 (k1 - 1)) H_17.size (by first | assumption | omega) (by first | assumption | omega)) (xcS (n := 1) hts wd_1513 wd_15 wd_1511 wd_1512 rfl rfl (by decide +kernel) ⟨Nat.le_of_ble_eq_true rfl, Nat.le_of_ble_eq_true rfl⟩) (xpS (As := [.int (nI (wf1 ((k1 - 1) - (sf1 (k1 - 1))) + wf1 (k1 - 1)))]) hPc hK hz hDc) rfl rfl hl1.1 rfl (lv_room (Nat.le_of_ble_eq_true rfl)) d_Model_measure_212 ⟨Nat.le_of_ble_eq_true rfl, Nat.le_of_ble_eq_true rfl⟩) hS (fun q _ h => hFc q h) hFc (fun r_25 u_23 t H_24 locs ht hvm hw hB hz1 hk1 hS1 => ?_)
          try dsimp only at hw
          obtain ⟨hw, hs_26, hs_27, hs_28⟩ := hw
          subst hw
          obtain ⟨hP1, hD1⟩ := hB
          rw [ht] at hP1
          have hjn := xw_join3 (wl := [(m0, .inr (11, [.int s_thrown, .int s_taped, .ref m1, .int s_size, .int s_outSize, .ref m2, .int s_kind, .int s_value, .int s_begin, .int s_end, .int s_failed, .ref m3, .ref m4, .ref m5, .int s_isProgram, .int s_half, .ref m6, .ref m7, .ref m8, .ref m9, .ref m10, .ref m11, .ref m12, .ref m13, .ref m14, .ref m15, .ref m16, .ref m17, .ref m18, .ref m19, .ref m20, .int s_signs, .ref m21, .int s_stacked, .ref m22, .int s_name, .int s_shift, .int s_statements, .int s_ifs, .int s_whiles, .int s_variants, .int s_open, .ref m23, .int s_isMade, .int s_conditions, .ref m24, .ref m25, .ref m26, .ref m27, .int s_kept, .ref m28, .int s_tops, .ref m29, .int s_used, .ref m30, .ref m31, .int s_looked, .int s_rows, .int s_firstRow, .ref m32, .ref m33, .ref m34, .ref m35, .ref m36, .ref m37, .ref m38, .ref m39, .ref m40, .int s_isBroken, .ref m41, .int s_atoms, .ref m42])), (m28, .inl (ax 0, 180000, .inl kp)), (m32, .inl (ax 0, 30000, .inl (fun j => nI (sup sf1 k1 (sf1 ((k1 - 1) - (sf1 (k1 - 1))) + sf1 (k1 - 1) + 1) j)))), (m33, .inl (ax 0, 30000, .inl (fun j => nI (wt1 j)))), (m34, .inl (ax 0, 30000, .inl (fun j => nI (wf1 j))))]) hP hD [] [0, 1, 2, 3, 4] hCs (by decide) (by decide) hk1 hFc hP1 hD1 rfl
          clear hP1 hD1
          clear hPc hDc hFc hCs hz hz1 hk1 ht hvm
          clear hP hD hS
          have hS := hS1
          obtain ⟨hP, hD⟩ := hjn
          clear hS1
          refine lv_istore (lv' := [(8, .int (nI (u_23 0))), (7, .int (nI (u_16 0))), (6, .int (nI ((k1 - 1) - (sf1 (k1 - 1))))), (5, .int (nI (k1 - 1))), (4, .int (kp (6 * (fr + k1)))), (0, .ref m0), (1, .int (nI fr)), (2, .int (nI q)), (3, .int (nI k1))]) hx hb d_Model_measure_215 hl1 (by decide) rfl (fun ls hl2 => ?_)
          clear hl1; have hl1 := hl2; clear hl2
          refine lv_aload_n hx hb d_Model_measure_217 rfl (lv_at hl1 5 rfl) ?_
          refine va_get (D := D) (ci := 11) (v := .ref m33) (C := R_Model) (T := F_Model) (N := 72) hx hb hts i_Model hown hK.1 hP 0 rfl rfl 60 (by decide) (hts _ wd_1096) (fun _ h9 => h9) rfl d_Model_measure_218 ?_
          refine lv_iload_n hx hb d_Model_measure_221 rfl (lv_at hl1 8 rfl) ?_
          refine lv_iload hx hb d_Model_measure_222 (lv_at hl1 4 rfl) ?_
          refine lv_iconst (v := 2) hx hb d_Model_measure_224 (by decide) ?_
          refine lv_icmp_ne (tgt := 249) hx hb d_Model_measure_225 (by decide) (fun c_29 => ?_) (fun c_29 => ?_)
          · refine lv_iload hx hb d_Model_measure_249 (lv_at hl1 1 rfl) ?_
            refine va_iast hx hb hK.1 hP hD hS 3 0 rfl rfl (vp_in_nI (by first | assumption | omega) (by decide)) d_Model_measure_251 (fun H_30 locs hP1 hD1 hS1 => ?_)
            rw [nI_clamp (by first | exact Nat.lt_of_lt_of_le (by assumption) (by decide) | exact Nat.lt_of_le_of_lt (by assumption) (by decide) | omega)] at hP1 hD1
            rw [xf_sup wt1 k1 (u_16 0)] at hP1 hD1
            clear hP hD hS
            have hS := hS1
            have hW7 : (fun w9 : va_W => va_P D classes w9 H_30 ∧ va_D A w9) [(m0, .inr (11, [.int s_thrown, .int s_taped, .ref m1, .int s_size, .int s_outSize, .ref m2, .int s_kind, .int s_value, .int s_begin, .int s_end, .int s_failed, .ref m3, .ref m4, .ref m5, .int s_isProgram, .int s_half, .ref m6, .ref m7, .ref m8, .ref m9, .ref m10, .ref m11, .ref m12, .ref m13, .ref m14, .ref m15, .ref m16, .ref m17, .ref m18, .ref m19, .ref m20, .int s_signs, .ref m21, .int s_stacked, .ref m22, .int s_name, .int s_shift, .int s_statements, .int s_ifs, .int s_whiles, .int s_variants, .int s_open, .ref m23, .int s_isMade, .int s_conditions, .ref m24, .ref m25, .ref m26, .ref m27, .int s_kept, .ref m28, .int s_tops, .ref m29, .int s_used, .ref m30, .ref m31, .int s_looked, .int s_rows, .int s_firstRow, .ref m32, .ref m33, .ref m34, .ref m35, .ref m36, .ref m37, .ref m38, .ref m39, .ref m40, .int s_isBroken, .ref m41, .int s_atoms, .ref m42])), (m28, .inl (ax 0, 180000, .inl kp)), (m32, .inl (ax 0, 30000, .inl (fun j => nI (sup sf1 k1 (sf1 ((k1 - 1) - (sf1 (k1 - 1))) + sf1 (k1 - 1) + 1) j)))), (m33, .inl (ax 0, 30000, .inl (fun j => nI (sup wt1 k1 (u_16 0) j)))), (m34, .inl (ax 0, 30000, .inl (fun j => nI (wf1 j))))] := ⟨hP1, hD1⟩
            obtain ⟨hP, hD⟩ := hW7
            clear hP1 hD1 hS1
            refine lv_aload_n hx hb d_Model_measure_252 rfl (lv_at hl1 5 rfl) ?_
            refine va_get (D := D) (ci := 11) (v := .ref m34) (C := R_Model) (T := F_Model) (N := 72) hx hb hts i_Model hown hK.1 hP 0 rfl rfl 61 (by decide) (hts _ wd_1097) (fun _ h9 => h9) rfl d_Model_measure_253 ?_
            refine lv_iload_n hx hb d_Model_measure_256 rfl (lv_at hl1 8 rfl) ?_
            refine lv_iload hx hb d_Model_measure_257 (lv_at hl1 4 rfl) ?_
            refine lv_iconst (v := 3) hx hb d_Model_measure_259 (by decide) ?_
            refine lv_icmp_ne (tgt := 284) hx hb d_Model_measure_260 (by decide) (fun c_31 => ?_) (fun c_31 => ?_)
            · refine lv_iload hx hb d_Model_measure_284 (lv_at hl1 0 rfl) ?_
              refine va_iast hx hb hK.1 hP hD hS 4 0 rfl rfl (vp_in_nI (by first | assumption | omega) (by decide)) d_Model_measure_286 (fun H_32 locs hP1 hD1 hS1 => ?_)
              rw [nI_clamp (by first | exact Nat.lt_of_lt_of_le (by assumption) (by decide) | exact Nat.lt_of_le_of_lt (by assumption) (by decide) | omega)] at hP1 hD1
              rw [xf_sup wf1 k1 (u_23 0)] at hP1 hD1
              clear hP hD hS
              have hS := hS1
              have hW7 : (fun w9 : va_W => va_P D classes w9 H_32 ∧ va_D A w9) [(m0, .inr (11, [.int s_thrown, .int s_taped, .ref m1, .int s_size, .int s_outSize, .ref m2, .int s_kind, .int s_value, .int s_begin, .int s_end, .int s_failed, .ref m3, .ref m4, .ref m5, .int s_isProgram, .int s_half, .ref m6, .ref m7, .ref m8, .ref m9, .ref m10, .ref m11, .ref m12, .ref m13, .ref m14, .ref m15, .ref m16, .ref m17, .ref m18, .ref m19, .ref m20, .int s_signs, .ref m21, .int s_stacked, .ref m22, .int s_name, .int s_shift, .int s_statements, .int s_ifs, .int s_whiles, .int s_variants, .int s_open, .ref m23, .int s_isMade, .int s_conditions, .ref m24, .ref m25, .ref m26, .ref m27, .int s_kept, .ref m28, .int s_tops, .ref m29, .int s_used, .ref m30, .ref m31, .int s_looked, .int s_rows, .int s_firstRow, .ref m32, .ref m33, .ref m34, .ref m35, .ref m36, .ref m37, .ref m38, .ref m39, .ref m40, .int s_isBroken, .ref m41, .int s_atoms, .ref m42])), (m28, .inl (ax 0, 180000, .inl kp)), (m32, .inl (ax 0, 30000, .inl (fun j => nI (sup sf1 k1 (sf1 ((k1 - 1) - (sf1 (k1 - 1))) + sf1 (k1 - 1) + 1) j)))), (m33, .inl (ax 0, 30000, .inl (fun j => nI (sup wt1 k1 (u_16 0) j)))), (m34, .inl (ax 0, 30000, .inl (fun j => nI (sup wf1 k1 (u_23 0) j))))] := ⟨hP1, hD1⟩
              obtain ⟨hP, hD⟩ := hW7
              clear hP1 hD1 hS1
              refine lv_iinc (v := nI (k1 + 1)) (lv' := [(3, .int (nI (k1 + 1))), (8, .int (nI (u_23 0))), (7, .int (nI (u_16 0))), (6, .int (nI ((k1 - 1) - (sf1 (k1 - 1))))), (5, .int (nI (k1 - 1))), (4, .int (kp (6 * (fr + k1)))), (0, .ref m0), (1, .int (nI fr)), (2, .int (nI q))]) hx hb d_Model_measure_287 hl1 (k := 8) rfl (nI_add k1 1) (by decide) rfl (fun ls hl2 => ?_)
              clear hl1; have hl1 := hl2; clear hl2
              refine lv_goto (tgt := 2) hx hb d_Model_measure_290 (by decide) ?_
              exact ih_3 (k1 + 1) (sup sf1 k1 (sf1 ((k1 - 1) - (sf1 (k1 - 1))) + sf1 (k1 - 1) + 1)) (sup wt1 k1 (u_16 0)) (sup wf1 k1 (u_23 0)) (by first | assumption | omega) (by first | assumption | omega) (hm1.step (by first | assumption | omega) (by first | assumption | omega) (by rw [show k1 + 1 - (sf1 ((k1 - 1) - (sf1 (k1 - 1))) + sf1 (k1 - 1) + 1) = k1 - sf1 (k1 - 1) - sf1 ((k1 - 1) - (sf1 (k1 - 1))) by omega]; omega) (by first | assumption | omega) (by first | assumption | omega) (by first | assumption | omega) (by first | assumption | omega)) (hz1.step (fun q9 => absurd q9 h1) (fun _ _ => ⟨by omega, rfl⟩)) (ha1.step (fun q9 => absurd q9 h0)) (by first | exact rwQ8_and hr1 (by first | assumption | omega) (by first | assumption | omega) (by rw [show 6 * fr + 6 * k1 = 6 * (fr + k1) by omega]; assumption) rfl rfl (by first | exact hs_21 | exact hs_28) (by first | exact hs_21 | exact hs_28) | exact rwQ8_or hr1 (by first | assumption | omega) (by first | assumption | omega) (by rw [show 6 * fr + 6 * k1 = 6 * (fr + k1) by omega]; assumption) rfl rfl (by first | exact hs_21 | exact hs_28) (by first | exact hs_21 | exact hs_28) | exact absurd ((show kp (6 * (fr + k1)) = 2 by assumption).symm.trans (show kp (6 * (fr + k1)) = 3 by assumption)) (by decide) | (exfalso; rcases hop8 with q9 | q9 <;> rw [show 6 * fr + 6 * k1 = 6 * (fr + k1) by omega] at q9 <;> exact absurd q9 (by assumption))) _ _ _ (hP.sub [0, 1, 2, 3, 4] rfl) (hD.sub [0, 1, 2, 3, 4] (by decide) rfl) hS (lv_sub hl1 [6, 7, 8, 0] rfl)
            · refine lv_aload_n hx hb d_Model_measure_263 rfl (lv_at hl1 5 rfl) ?_
              refine va_get (D := D) (ci := 11) (v := .ref m34) (C := R_Model) (T := F_Model) (N := 72) hx hb hts i_Model hown hK.1 hP 0 rfl rfl 61 (by decide) (hts _ wd_1097) (fun _ h9 => h9) rfl d_Model_measure_264 ?_
              refine lv_iload hx hb d_Model_measure_267 (lv_at hl1 2 rfl) ?_
              refine va_iald hx hb hK.1 hP 4 0 rfl rfl (vp_in_nI (by first | assumption | omega) (by decide)) d_Model_measure_269 ?_
              refine W.eq (g2 := F0 m 270 ls [.int (nI (wf1 ((k1 - 1) - (sf1 (k1 - 1))))), .int (nI k1), .ref m34]) (by rw [nI_clamp (by first | exact Nat.lt_of_lt_of_le (by assumption) (by decide) | exact Nat.lt_of_le_of_lt (by assumption) (by decide) | omega)]) ?_
              refine lv_aload_n hx hb d_Model_measure_270 rfl (lv_at hl1 5 rfl) ?_
              refine va_get (D := D) (ci := 11) (v := .ref m34) (C := R_Model) (T := F_Model) (N := 72) hx hb hts i_Model hown hK.1 hP 0 rfl rfl 61 (by decide) (hts _ wd_1097) (fun _ h9 => h9) rfl d_Model_measure_271 ?_
              refine lv_iload hx hb d_Model_measure_274 (lv_at hl1 3 rfl) ?_
              refine va_iald hx hb hK.1 hP 4 0 rfl rfl (vp_in_nI (by first | assumption | omega) (by decide)) d_Model_measure_276 ?_
              refine W.eq (g2 := F0 m 277 ls [.int (nI (wf1 (k1 - 1))), .int (nI (wf1 ((k1 - 1) - (sf1 (k1 - 1))))), .int (nI k1), .ref m34]) (by rw [nI_clamp (by first | exact Nat.lt_of_lt_of_le (by assumption) (by decide) | exact Nat.lt_of_le_of_lt (by assumption) (by decide) | omega)]) ?_
              refine lv_imul hx hb d_Model_measure_277 ?_
              refine lv_topi (fun z_33 ez_33 => ?_)
              have ez_33 : z_33 = nI ((wf1 ((k1 - 1) - (sf1 (k1 - 1)))) * (wf1 (k1 - 1))) := ez_33.trans (pk_mul (wf1 ((k1 - 1) - (sf1 (k1 - 1)))) (wf1 (k1 - 1)))
              subst ez_33
              obtain ⟨hPc, hDc, hFc, hCs⟩ := xw_sub3 (wc := []) hP hD hS hA [] (by decide) rfl
              have hz := xz_of hN hS
              refine va_calli (va_runS (As := [.int (nI ((wf1 ((k1 - 1) - (sf1 (k1 - 1)))) * (wf1 (k1 - 1))))]) (rest := [.int (nI k1), .ref m34]) ⟨hx, hb, hml, hown, hts⟩ (c_M_limit l D ax ((wf1 ((k1 - 1) - (sf1 (k1 - 1)))) * (wf1 (k1 - 1))) H_30.size (by first | assumption | omega) (by first | assumption | omega)) (xcS (n := 1) hts wd_1513 wd_15 wd_1511 wd_1512 rfl rfl (by decide +kernel) ⟨Nat.le_of_ble_eq_true rfl, Nat.le_of_ble_eq_true rfl⟩) (xpS (As := [.int (nI ((wf1 ((k1 - 1) - (sf1 (k1 - 1)))) * (wf1 (k1 - 1))))]) hPc hK hz hDc) rfl rfl hl1.1 rfl (lv_room (Nat.le_of_ble_eq_true rfl)) d_Model_measure_278 ⟨Nat.le_of_ble_eq_true rfl, Nat.le_of_ble_eq_true rfl⟩) hS (fun q _ h => hFc q h) hFc (fun r_36 u_34 t H_35 locs ht hvm hw hB hz1 hk1 hS1 => ?_)
              try dsimp only at hw
              obtain ⟨hw, hs_37, hs_38, hs_39⟩ := hw
              subst hw
              obtain ⟨hP1, hD1⟩ := hB
              rw [ht] at hP1
              have hjn := xw_join3 (wl := [(m0, .inr (11, [.int s_thrown, .int s_taped, .ref m1, .int s_size, .int s_outSize, .ref m2, .int s_kind, .int s_value, .int s_begin, .int s_end, .int s_failed, .ref m3, .ref m4, .ref m5, .int s_isProgram, .int s_half, .ref m6, .ref m7, .ref m8, .ref m9, .ref m10, .ref m11, .ref m12, .ref m13, .ref m14, .ref m15, .ref m16, .ref m17, .ref m18, .ref m19, .ref m20, .int s_signs, .ref m21, .int s_stacked, .ref m22, .int s_name, .int s_shift, .int s_statements, .int s_ifs, .int s_whiles, .int s_variants, .int s_open, .ref m23, .int s_isMade, .int s_conditions, .ref m24, .ref m25, .ref m26, .ref m27, .int s_kept, .ref m28, .int s_tops, .ref m29, .int s_used, .ref m30, .ref m31, .int s_looked, .int s_rows, .int s_firstRow, .ref m32, .ref m33, .ref m34, .ref m35, .ref m36, .ref m37, .ref m38, .ref m39, .ref m40, .int s_isBroken, .ref m41, .int s_atoms, .ref m42])), (m28, .inl (ax 0, 180000, .inl kp)), (m32, .inl (ax 0, 30000, .inl (fun j => nI (sup sf1 k1 (sf1 ((k1 - 1) - (sf1 (k1 - 1))) + sf1 (k1 - 1) + 1) j)))), (m33, .inl (ax 0, 30000, .inl (fun j => nI (sup wt1 k1 (u_16 0) j)))), (m34, .inl (ax 0, 30000, .inl (fun j => nI (wf1 j))))]) hP hD [] [0, 1, 2, 3, 4] hCs (by decide) (by decide) hk1 hFc hP1 hD1 rfl
              clear hP1 hD1
              clear hPc hDc hFc hCs hz hz1 hk1 ht hvm
              clear hP hD hS
              have hS := hS1
              obtain ⟨hP, hD⟩ := hjn
              clear hS1
              refine lv_goto (tgt := 286) hx hb d_Model_measure_281 (by decide) ?_
              refine va_iast hx hb hK.1 hP hD hS 4 0 rfl rfl (vp_in_nI (by first | assumption | omega) (by decide)) d_Model_measure_286 (fun H_40 locs hP1 hD1 hS1 => ?_)
              rw [nI_clamp (by first | exact Nat.lt_of_lt_of_le (by assumption) (by decide) | exact Nat.lt_of_le_of_lt (by assumption) (by decide) | omega)] at hP1 hD1
              rw [xf_sup wf1 k1 (u_34 0)] at hP1 hD1
              clear hP hD hS
              have hS := hS1
              have hW7 : (fun w9 : va_W => va_P D classes w9 H_40 ∧ va_D A w9) [(m0, .inr (11, [.int s_thrown, .int s_taped, .ref m1, .int s_size, .int s_outSize, .ref m2, .int s_kind, .int s_value, .int s_begin, .int s_end, .int s_failed, .ref m3, .ref m4, .ref m5, .int s_isProgram, .int s_half, .ref m6, .ref m7, .ref m8, .ref m9, .ref m10, .ref m11, .ref m12, .ref m13, .ref m14, .ref m15, .ref m16, .ref m17, .ref m18, .ref m19, .ref m20, .int s_signs, .ref m21, .int s_stacked, .ref m22, .int s_name, .int s_shift, .int s_statements, .int s_ifs, .int s_whiles, .int s_variants, .int s_open, .ref m23, .int s_isMade, .int s_conditions, .ref m24, .ref m25, .ref m26, .ref m27, .int s_kept, .ref m28, .int s_tops, .ref m29, .int s_used, .ref m30, .ref m31, .int s_looked, .int s_rows, .int s_firstRow, .ref m32, .ref m33, .ref m34, .ref m35, .ref m36, .ref m37, .ref m38, .ref m39, .ref m40, .int s_isBroken, .ref m41, .int s_atoms, .ref m42])), (m28, .inl (ax 0, 180000, .inl kp)), (m32, .inl (ax 0, 30000, .inl (fun j => nI (sup sf1 k1 (sf1 ((k1 - 1) - (sf1 (k1 - 1))) + sf1 (k1 - 1) + 1) j)))), (m33, .inl (ax 0, 30000, .inl (fun j => nI (sup wt1 k1 (u_16 0) j)))), (m34, .inl (ax 0, 30000, .inl (fun j => nI (sup wf1 k1 (u_34 0) j))))] := ⟨hP1, hD1⟩
              obtain ⟨hP, hD⟩ := hW7
              clear hP1 hD1 hS1
              refine lv_iinc (v := nI (k1 + 1)) (lv' := [(3, .int (nI (k1 + 1))), (8, .int (nI (u_23 0))), (7, .int (nI (u_16 0))), (6, .int (nI ((k1 - 1) - (sf1 (k1 - 1))))), (5, .int (nI (k1 - 1))), (4, .int (kp (6 * (fr + k1)))), (0, .ref m0), (1, .int (nI fr)), (2, .int (nI q))]) hx hb d_Model_measure_287 hl1 (k := 8) rfl (nI_add k1 1) (by decide) rfl (fun ls hl2 => ?_)
              clear hl1; have hl1 := hl2; clear hl2
              refine lv_goto (tgt := 2) hx hb d_Model_measure_290 (by decide) ?_
              exact ih_3 (k1 + 1) (sup sf1 k1 (sf1 ((k1 - 1) - (sf1 (k1 - 1))) + sf1 (k1 - 1) + 1)) (sup wt1 k1 (u_16 0)) (sup wf1 k1 (u_34 0)) (by first | assumption | omega) (by first | assumption | omega) (hm1.step (by first | assumption | omega) (by first | assumption | omega) (by rw [show k1 + 1 - (sf1 ((k1 - 1) - (sf1 (k1 - 1))) + sf1 (k1 - 1) + 1) = k1 - sf1 (k1 - 1) - sf1 ((k1 - 1) - (sf1 (k1 - 1))) by omega]; omega) (by first | assumption | omega) (by first | assumption | omega) (by first | assumption | omega) (by first | assumption | omega)) (hz1.step (fun q9 => absurd q9 h1) (fun _ _ => ⟨by omega, rfl⟩)) (ha1.step (fun q9 => absurd q9 h0)) (by first | exact rwQ8_and hr1 (by first | assumption | omega) (by first | assumption | omega) (by rw [show 6 * fr + 6 * k1 = 6 * (fr + k1) by omega]; assumption) rfl rfl (by first | exact hs_21 | exact hs_28 | exact hs_39) (by first | exact hs_21 | exact hs_28 | exact hs_39) | exact rwQ8_or hr1 (by first | assumption | omega) (by first | assumption | omega) (by rw [show 6 * fr + 6 * k1 = 6 * (fr + k1) by omega]; assumption) rfl rfl (by first | exact hs_21 | exact hs_28 | exact hs_39) (by first | exact hs_21 | exact hs_28 | exact hs_39) | exact absurd ((show kp (6 * (fr + k1)) = 2 by assumption).symm.trans (show kp (6 * (fr + k1)) = 3 by assumption)) (by decide) | (exfalso; rcases hop8 with q9 | q9 <;> rw [show 6 * fr + 6 * k1 = 6 * (fr + k1) by omega] at q9 <;> exact absurd q9 (by assumption))) _ _ _ (hP.sub [0, 1, 2, 3, 4] rfl) (hD.sub [0, 1, 2, 3, 4] (by decide) rfl) hS (lv_sub hl1 [6, 7, 8, 0] rfl)
          · refine lv_aload_n hx hb d_Model_measure_228 rfl (lv_at hl1 5 rfl) ?_
            refine va_get (D := D) (ci := 11) (v := .ref m33) (C := R_Model) (T := F_Model) (N := 72) hx hb hts i_Model hown hK.1 hP 0 rfl rfl 60 (by decide) (hts _ wd_1096) (fun _ h9 => h9) rfl d_Model_measure_229 ?_
            refine lv_iload hx hb d_Model_measure_232 (lv_at hl1 2 rfl) ?_
            refine va_iald hx hb hK.1 hP 3 0 rfl rfl (vp_in_nI (by first | assumption | omega) (by decide)) d_Model_measure_234 ?_
            refine W.eq (g2 := F0 m 235 ls [.int (nI (wt1 ((k1 - 1) - (sf1 (k1 - 1))))), .int (nI k1), .ref m33]) (by rw [nI_clamp (by first | exact Nat.lt_of_lt_of_le (by assumption) (by decide) | exact Nat.lt_of_le_of_lt (by assumption) (by decide) | omega)]) ?_
            refine lv_aload_n hx hb d_Model_measure_235 rfl (lv_at hl1 5 rfl) ?_
            refine va_get (D := D) (ci := 11) (v := .ref m33) (C := R_Model) (T := F_Model) (N := 72) hx hb hts i_Model hown hK.1 hP 0 rfl rfl 60 (by decide) (hts _ wd_1096) (fun _ h9 => h9) rfl d_Model_measure_236 ?_
            refine lv_iload hx hb d_Model_measure_239 (lv_at hl1 3 rfl) ?_
            refine va_iald hx hb hK.1 hP 3 0 rfl rfl (vp_in_nI (by first | assumption | omega) (by decide)) d_Model_measure_241 ?_
            refine W.eq (g2 := F0 m 242 ls [.int (nI (wt1 (k1 - 1))), .int (nI (wt1 ((k1 - 1) - (sf1 (k1 - 1))))), .int (nI k1), .ref m33]) (by rw [nI_clamp (by first | exact Nat.lt_of_lt_of_le (by assumption) (by decide) | exact Nat.lt_of_le_of_lt (by assumption) (by decide) | omega)]) ?_
            refine lv_imul hx hb d_Model_measure_242 ?_
            refine lv_topi (fun z_41 ez_41 => ?_)
            have ez_41 : z_41 = nI ((wt1 ((k1 - 1) - (sf1 (k1 - 1)))) * (wt1 (k1 - 1))) := ez_41.trans (pk_mul (wt1 ((k1 - 1) - (sf1 (k1 - 1)))) (wt1 (k1 - 1)))
            subst ez_41
            obtain ⟨hPc, hDc, hFc, hCs⟩ := xw_sub3 (wc := []) hP hD hS hA [] (by decide) rfl
            have hz := xz_of hN hS
            refine va_calli (va_runS (As := [.int (nI ((wt1 ((k1 - 1) - (sf1 (k1 - 1)))) * (wt1 (k1 - 1))))]) (rest := [.int (nI k1), .ref m33]) ⟨hx, hb, hml, hown, hts⟩ (c_M_limit l D ax ((wt1 ((k1 - 1) - (sf1 (k1 - 1)))) * (wt1 (k1 - 1))) H_24.size (by first | assumption | omega) (by first | assumption | omega)) (xcS (n := 1) hts wd_1513 wd_15 wd_1511 wd_1512 rfl rfl (by decide +kernel) ⟨Nat.le_of_ble_eq_true rfl, Nat.le_of_ble_eq_true rfl⟩) (xpS (As := [.int (nI ((wt1 ((k1 - 1) - (sf1 (k1 - 1)))) * (wt1 (k1 - 1))))]) hPc hK hz hDc) rfl rfl hl1.1 rfl (lv_room (Nat.le_of_ble_eq_true rfl)) d_Model_measure_243 ⟨Nat.le_of_ble_eq_true rfl, Nat.le_of_ble_eq_true rfl⟩) hS (fun q _ h => hFc q h) hFc (fun r_44 u_42 t H_43 locs ht hvm hw hB hz1 hk1 hS1 => ?_)
            try dsimp only at hw
            obtain ⟨hw, hs_45, hs_46, hs_47⟩ := hw
            subst hw
            obtain ⟨hP1, hD1⟩ := hB
            rw [ht] at hP1
            have hjn := xw_join3 (wl := [(m0, .inr (11, [.int s_thrown, .int s_taped, .ref m1, .int s_size, .int s_outSize, .ref m2, .int s_kind, .int s_value, .int s_begin, .int s_end, .int s_failed, .ref m3, .ref m4, .ref m5, .int s_isProgram, .int s_half, .ref m6, .ref m7, .ref m8, .ref m9, .ref m10, .ref m11, .ref m12, .ref m13, .ref m14, .ref m15, .ref m16, .ref m17, .ref m18, .ref m19, .ref m20, .int s_signs, .ref m21, .int s_stacked, .ref m22, .int s_name, .int s_shift, .int s_statements, .int s_ifs, .int s_whiles, .int s_variants, .int s_open, .ref m23, .int s_isMade, .int s_conditions, .ref m24, .ref m25, .ref m26, .ref m27, .int s_kept, .ref m28, .int s_tops, .ref m29, .int s_used, .ref m30, .ref m31, .int s_looked, .int s_rows, .int s_firstRow, .ref m32, .ref m33, .ref m34, .ref m35, .ref m36, .ref m37, .ref m38, .ref m39, .ref m40, .int s_isBroken, .ref m41, .int s_atoms, .ref m42])), (m28, .inl (ax 0, 180000, .inl kp)), (m32, .inl (ax 0, 30000, .inl (fun j => nI (sup sf1 k1 (sf1 ((k1 - 1) - (sf1 (k1 - 1))) + sf1 (k1 - 1) + 1) j)))), (m33, .inl (ax 0, 30000, .inl (fun j => nI (wt1 j)))), (m34, .inl (ax 0, 30000, .inl (fun j => nI (wf1 j))))]) hP hD [] [0, 1, 2, 3, 4] hCs (by decide) (by decide) hk1 hFc hP1 hD1 rfl
            clear hP1 hD1
            clear hPc hDc hFc hCs hz hz1 hk1 ht hvm
            clear hP hD hS
            have hS := hS1
            obtain ⟨hP, hD⟩ := hjn
            clear hS1
            refine lv_goto (tgt := 251) hx hb d_Model_measure_246 (by decide) ?_
            refine va_iast hx hb hK.1 hP hD hS 3 0 rfl rfl (vp_in_nI (by first | assumption | omega) (by decide)) d_Model_measure_251 (fun H_48 locs hP1 hD1 hS1 => ?_)
            rw [nI_clamp (by first | exact Nat.lt_of_lt_of_le (by assumption) (by decide) | exact Nat.lt_of_le_of_lt (by assumption) (by decide) | omega)] at hP1 hD1
            rw [xf_sup wt1 k1 (u_42 0)] at hP1 hD1
            clear hP hD hS
            have hS := hS1
            have hW7 : (fun w9 : va_W => va_P D classes w9 H_48 ∧ va_D A w9) [(m0, .inr (11, [.int s_thrown, .int s_taped, .ref m1, .int s_size, .int s_outSize, .ref m2, .int s_kind, .int s_value, .int s_begin, .int s_end, .int s_failed, .ref m3, .ref m4, .ref m5, .int s_isProgram, .int s_half, .ref m6, .ref m7, .ref m8, .ref m9, .ref m10, .ref m11, .ref m12, .ref m13, .ref m14, .ref m15, .ref m16, .ref m17, .ref m18, .ref m19, .ref m20, .int s_signs, .ref m21, .int s_stacked, .ref m22, .int s_name, .int s_shift, .int s_statements, .int s_ifs, .int s_whiles, .int s_variants, .int s_open, .ref m23, .int s_isMade, .int s_conditions, .ref m24, .ref m25, .ref m26, .ref m27, .int s_kept, .ref m28, .int s_tops, .ref m29, .int s_used, .ref m30, .ref m31, .int s_looked, .int s_rows, .int s_firstRow, .ref m32, .ref m33, .ref m34, .ref m35, .ref m36, .ref m37, .ref m38, .ref m39, .ref m40, .int s_isBroken, .ref m41, .int s_atoms, .ref m42])), (m28, .inl (ax 0, 180000, .inl kp)), (m32, .inl (ax 0, 30000, .inl (fun j => nI (sup sf1 k1 (sf1 ((k1 - 1) - (sf1 (k1 - 1))) + sf1 (k1 - 1) + 1) j)))), (m33, .inl (ax 0, 30000, .inl (fun j => nI (sup wt1 k1 (u_42 0) j)))), (m34, .inl (ax 0, 30000, .inl (fun j => nI (wf1 j))))] := ⟨hP1, hD1⟩
            obtain ⟨hP, hD⟩ := hW7
            clear hP1 hD1 hS1
            refine lv_aload_n hx hb d_Model_measure_252 rfl (lv_at hl1 5 rfl) ?_
            refine va_get (D := D) (ci := 11) (v := .ref m34) (C := R_Model) (T := F_Model) (N := 72) hx hb hts i_Model hown hK.1 hP 0 rfl rfl 61 (by decide) (hts _ wd_1097) (fun _ h9 => h9) rfl d_Model_measure_253 ?_
            refine lv_iload_n hx hb d_Model_measure_256 rfl (lv_at hl1 8 rfl) ?_
            refine lv_iload hx hb d_Model_measure_257 (lv_at hl1 4 rfl) ?_
            refine lv_iconst (v := 3) hx hb d_Model_measure_259 (by decide) ?_
            refine lv_icmp_ne (tgt := 284) hx hb d_Model_measure_260 (by decide) (fun c_49 => ?_) (fun c_49 => ?_)
            · refine lv_iload hx hb d_Model_measure_284 (lv_at hl1 0 rfl) ?_
              refine va_iast hx hb hK.1 hP hD hS 4 0 rfl rfl (vp_in_nI (by first | assumption | omega) (by decide)) d_Model_measure_286 (fun H_50 locs hP1 hD1 hS1 => ?_)
              rw [nI_clamp (by first | exact Nat.lt_of_lt_of_le (by assumption) (by decide) | exact Nat.lt_of_le_of_lt (by assumption) (by decide) | omega)] at hP1 hD1
              rw [xf_sup wf1 k1 (u_23 0)] at hP1 hD1
              clear hP hD hS
              have hS := hS1
              have hW7 : (fun w9 : va_W => va_P D classes w9 H_50 ∧ va_D A w9) [(m0, .inr (11, [.int s_thrown, .int s_taped, .ref m1, .int s_size, .int s_outSize, .ref m2, .int s_kind, .int s_value, .int s_begin, .int s_end, .int s_failed, .ref m3, .ref m4, .ref m5, .int s_isProgram, .int s_half, .ref m6, .ref m7, .ref m8, .ref m9, .ref m10, .ref m11, .ref m12, .ref m13, .ref m14, .ref m15, .ref m16, .ref m17, .ref m18, .ref m19, .ref m20, .int s_signs, .ref m21, .int s_stacked, .ref m22, .int s_name, .int s_shift, .int s_statements, .int s_ifs, .int s_whiles, .int s_variants, .int s_open, .ref m23, .int s_isMade, .int s_conditions, .ref m24, .ref m25, .ref m26, .ref m27, .int s_kept, .ref m28, .int s_tops, .ref m29, .int s_used, .ref m30, .ref m31, .int s_looked, .int s_rows, .int s_firstRow, .ref m32, .ref m33, .ref m34, .ref m35, .ref m36, .ref m37, .ref m38, .ref m39, .ref m40, .int s_isBroken, .ref m41, .int s_atoms, .ref m42])), (m28, .inl (ax 0, 180000, .inl kp)), (m32, .inl (ax 0, 30000, .inl (fun j => nI (sup sf1 k1 (sf1 ((k1 - 1) - (sf1 (k1 - 1))) + sf1 (k1 - 1) + 1) j)))), (m33, .inl (ax 0, 30000, .inl (fun j => nI (sup wt1 k1 (u_42 0) j)))), (m34, .inl (ax 0, 30000, .inl (fun j => nI (sup wf1 k1 (u_23 0) j))))] := ⟨hP1, hD1⟩
              obtain ⟨hP, hD⟩ := hW7
              clear hP1 hD1 hS1
              refine lv_iinc (v := nI (k1 + 1)) (lv' := [(3, .int (nI (k1 + 1))), (8, .int (nI (u_23 0))), (7, .int (nI (u_16 0))), (6, .int (nI ((k1 - 1) - (sf1 (k1 - 1))))), (5, .int (nI (k1 - 1))), (4, .int (kp (6 * (fr + k1)))), (0, .ref m0), (1, .int (nI fr)), (2, .int (nI q))]) hx hb d_Model_measure_287 hl1 (k := 8) rfl (nI_add k1 1) (by decide) rfl (fun ls hl2 => ?_)
              clear hl1; have hl1 := hl2; clear hl2
              refine lv_goto (tgt := 2) hx hb d_Model_measure_290 (by decide) ?_
              exact ih_3 (k1 + 1) (sup sf1 k1 (sf1 ((k1 - 1) - (sf1 (k1 - 1))) + sf1 (k1 - 1) + 1)) (sup wt1 k1 (u_42 0)) (sup wf1 k1 (u_23 0)) (by first | assumption | omega) (by first | assumption | omega) (hm1.step (by first | assumption | omega) (by first | assumption | omega) (by rw [show k1 + 1 - (sf1 ((k1 - 1) - (sf1 (k1 - 1))) + sf1 (k1 - 1) + 1) = k1 - sf1 (k1 - 1) - sf1 ((k1 - 1) - (sf1 (k1 - 1))) by omega]; omega) (by first | assumption | omega) (by first | assumption | omega) (by first | assumption | omega) (by first | assumption | omega)) (hz1.step (fun q9 => absurd q9 h1) (fun _ _ => ⟨by omega, rfl⟩)) (ha1.step (fun q9 => absurd q9 h0)) (by first | exact rwQ8_and hr1 (by first | assumption | omega) (by first | assumption | omega) (by rw [show 6 * fr + 6 * k1 = 6 * (fr + k1) by omega]; assumption) rfl rfl (by first | exact hs_21 | exact hs_28 | exact hs_47) (by first | exact hs_21 | exact hs_28 | exact hs_47) | exact rwQ8_or hr1 (by first | assumption | omega) (by first | assumption | omega) (by rw [show 6 * fr + 6 * k1 = 6 * (fr + k1) by omega]; assumption) rfl rfl (by first | exact hs_21 | exact hs_28 | exact hs_47) (by first | exact hs_21 | exact hs_28 | exact hs_47) | exact absurd ((show kp (6 * (fr + k1)) = 2 by assumption).symm.trans (show kp (6 * (fr + k1)) = 3 by assumption)) (by decide) | (exfalso; rcases hop8 with q9 | q9 <;> rw [show 6 * fr + 6 * k1 = 6 * (fr + k1) by omega] at q9 <;> exact absurd q9 (by assumption))) _ _ _ (hP.sub [0, 1, 2, 3, 4] rfl) (hD.sub [0, 1, 2, 3, 4] (by decide) rfl) hS (lv_sub hl1 [6, 7, 8, 0] rfl)
            · refine lv_aload_n hx hb d_Model_measure_263 rfl (lv_at hl1 5 rfl) ?_
              refine va_get (D := D) (ci := 11) (v := .ref m34) (C := R_Model) (T := F_Model) (N := 72) hx hb hts i_Model hown hK.1 hP 0 rfl rfl 61 (by decide) (hts _ wd_1097) (fun _ h9 => h9) rfl d_Model_measure_264 ?_
              refine lv_iload hx hb d_Model_measure_267 (lv_at hl1 2 rfl) ?_
              refine va_iald hx hb hK.1 hP 4 0 rfl rfl (vp_in_nI (by first | assumption | omega) (by decide)) d_Model_measure_269 ?_
              refine W.eq (g2 := F0 m 270 ls [.int (nI (wf1 ((k1 - 1) - (sf1 (k1 - 1))))), .int (nI k1), .ref m34]) (by rw [nI_clamp (by first | exact Nat.lt_of_lt_of_le (by assumption) (by decide) | exact Nat.lt_of_le_of_lt (by assumption) (by decide) | omega)]) ?_
              refine lv_aload_n hx hb d_Model_measure_270 rfl (lv_at hl1 5 rfl) ?_
              refine va_get (D := D) (ci := 11) (v := .ref m34) (C := R_Model) (T := F_Model) (N := 72) hx hb hts i_Model hown hK.1 hP 0 rfl rfl 61 (by decide) (hts _ wd_1097) (fun _ h9 => h9) rfl d_Model_measure_271 ?_
              refine lv_iload hx hb d_Model_measure_274 (lv_at hl1 3 rfl) ?_
              refine va_iald hx hb hK.1 hP 4 0 rfl rfl (vp_in_nI (by first | assumption | omega) (by decide)) d_Model_measure_276 ?_
              refine W.eq (g2 := F0 m 277 ls [.int (nI (wf1 (k1 - 1))), .int (nI (wf1 ((k1 - 1) - (sf1 (k1 - 1))))), .int (nI k1), .ref m34]) (by rw [nI_clamp (by first | exact Nat.lt_of_lt_of_le (by assumption) (by decide) | exact Nat.lt_of_le_of_lt (by assumption) (by decide) | omega)]) ?_
              refine lv_imul hx hb d_Model_measure_277 ?_
              refine lv_topi (fun z_51 ez_51 => ?_)
              have ez_51 : z_51 = nI ((wf1 ((k1 - 1) - (sf1 (k1 - 1)))) * (wf1 (k1 - 1))) := ez_51.trans (pk_mul (wf1 ((k1 - 1) - (sf1 (k1 - 1)))) (wf1 (k1 - 1)))
              subst ez_51
              obtain ⟨hPc, hDc, hFc, hCs⟩ := xw_sub3 (wc := []) hP hD hS hA [] (by decide) rfl
              have hz := xz_of hN hS
              refine va_calli (va_runS (As := [.int (nI ((wf1 ((k1 - 1) - (sf1 (k1 - 1)))) * (wf1 (k1 - 1))))]) (rest := [.int (nI k1), .ref m34]) ⟨hx, hb, hml, hown, hts⟩ (c_M_limit l D ax ((wf1 ((k1 - 1) - (sf1 (k1 - 1)))) * (wf1 (k1 - 1))) H_48.size (by first | assumption | omega) (by first | assumption | omega)) (xcS (n := 1) hts wd_1513 wd_15 wd_1511 wd_1512 rfl rfl (by decide +kernel) ⟨Nat.le_of_ble_eq_true rfl, Nat.le_of_ble_eq_true rfl⟩) (xpS (As := [.int (nI ((wf1 ((k1 - 1) - (sf1 (k1 - 1)))) * (wf1 (k1 - 1))))]) hPc hK hz hDc) rfl rfl hl1.1 rfl (lv_room (Nat.le_of_ble_eq_true rfl)) d_Model_measure_278 ⟨Nat.le_of_ble_eq_true rfl, Nat.le_of_ble_eq_true rfl⟩) hS (fun q _ h => hFc q h) hFc (fun r_54 u_52 t H_53 locs ht hvm hw hB hz1 hk1 hS1 => ?_)
              try dsimp only at hw
              obtain ⟨hw, hs_55, hs_56, hs_57⟩ := hw
              subst hw
              obtain ⟨hP1, hD1⟩ := hB
              rw [ht] at hP1
              have hjn := xw_join3 (wl := [(m0, .inr (11, [.int s_thrown, .int s_taped, .ref m1, .int s_size, .int s_outSize, .ref m2, .int s_kind, .int s_value, .int s_begin, .int s_end, .int s_failed, .ref m3, .ref m4, .ref m5, .int s_isProgram, .int s_half, .ref m6, .ref m7, .ref m8, .ref m9, .ref m10, .ref m11, .ref m12, .ref m13, .ref m14, .ref m15, .ref m16, .ref m17, .ref m18, .ref m19, .ref m20, .int s_signs, .ref m21, .int s_stacked, .ref m22, .int s_name, .int s_shift, .int s_statements, .int s_ifs, .int s_whiles, .int s_variants, .int s_open, .ref m23, .int s_isMade, .int s_conditions, .ref m24, .ref m25, .ref m26, .ref m27, .int s_kept, .ref m28, .int s_tops, .ref m29, .int s_used, .ref m30, .ref m31, .int s_looked, .int s_rows, .int s_firstRow, .ref m32, .ref m33, .ref m34, .ref m35, .ref m36, .ref m37, .ref m38, .ref m39, .ref m40, .int s_isBroken, .ref m41, .int s_atoms, .ref m42])), (m28, .inl (ax 0, 180000, .inl kp)), (m32, .inl (ax 0, 30000, .inl (fun j => nI (sup sf1 k1 (sf1 ((k1 - 1) - (sf1 (k1 - 1))) + sf1 (k1 - 1) + 1) j)))), (m33, .inl (ax 0, 30000, .inl (fun j => nI (sup wt1 k1 (u_42 0) j)))), (m34, .inl (ax 0, 30000, .inl (fun j => nI (wf1 j))))]) hP hD [] [0, 1, 2, 3, 4] hCs (by decide) (by decide) hk1 hFc hP1 hD1 rfl
              clear hP1 hD1
              clear hPc hDc hFc hCs hz hz1 hk1 ht hvm
              clear hP hD hS
              have hS := hS1
              obtain ⟨hP, hD⟩ := hjn
              clear hS1
              refine lv_goto (tgt := 286) hx hb d_Model_measure_281 (by decide) ?_
              refine va_iast hx hb hK.1 hP hD hS 4 0 rfl rfl (vp_in_nI (by first | assumption | omega) (by decide)) d_Model_measure_286 (fun H_58 locs hP1 hD1 hS1 => ?_)
              rw [nI_clamp (by first | exact Nat.lt_of_lt_of_le (by assumption) (by decide) | exact Nat.lt_of_le_of_lt (by assumption) (by decide) | omega)] at hP1 hD1
              rw [xf_sup wf1 k1 (u_52 0)] at hP1 hD1
              clear hP hD hS
              have hS := hS1
              have hW7 : (fun w9 : va_W => va_P D classes w9 H_58 ∧ va_D A w9) [(m0, .inr (11, [.int s_thrown, .int s_taped, .ref m1, .int s_size, .int s_outSize, .ref m2, .int s_kind, .int s_value, .int s_begin, .int s_end, .int s_failed, .ref m3, .ref m4, .ref m5, .int s_isProgram, .int s_half, .ref m6, .ref m7, .ref m8, .ref m9, .ref m10, .ref m11, .ref m12, .ref m13, .ref m14, .ref m15, .ref m16, .ref m17, .ref m18, .ref m19, .ref m20, .int s_signs, .ref m21, .int s_stacked, .ref m22, .int s_name, .int s_shift, .int s_statements, .int s_ifs, .int s_whiles, .int s_variants, .int s_open, .ref m23, .int s_isMade, .int s_conditions, .ref m24, .ref m25, .ref m26, .ref m27, .int s_kept, .ref m28, .int s_tops, .ref m29, .int s_used, .ref m30, .ref m31, .int s_looked, .int s_rows, .int s_firstRow, .ref m32, .ref m33, .ref m34, .ref m35, .ref m36, .ref m37, .ref m38, .ref m39, .ref m40, .int s_isBroken, .ref m41, .int s_atoms, .ref m42])), (m28, .inl (ax 0, 180000, .inl kp)), (m32, .inl (ax 0, 30000, .inl (fun j => nI (sup sf1 k1 (sf1 ((k1 - 1) - (sf1 (k1 - 1))) + sf1 (k1 - 1) + 1) j)))), (m33, .inl (ax 0, 30000, .inl (fun j => nI (sup wt1 k1 (u_42 0) j)))), (m34, .inl (ax 0, 30000, .inl (fun j => nI (sup wf1 k1 (u_52 0) j))))] := ⟨hP1, hD1⟩
              obtain ⟨hP, hD⟩ := hW7
              clear hP1 hD1 hS1
              refine lv_iinc (v := nI (k1 + 1)) (lv' := [(3, .int (nI (k1 + 1))), (8, .int (nI (u_23 0))), (7, .int (nI (u_16 0))), (6, .int (nI ((k1 - 1) - (sf1 (k1 - 1))))), (5, .int (nI (k1 - 1))), (4, .int (kp (6 * (fr + k1)))), (0, .ref m0), (1, .int (nI fr)), (2, .int (nI q))]) hx hb d_Model_measure_287 hl1 (k := 8) rfl (nI_add k1 1) (by decide) rfl (fun ls hl2 => ?_)
              clear hl1; have hl1 := hl2; clear hl2
              refine lv_goto (tgt := 2) hx hb d_Model_measure_290 (by decide) ?_
              exact ih_3 (k1 + 1) (sup sf1 k1 (sf1 ((k1 - 1) - (sf1 (k1 - 1))) + sf1 (k1 - 1) + 1)) (sup wt1 k1 (u_42 0)) (sup wf1 k1 (u_52 0)) (by first | assumption | omega) (by first | assumption | omega) (hm1.step (by first | assumption | omega) (by first | assumption | omega) (by rw [show k1 + 1 - (sf1 ((k1 - 1) - (sf1 (k1 - 1))) + sf1 (k1 - 1) + 1) = k1 - sf1 (k1 - 1) - sf1 ((k1 - 1) - (sf1 (k1 - 1))) by omega]; omega) (by first | assumption | omega) (by first | assumption | omega) (by first | assumption | omega) (by first | assumption | omega)) (hz1.step (fun q9 => absurd q9 h1) (fun _ _ => ⟨by omega, rfl⟩)) (ha1.step (fun q9 => absurd q9 h0)) (by first | exact rwQ8_and hr1 (by first | assumption | omega) (by first | assumption | omega) (by rw [show 6 * fr + 6 * k1 = 6 * (fr + k1) by omega]; assumption) rfl rfl (by first | exact hs_21 | exact hs_28 | exact hs_47 | exact hs_57) (by first | exact hs_21 | exact hs_28 | exact hs_47 | exact hs_57) | exact rwQ8_or hr1 (by first | assumption | omega) (by first | assumption | omega) (by rw [show 6 * fr + 6 * k1 = 6 * (fr + k1) by omega]; assumption) rfl rfl (by first | exact hs_21 | exact hs_28 | exact hs_47 | exact hs_57) (by first | exact hs_21 | exact hs_28 | exact hs_47 | exact hs_57) | exact absurd ((show kp (6 * (fr + k1)) = 2 by assumption).symm.trans (show kp (6 * (fr + k1)) = 3 by assumption)) (by decide) | (exfalso; rcases hop8 with q9 | q9 <;> rw [show 6 * fr + 6 * k1 = 6 * (fr + k1) by omega] at q9 <;> exact absurd q9 (by assumption))) _ _ _ (hP.sub [0, 1, 2, 3, 4] rfl) (hD.sub [0, 1, 2, 3, 4] (by decide) rfl) hS (lv_sub hl1 [6, 7, 8, 0] rfl)
        · have h1 : kp (6 * fr + 6 * k1) = 1 := by rw [show 6 * fr + 6 * k1 = 6 * (fr + k1) by omega]; assumption
          obtain ⟨hg1, hgx⟩ := wf_not hk h1
          obtain ⟨b1, b2, b3, b4, b5, b6, b7⟩ := hm1 (k1 - 1) (by first | assumption | omega)
          rw [show k1 - 1 + 1 = k1 by omega] at b2 b3
          refine lv_aload_n hx hb d_Model_measure_90 rfl (lv_at hl1 1 rfl) ?_
          refine va_get (D := D) (ci := 11) (v := .ref m32) (C := R_Model) (T := F_Model) (N := 72) hx hb hts i_Model hown hK.1 hP 0 rfl rfl 59 (by decide) (hts _ wd_1095) (fun _ h9 => h9) rfl d_Model_measure_91 ?_
          refine lv_iload_n hx hb d_Model_measure_94 rfl (lv_at hl1 4 rfl) ?_
          refine lv_aload_n hx hb d_Model_measure_95 rfl (lv_at hl1 1 rfl) ?_
          refine va_get (D := D) (ci := 11) (v := .ref m32) (C := R_Model) (T := F_Model) (N := 72) hx hb hts i_Model hown hK.1 hP 0 rfl rfl 59 (by decide) (hts _ wd_1095) (fun _ h9 => h9) rfl d_Model_measure_96 ?_
          refine lv_iload_n hx hb d_Model_measure_99 rfl (lv_at hl1 4 rfl) ?_
          refine lv_iconst (v := 1) hx hb d_Model_measure_100 (by decide) ?_
          refine lv_isub hx hb d_Model_measure_101 ?_
          refine lv_topi (fun z_59 ez_59 => ?_)
          have ez_59 : z_59 = nI (k1 - 1) := ez_59.trans (pk_sub (a := k1) (b := 1) (by first | assumption | omega))
          subst ez_59
          refine va_iald hx hb hK.1 hP 2 0 rfl rfl (vp_in_nI (by first | assumption | omega) (by decide)) d_Model_measure_102 ?_
          refine W.eq (g2 := F0 m 103 ls [.int (nI (sf1 (k1 - 1))), .int (nI k1), .ref m32]) (by rw [nI_clamp (by first | exact Nat.lt_of_lt_of_le (by assumption) (by decide) | exact Nat.lt_of_le_of_lt (by assumption) (by decide) | omega)]) ?_
          refine lv_iconst (v := 1) hx hb d_Model_measure_103 (by decide) ?_
          refine lv_iadd hx hb d_Model_measure_104 ?_
          refine lv_topi (fun z_60 ez_60 => ?_)
          have ez_60 : z_60 = nI (sf1 (k1 - 1) + 1) := ez_60.trans (nI_add (sf1 (k1 - 1)) 1)
          subst ez_60
          refine va_iast hx hb hK.1 hP hD hS 2 0 rfl rfl (vp_in_nI (by first | assumption | omega) (by decide)) d_Model_measure_105 (fun H_61 locs hP1 hD1 hS1 => ?_)
          rw [nI_clamp (by first | exact Nat.lt_of_lt_of_le (by assumption) (by decide) | exact Nat.lt_of_le_of_lt (by assumption) (by decide) | omega)] at hP1 hD1
          rw [xf_sup sf1 k1 (sf1 (k1 - 1) + 1)] at hP1 hD1
          clear hP hD hS
          have hS := hS1
          have hW7 : (fun w9 : va_W => va_P D classes w9 H_61 ∧ va_D A w9) [(m0, .inr (11, [.int s_thrown, .int s_taped, .ref m1, .int s_size, .int s_outSize, .ref m2, .int s_kind, .int s_value, .int s_begin, .int s_end, .int s_failed, .ref m3, .ref m4, .ref m5, .int s_isProgram, .int s_half, .ref m6, .ref m7, .ref m8, .ref m9, .ref m10, .ref m11, .ref m12, .ref m13, .ref m14, .ref m15, .ref m16, .ref m17, .ref m18, .ref m19, .ref m20, .int s_signs, .ref m21, .int s_stacked, .ref m22, .int s_name, .int s_shift, .int s_statements, .int s_ifs, .int s_whiles, .int s_variants, .int s_open, .ref m23, .int s_isMade, .int s_conditions, .ref m24, .ref m25, .ref m26, .ref m27, .int s_kept, .ref m28, .int s_tops, .ref m29, .int s_used, .ref m30, .ref m31, .int s_looked, .int s_rows, .int s_firstRow, .ref m32, .ref m33, .ref m34, .ref m35, .ref m36, .ref m37, .ref m38, .ref m39, .ref m40, .int s_isBroken, .ref m41, .int s_atoms, .ref m42])), (m28, .inl (ax 0, 180000, .inl kp)), (m32, .inl (ax 0, 30000, .inl (fun j => nI (sup sf1 k1 (sf1 (k1 - 1) + 1) j)))), (m33, .inl (ax 0, 30000, .inl (fun j => nI (wt1 j)))), (m34, .inl (ax 0, 30000, .inl (fun j => nI (wf1 j))))] := ⟨hP1, hD1⟩
          obtain ⟨hP, hD⟩ := hW7
          clear hP1 hD1 hS1
          refine lv_aload_n hx hb d_Model_measure_106 rfl (lv_at hl1 1 rfl) ?_
          refine va_get (D := D) (ci := 11) (v := .ref m33) (C := R_Model) (T := F_Model) (N := 72) hx hb hts i_Model hown hK.1 hP 0 rfl rfl 60 (by decide) (hts _ wd_1096) (fun _ h9 => h9) rfl d_Model_measure_107 ?_
          refine lv_iload_n hx hb d_Model_measure_110 rfl (lv_at hl1 4 rfl) ?_
          refine lv_aload_n hx hb d_Model_measure_111 rfl (lv_at hl1 1 rfl) ?_
          refine va_get (D := D) (ci := 11) (v := .ref m34) (C := R_Model) (T := F_Model) (N := 72) hx hb hts i_Model hown hK.1 hP 0 rfl rfl 61 (by decide) (hts _ wd_1097) (fun _ h9 => h9) rfl d_Model_measure_112 ?_
          refine lv_iload_n hx hb d_Model_measure_115 rfl (lv_at hl1 4 rfl) ?_
          refine lv_iconst (v := 1) hx hb d_Model_measure_116 (by decide) ?_
          refine lv_isub hx hb d_Model_measure_117 ?_
          refine lv_topi (fun z_62 ez_62 => ?_)
          have ez_62 : z_62 = nI (k1 - 1) := ez_62.trans (pk_sub (a := k1) (b := 1) (by first | assumption | omega))
          subst ez_62
          refine va_iald hx hb hK.1 hP 4 0 rfl rfl (vp_in_nI (by first | assumption | omega) (by decide)) d_Model_measure_118 ?_
          refine W.eq (g2 := F0 m 119 ls [.int (nI (wf1 (k1 - 1))), .int (nI k1), .ref m33]) (by rw [nI_clamp (by first | exact Nat.lt_of_lt_of_le (by assumption) (by decide) | exact Nat.lt_of_le_of_lt (by assumption) (by decide) | omega)]) ?_
          refine va_iast hx hb hK.1 hP hD hS 3 0 rfl rfl (vp_in_nI (by first | assumption | omega) (by decide)) d_Model_measure_119 (fun H_63 locs hP1 hD1 hS1 => ?_)
          rw [nI_clamp (by first | exact Nat.lt_of_lt_of_le (by assumption) (by decide) | exact Nat.lt_of_le_of_lt (by assumption) (by decide) | omega)] at hP1 hD1
          rw [xf_sup wt1 k1 (wf1 (k1 - 1))] at hP1 hD1
          clear hP hD hS
          have hS := hS1
          have hW7 : (fun w9 : va_W => va_P D classes w9 H_63 ∧ va_D A w9) [(m0, .inr (11, [.int s_thrown, .int s_taped, .ref m1, .int s_size, .int s_outSize, .ref m2, .int s_kind, .int s_value, .int s_begin, .int s_end, .int s_failed, .ref m3, .ref m4, .ref m5, .int s_isProgram, .int s_half, .ref m6, .ref m7, .ref m8, .ref m9, .ref m10, .ref m11, .ref m12, .ref m13, .ref m14, .ref m15, .ref m16, .ref m17, .ref m18, .ref m19, .ref m20, .int s_signs, .ref m21, .int s_stacked, .ref m22, .int s_name, .int s_shift, .int s_statements, .int s_ifs, .int s_whiles, .int s_variants, .int s_open, .ref m23, .int s_isMade, .int s_conditions, .ref m24, .ref m25, .ref m26, .ref m27, .int s_kept, .ref m28, .int s_tops, .ref m29, .int s_used, .ref m30, .ref m31, .int s_looked, .int s_rows, .int s_firstRow, .ref m32, .ref m33, .ref m34, .ref m35, .ref m36, .ref m37, .ref m38, .ref m39, .ref m40, .int s_isBroken, .ref m41, .int s_atoms, .ref m42])), (m28, .inl (ax 0, 180000, .inl kp)), (m32, .inl (ax 0, 30000, .inl (fun j => nI (sup sf1 k1 (sf1 (k1 - 1) + 1) j)))), (m33, .inl (ax 0, 30000, .inl (fun j => nI (sup wt1 k1 (wf1 (k1 - 1)) j)))), (m34, .inl (ax 0, 30000, .inl (fun j => nI (wf1 j))))] := ⟨hP1, hD1⟩
          obtain ⟨hP, hD⟩ := hW7
          clear hP1 hD1 hS1
          refine lv_aload_n hx hb d_Model_measure_120 rfl (lv_at hl1 1 rfl) ?_
          refine va_get (D := D) (ci := 11) (v := .ref m34) (C := R_Model) (T := F_Model) (N := 72) hx hb hts i_Model hown hK.1 hP 0 rfl rfl 61 (by decide) (hts _ wd_1097) (fun _ h9 => h9) rfl d_Model_measure_121 ?_
          refine lv_iload_n hx hb d_Model_measure_124 rfl (lv_at hl1 4 rfl) ?_
          refine lv_aload_n hx hb d_Model_measure_125 rfl (lv_at hl1 1 rfl) ?_
          refine va_get (D := D) (ci := 11) (v := .ref m33) (C := R_Model) (T := F_Model) (N := 72) hx hb hts i_Model hown hK.1 hP 0 rfl rfl 60 (by decide) (hts _ wd_1096) (fun _ h9 => h9) rfl d_Model_measure_126 ?_
          refine lv_iload_n hx hb d_Model_measure_129 rfl (lv_at hl1 4 rfl) ?_
          refine lv_iconst (v := 1) hx hb d_Model_measure_130 (by decide) ?_
          refine lv_isub hx hb d_Model_measure_131 ?_
          refine lv_topi (fun z_64 ez_64 => ?_)
          have ez_64 : z_64 = nI (k1 - 1) := ez_64.trans (pk_sub (a := k1) (b := 1) (by first | assumption | omega))
          subst ez_64
          refine va_iald hx hb hK.1 hP 3 0 rfl rfl (vp_in_nI (by first | assumption | omega) (by decide)) d_Model_measure_132 ?_
          refine W.eq (g2 := F0 m 133 ls [.int (nI (sup wt1 k1 (wf1 (k1 - 1)) (k1 - 1))), .int (nI k1), .ref m34]) (by rw [nI_clamp (by first | exact Nat.lt_of_lt_of_le (by assumption) (by decide) | exact Nat.lt_of_le_of_lt (by assumption) (by decide) | omega)]) ?_
          refine va_iast hx hb hK.1 hP hD hS 4 0 rfl rfl (vp_in_nI (by first | assumption | omega) (by decide)) d_Model_measure_133 (fun H_65 locs hP1 hD1 hS1 => ?_)
          rw [nI_clamp (by first | exact Nat.lt_of_lt_of_le (by assumption) (by decide) | exact Nat.lt_of_le_of_lt (by assumption) (by decide) | omega)] at hP1 hD1
          rw [xf_sup wf1 k1 (sup wt1 k1 (wf1 (k1 - 1)) (k1 - 1))] at hP1 hD1
          clear hP hD hS
          have hS := hS1
          have hW7 : (fun w9 : va_W => va_P D classes w9 H_65 ∧ va_D A w9) [(m0, .inr (11, [.int s_thrown, .int s_taped, .ref m1, .int s_size, .int s_outSize, .ref m2, .int s_kind, .int s_value, .int s_begin, .int s_end, .int s_failed, .ref m3, .ref m4, .ref m5, .int s_isProgram, .int s_half, .ref m6, .ref m7, .ref m8, .ref m9, .ref m10, .ref m11, .ref m12, .ref m13, .ref m14, .ref m15, .ref m16, .ref m17, .ref m18, .ref m19, .ref m20, .int s_signs, .ref m21, .int s_stacked, .ref m22, .int s_name, .int s_shift, .int s_statements, .int s_ifs, .int s_whiles, .int s_variants, .int s_open, .ref m23, .int s_isMade, .int s_conditions, .ref m24, .ref m25, .ref m26, .ref m27, .int s_kept, .ref m28, .int s_tops, .ref m29, .int s_used, .ref m30, .ref m31, .int s_looked, .int s_rows, .int s_firstRow, .ref m32, .ref m33, .ref m34, .ref m35, .ref m36, .ref m37, .ref m38, .ref m39, .ref m40, .int s_isBroken, .ref m41, .int s_atoms, .ref m42])), (m28, .inl (ax 0, 180000, .inl kp)), (m32, .inl (ax 0, 30000, .inl (fun j => nI (sup sf1 k1 (sf1 (k1 - 1) + 1) j)))), (m33, .inl (ax 0, 30000, .inl (fun j => nI (sup wt1 k1 (wf1 (k1 - 1)) j)))), (m34, .inl (ax 0, 30000, .inl (fun j => nI (sup wf1 k1 (sup wt1 k1 (wf1 (k1 - 1)) (k1 - 1)) j))))] := ⟨hP1, hD1⟩
          obtain ⟨hP, hD⟩ := hW7
          clear hP1 hD1 hS1
          refine lv_goto (tgt := 287) hx hb d_Model_measure_134 (by decide) ?_
          refine lv_iinc (v := nI (k1 + 1)) (lv' := [(3, .int (nI (k1 + 1))), (4, .int (kp (6 * (fr + k1)))), (0, .ref m0), (1, .int (nI fr)), (2, .int (nI q))]) hx hb d_Model_measure_287 hl1 (k := 4) rfl (nI_add k1 1) (by decide) rfl (fun ls hl2 => ?_)
          clear hl1; have hl1 := hl2; clear hl2
          refine lv_goto (tgt := 2) hx hb d_Model_measure_290 (by decide) ?_
          exact ih_3 (k1 + 1) (sup sf1 k1 (sf1 (k1 - 1) + 1)) (sup wt1 k1 (wf1 (k1 - 1))) (sup wf1 k1 (sup wt1 k1 (wf1 (k1 - 1)) (k1 - 1))) (by first | assumption | omega) (by first | assumption | omega) (hm1.step (by first | assumption | omega) (by first | assumption | omega) (by rw [show k1 + 1 - (sf1 (k1 - 1) + 1) = k1 - sf1 (k1 - 1) by omega, hgx]; exact b3) (by first | assumption | omega) (by first | assumption | omega) (by rw [sup_ne (by first | assumption | omega)]; omega) (by rw [sup_ne (by first | assumption | omega)]; omega)) (hz1.step (fun _ => ⟨by omega, rfl⟩) (fun _ q9 => absurd h1 q9)) (ha1.step (fun q9 => absurd (q9.symm.trans h1) (by decide))) (rwQ8_n hr1 (by first | assumption | omega) h1 (by first | assumption | omega) rfl rfl (by rw [sup_ne (by first | assumption | omega)])) _ _ _ (hP.sub [0, 1, 2, 3, 4] rfl) (hD.sub [0, 1, 2, 3, 4] (by decide) rfl) hS (lv_sub hl1 [2, 3, 4, 0] rfl)
      · have h0 : kp (6 * fr + 6 * k1) = 0 := by rw [show 6 * fr + 6 * k1 = 6 * (fr + k1) by omega]; assumption
        have hgx := hgt_0 h0
        refine lv_aload_n hx hb d_Model_measure_25 rfl (lv_at hl1 1 rfl) ?_
        refine va_get (D := D) (ci := 11) (v := .ref m28) (C := R_Model) (T := F_Model) (N := 72) hx hb hts i_Model hown hK.1 hP 0 rfl rfl 50 (by decide) (hts _ wd_1086) (fun _ h9 => h9) rfl d_Model_measure_26 ?_
        refine lv_bipush (v := 6) hx hb d_Model_measure_29 (by decide) ?_
        refine lv_iload_n hx hb d_Model_measure_31 rfl (lv_at hl1 2 rfl) ?_
        refine lv_iload_n hx hb d_Model_measure_32 rfl (lv_at hl1 4 rfl) ?_
        refine lv_iadd hx hb d_Model_measure_33 ?_
        refine lv_topi (fun z_66 ez_66 => ?_)
        have ez_66 : z_66 = nI (fr + k1) := ez_66.trans (nI_add fr k1)
        subst ez_66
        refine lv_imul hx hb d_Model_measure_34 ?_
        refine lv_topi (fun z_67 ez_67 => ?_)
        have ez_67 : z_67 = nI (6 * (fr + k1)) := ez_67.trans (pk_mul 6 (fr + k1))
        subst ez_67
        refine lv_iconst (v := 3) hx hb d_Model_measure_35 (by decide) ?_
        refine lv_iadd hx hb d_Model_measure_36 ?_
        refine lv_topi (fun z_68 ez_68 => ?_)
        have ez_68 : z_68 = nI (6 * (fr + k1) + 3) := ez_68.trans (nI_add (6 * (fr + k1)) 3)
        subst ez_68
        refine va_iald hx hb hK.1 hP 1 0 rfl rfl (vp_in_nI (by first | assumption | omega) (by decide)) d_Model_measure_37 ?_
        refine W.eq (g2 := F0 m 38 ls [.int (kp (6 * (fr + k1) + 3))]) (by rw [nI_clamp (by first | exact Nat.lt_of_lt_of_le (by assumption) (by decide) | exact Nat.lt_of_le_of_lt (by assumption) (by decide) | omega)]) ?_
        refine lv_istore (lv' := [(5, .int (kp (6 * (fr + k1) + 3))), (4, .int (kp (6 * (fr + k1)))), (0, .ref m0), (1, .int (nI fr)), (2, .int (nI q)), (3, .int (nI k1))]) hx hb d_Model_measure_38 hl1 (by decide) rfl (fun ls hl2 => ?_)
        clear hl1; have hl1 := hl2; clear hl2
        refine lv_aload_n hx hb d_Model_measure_40 rfl (lv_at hl1 2 rfl) ?_
        refine va_get (D := D) (ci := 11) (v := .ref m32) (C := R_Model) (T := F_Model) (N := 72) hx hb hts i_Model hown hK.1 hP 0 rfl rfl 59 (by decide) (hts _ wd_1095) (fun _ h9 => h9) rfl d_Model_measure_41 ?_
        refine lv_iload_n hx hb d_Model_measure_44 rfl (lv_at hl1 5 rfl) ?_
        refine lv_iconst (v := 1) hx hb d_Model_measure_45 (by decide) ?_
        refine va_iast hx hb hK.1 hP hD hS 2 0 rfl rfl (vp_in_nI (by first | assumption | omega) (by decide)) d_Model_measure_46 (fun H_69 locs hP1 hD1 hS1 => ?_)
        rw [nI_clamp (by first | exact Nat.lt_of_lt_of_le (by assumption) (by decide) | exact Nat.lt_of_le_of_lt (by assumption) (by decide) | omega)] at hP1 hD1
        rw [xf_supc sf1 k1 1 1 rfl] at hP1 hD1
        clear hP hD hS
        have hS := hS1
        have hW7 : (fun w9 : va_W => va_P D classes w9 H_69 ∧ va_D A w9) [(m0, .inr (11, [.int s_thrown, .int s_taped, .ref m1, .int s_size, .int s_outSize, .ref m2, .int s_kind, .int s_value, .int s_begin, .int s_end, .int s_failed, .ref m3, .ref m4, .ref m5, .int s_isProgram, .int s_half, .ref m6, .ref m7, .ref m8, .ref m9, .ref m10, .ref m11, .ref m12, .ref m13, .ref m14, .ref m15, .ref m16, .ref m17, .ref m18, .ref m19, .ref m20, .int s_signs, .ref m21, .int s_stacked, .ref m22, .int s_name, .int s_shift, .int s_statements, .int s_ifs, .int s_whiles, .int s_variants, .int s_open, .ref m23, .int s_isMade, .int s_conditions, .ref m24, .ref m25, .ref m26, .ref m27, .int s_kept, .ref m28, .int s_tops, .ref m29, .int s_used, .ref m30, .ref m31, .int s_looked, .int s_rows, .int s_firstRow, .ref m32, .ref m33, .ref m34, .ref m35, .ref m36, .ref m37, .ref m38, .ref m39, .ref m40, .int s_isBroken, .ref m41, .int s_atoms, .ref m42])), (m28, .inl (ax 0, 180000, .inl kp)), (m32, .inl (ax 0, 30000, .inl (fun j => nI (sup sf1 k1 1 j)))), (m33, .inl (ax 0, 30000, .inl (fun j => nI (wt1 j)))), (m34, .inl (ax 0, 30000, .inl (fun j => nI (wf1 j))))] := ⟨hP1, hD1⟩
        obtain ⟨hP, hD⟩ := hW7
        clear hP1 hD1 hS1
        refine lv_aload_n hx hb d_Model_measure_47 rfl (lv_at hl1 2 rfl) ?_
        refine va_get (D := D) (ci := 11) (v := .ref m33) (C := R_Model) (T := F_Model) (N := 72) hx hb hts i_Model hown hK.1 hP 0 rfl rfl 60 (by decide) (hts _ wd_1096) (fun _ h9 => h9) rfl d_Model_measure_48 ?_
        refine lv_iload_n hx hb d_Model_measure_51 rfl (lv_at hl1 5 rfl) ?_
        refine lv_iload hx hb d_Model_measure_52 (lv_at hl1 0 rfl) ?_
        refine lv_iconst (v := 3) hx hb d_Model_measure_54 (by decide) ?_
        refine lv_icmp_ne (tgt := 62) hx hb d_Model_measure_55 (by decide) (fun c_70 => ?_) (fun c_70 => ?_)
        · refine lv_iconst (v := 1) hx hb d_Model_measure_62 (by decide) ?_
          refine va_iast hx hb hK.1 hP hD hS 3 0 rfl rfl (vp_in_nI (by first | assumption | omega) (by decide)) d_Model_measure_63 (fun H_71 locs hP1 hD1 hS1 => ?_)
          rw [nI_clamp (by first | exact Nat.lt_of_lt_of_le (by assumption) (by decide) | exact Nat.lt_of_le_of_lt (by assumption) (by decide) | omega)] at hP1 hD1
          rw [xf_supc wt1 k1 1 1 rfl] at hP1 hD1
          clear hP hD hS
          have hS := hS1
          have hW7 : (fun w9 : va_W => va_P D classes w9 H_71 ∧ va_D A w9) [(m0, .inr (11, [.int s_thrown, .int s_taped, .ref m1, .int s_size, .int s_outSize, .ref m2, .int s_kind, .int s_value, .int s_begin, .int s_end, .int s_failed, .ref m3, .ref m4, .ref m5, .int s_isProgram, .int s_half, .ref m6, .ref m7, .ref m8, .ref m9, .ref m10, .ref m11, .ref m12, .ref m13, .ref m14, .ref m15, .ref m16, .ref m17, .ref m18, .ref m19, .ref m20, .int s_signs, .ref m21, .int s_stacked, .ref m22, .int s_name, .int s_shift, .int s_statements, .int s_ifs, .int s_whiles, .int s_variants, .int s_open, .ref m23, .int s_isMade, .int s_conditions, .ref m24, .ref m25, .ref m26, .ref m27, .int s_kept, .ref m28, .int s_tops, .ref m29, .int s_used, .ref m30, .ref m31, .int s_looked, .int s_rows, .int s_firstRow, .ref m32, .ref m33, .ref m34, .ref m35, .ref m36, .ref m37, .ref m38, .ref m39, .ref m40, .int s_isBroken, .ref m41, .int s_atoms, .ref m42])), (m28, .inl (ax 0, 180000, .inl kp)), (m32, .inl (ax 0, 30000, .inl (fun j => nI (sup sf1 k1 1 j)))), (m33, .inl (ax 0, 30000, .inl (fun j => nI (sup wt1 k1 1 j)))), (m34, .inl (ax 0, 30000, .inl (fun j => nI (wf1 j))))] := ⟨hP1, hD1⟩
          obtain ⟨hP, hD⟩ := hW7
          clear hP1 hD1 hS1
          refine lv_aload_n hx hb d_Model_measure_64 rfl (lv_at hl1 2 rfl) ?_
          refine va_get (D := D) (ci := 11) (v := .ref m34) (C := R_Model) (T := F_Model) (N := 72) hx hb hts i_Model hown hK.1 hP 0 rfl rfl 61 (by decide) (hts _ wd_1097) (fun _ h9 => h9) rfl d_Model_measure_65 ?_
          refine lv_iload_n hx hb d_Model_measure_68 rfl (lv_at hl1 5 rfl) ?_
          refine lv_iload hx hb d_Model_measure_69 (lv_at hl1 0 rfl) ?_
          refine lv_iconst (v := 2) hx hb d_Model_measure_71 (by decide) ?_
          refine lv_icmp_ne (tgt := 79) hx hb d_Model_measure_72 (by decide) (fun c_72 => ?_) (fun c_72 => ?_)
          · refine lv_iconst (v := 1) hx hb d_Model_measure_79 (by decide) ?_
            refine va_iast hx hb hK.1 hP hD hS 4 0 rfl rfl (vp_in_nI (by first | assumption | omega) (by decide)) d_Model_measure_80 (fun H_73 locs hP1 hD1 hS1 => ?_)
            rw [nI_clamp (by first | exact Nat.lt_of_lt_of_le (by assumption) (by decide) | exact Nat.lt_of_le_of_lt (by assumption) (by decide) | omega)] at hP1 hD1
            rw [xf_supc wf1 k1 1 1 rfl] at hP1 hD1
            clear hP hD hS
            have hS := hS1
            have hW7 : (fun w9 : va_W => va_P D classes w9 H_73 ∧ va_D A w9) [(m0, .inr (11, [.int s_thrown, .int s_taped, .ref m1, .int s_size, .int s_outSize, .ref m2, .int s_kind, .int s_value, .int s_begin, .int s_end, .int s_failed, .ref m3, .ref m4, .ref m5, .int s_isProgram, .int s_half, .ref m6, .ref m7, .ref m8, .ref m9, .ref m10, .ref m11, .ref m12, .ref m13, .ref m14, .ref m15, .ref m16, .ref m17, .ref m18, .ref m19, .ref m20, .int s_signs, .ref m21, .int s_stacked, .ref m22, .int s_name, .int s_shift, .int s_statements, .int s_ifs, .int s_whiles, .int s_variants, .int s_open, .ref m23, .int s_isMade, .int s_conditions, .ref m24, .ref m25, .ref m26, .ref m27, .int s_kept, .ref m28, .int s_tops, .ref m29, .int s_used, .ref m30, .ref m31, .int s_looked, .int s_rows, .int s_firstRow, .ref m32, .ref m33, .ref m34, .ref m35, .ref m36, .ref m37, .ref m38, .ref m39, .ref m40, .int s_isBroken, .ref m41, .int s_atoms, .ref m42])), (m28, .inl (ax 0, 180000, .inl kp)), (m32, .inl (ax 0, 30000, .inl (fun j => nI (sup sf1 k1 1 j)))), (m33, .inl (ax 0, 30000, .inl (fun j => nI (sup wt1 k1 1 j)))), (m34, .inl (ax 0, 30000, .inl (fun j => nI (sup wf1 k1 1 j))))] := ⟨hP1, hD1⟩
            obtain ⟨hP, hD⟩ := hW7
            clear hP1 hD1 hS1
            refine lv_goto (tgt := 287) hx hb d_Model_measure_81 (by decide) ?_
            refine lv_iinc (v := nI (k1 + 1)) (lv' := [(3, .int (nI (k1 + 1))), (5, .int (kp (6 * (fr + k1) + 3))), (4, .int (kp (6 * (fr + k1)))), (0, .ref m0), (1, .int (nI fr)), (2, .int (nI q))]) hx hb d_Model_measure_287 hl1 (k := 5) rfl (nI_add k1 1) (by decide) rfl (fun ls hl2 => ?_)
            clear hl1; have hl1 := hl2; clear hl2
            refine lv_goto (tgt := 2) hx hb d_Model_measure_290 (by decide) ?_
            exact ih_3 (k1 + 1) (sup sf1 k1 1) (sup wt1 k1 1) (sup wf1 k1 1) (by first | assumption | omega) (by first | assumption | omega) (hm1.step (by first | assumption | omega) (by first | assumption | omega) (by rw [Nat.add_sub_cancel, hgx]) (by first | assumption | omega) (by first | assumption | omega) (by first | assumption | omega) (by first | assumption | omega)) (hz1.step (fun q9 => absurd (h0.symm.trans q9) (by decide)) (fun q9 => absurd h0 q9)) (ha1.step (fun _ => rfl)) (rwQ8_a hr1 (by first | assumption | omega) h0 (by first | exact (if_pos (by rw [← show 6 * (fr + k1) + 3 = 6 * fr + 6 * k1 + 3 by omega]; assumption)).symm | exact (if_neg (by rw [← show 6 * (fr + k1) + 3 = 6 * fr + 6 * k1 + 3 by omega]; assumption)).symm) (by first | exact (if_pos (by rw [← show 6 * (fr + k1) + 3 = 6 * fr + 6 * k1 + 3 by omega]; assumption)).symm | exact (if_neg (by rw [← show 6 * (fr + k1) + 3 = 6 * fr + 6 * k1 + 3 by omega]; assumption)).symm)) _ _ _ (hP.sub [0, 1, 2, 3, 4] rfl) (hD.sub [0, 1, 2, 3, 4] (by decide) rfl) hS (lv_sub hl1 [3, 4, 5, 0] rfl)
          · refine lv_iconst (v := 2) hx hb d_Model_measure_75 (by decide) ?_
            refine lv_goto (tgt := 80) hx hb d_Model_measure_76 (by decide) ?_
            refine va_iast hx hb hK.1 hP hD hS 4 0 rfl rfl (vp_in_nI (by first | assumption | omega) (by decide)) d_Model_measure_80 (fun H_74 locs hP1 hD1 hS1 => ?_)
            rw [nI_clamp (by first | exact Nat.lt_of_lt_of_le (by assumption) (by decide) | exact Nat.lt_of_le_of_lt (by assumption) (by decide) | omega)] at hP1 hD1
            rw [xf_supc wf1 k1 2 2 rfl] at hP1 hD1
            clear hP hD hS
            have hS := hS1
            have hW7 : (fun w9 : va_W => va_P D classes w9 H_74 ∧ va_D A w9) [(m0, .inr (11, [.int s_thrown, .int s_taped, .ref m1, .int s_size, .int s_outSize, .ref m2, .int s_kind, .int s_value, .int s_begin, .int s_end, .int s_failed, .ref m3, .ref m4, .ref m5, .int s_isProgram, .int s_half, .ref m6, .ref m7, .ref m8, .ref m9, .ref m10, .ref m11, .ref m12, .ref m13, .ref m14, .ref m15, .ref m16, .ref m17, .ref m18, .ref m19, .ref m20, .int s_signs, .ref m21, .int s_stacked, .ref m22, .int s_name, .int s_shift, .int s_statements, .int s_ifs, .int s_whiles, .int s_variants, .int s_open, .ref m23, .int s_isMade, .int s_conditions, .ref m24, .ref m25, .ref m26, .ref m27, .int s_kept, .ref m28, .int s_tops, .ref m29, .int s_used, .ref m30, .ref m31, .int s_looked, .int s_rows, .int s_firstRow, .ref m32, .ref m33, .ref m34, .ref m35, .ref m36, .ref m37, .ref m38, .ref m39, .ref m40, .int s_isBroken, .ref m41, .int s_atoms, .ref m42])), (m28, .inl (ax 0, 180000, .inl kp)), (m32, .inl (ax 0, 30000, .inl (fun j => nI (sup sf1 k1 1 j)))), (m33, .inl (ax 0, 30000, .inl (fun j => nI (sup wt1 k1 1 j)))), (m34, .inl (ax 0, 30000, .inl (fun j => nI (sup wf1 k1 2 j))))] := ⟨hP1, hD1⟩
            obtain ⟨hP, hD⟩ := hW7
            clear hP1 hD1 hS1
            refine lv_goto (tgt := 287) hx hb d_Model_measure_81 (by decide) ?_
            refine lv_iinc (v := nI (k1 + 1)) (lv' := [(3, .int (nI (k1 + 1))), (5, .int (kp (6 * (fr + k1) + 3))), (4, .int (kp (6 * (fr + k1)))), (0, .ref m0), (1, .int (nI fr)), (2, .int (nI q))]) hx hb d_Model_measure_287 hl1 (k := 5) rfl (nI_add k1 1) (by decide) rfl (fun ls hl2 => ?_)
            clear hl1; have hl1 := hl2; clear hl2
            refine lv_goto (tgt := 2) hx hb d_Model_measure_290 (by decide) ?_
            exact ih_3 (k1 + 1) (sup sf1 k1 1) (sup wt1 k1 1) (sup wf1 k1 2) (by first | assumption | omega) (by first | assumption | omega) (hm1.step (by first | assumption | omega) (by first | assumption | omega) (by rw [Nat.add_sub_cancel, hgx]) (by first | assumption | omega) (by first | assumption | omega) (by first | assumption | omega) (by first | assumption | omega)) (hz1.step (fun q9 => absurd (h0.symm.trans q9) (by decide)) (fun q9 => absurd h0 q9)) (ha1.step (fun _ => rfl)) (rwQ8_a hr1 (by first | assumption | omega) h0 (by first | exact (if_pos (by rw [← show 6 * (fr + k1) + 3 = 6 * fr + 6 * k1 + 3 by omega]; assumption)).symm | exact (if_neg (by rw [← show 6 * (fr + k1) + 3 = 6 * fr + 6 * k1 + 3 by omega]; assumption)).symm) (by first | exact (if_pos (by rw [← show 6 * (fr + k1) + 3 = 6 * fr + 6 * k1 + 3 by omega]; assumption)).symm | exact (if_neg (by rw [← show 6 * (fr + k1) + 3 = 6 * fr + 6 * k1 + 3 by omega]; assumption)).symm)) _ _ _ (hP.sub [0, 1, 2, 3, 4] rfl) (hD.sub [0, 1, 2, 3, 4] (by decide) rfl) hS (lv_sub hl1 [3, 4, 5, 0] rfl)
        · refine lv_iconst (v := 2) hx hb d_Model_measure_58 (by decide) ?_
          refine lv_goto (tgt := 63) hx hb d_Model_measure_59 (by decide) ?_
          refine va_iast hx hb hK.1 hP hD hS 3 0 rfl rfl (vp_in_nI (by first | assumption | omega) (by decide)) d_Model_measure_63 (fun H_75 locs hP1 hD1 hS1 => ?_)
          rw [nI_clamp (by first | exact Nat.lt_of_lt_of_le (by assumption) (by decide) | exact Nat.lt_of_le_of_lt (by assumption) (by decide) | omega)] at hP1 hD1
          rw [xf_supc wt1 k1 2 2 rfl] at hP1 hD1
          clear hP hD hS
          have hS := hS1
          have hW7 : (fun w9 : va_W => va_P D classes w9 H_75 ∧ va_D A w9) [(m0, .inr (11, [.int s_thrown, .int s_taped, .ref m1, .int s_size, .int s_outSize, .ref m2, .int s_kind, .int s_value, .int s_begin, .int s_end, .int s_failed, .ref m3, .ref m4, .ref m5, .int s_isProgram, .int s_half, .ref m6, .ref m7, .ref m8, .ref m9, .ref m10, .ref m11, .ref m12, .ref m13, .ref m14, .ref m15, .ref m16, .ref m17, .ref m18, .ref m19, .ref m20, .int s_signs, .ref m21, .int s_stacked, .ref m22, .int s_name, .int s_shift, .int s_statements, .int s_ifs, .int s_whiles, .int s_variants, .int s_open, .ref m23, .int s_isMade, .int s_conditions, .ref m24, .ref m25, .ref m26, .ref m27, .int s_kept, .ref m28, .int s_tops, .ref m29, .int s_used, .ref m30, .ref m31, .int s_looked, .int s_rows, .int s_firstRow, .ref m32, .ref m33, .ref m34, .ref m35, .ref m36, .ref m37, .ref m38, .ref m39, .ref m40, .int s_isBroken, .ref m41, .int s_atoms, .ref m42])), (m28, .inl (ax 0, 180000, .inl kp)), (m32, .inl (ax 0, 30000, .inl (fun j => nI (sup sf1 k1 1 j)))), (m33, .inl (ax 0, 30000, .inl (fun j => nI (sup wt1 k1 2 j)))), (m34, .inl (ax 0, 30000, .inl (fun j => nI (wf1 j))))] := ⟨hP1, hD1⟩
          obtain ⟨hP, hD⟩ := hW7
          clear hP1 hD1 hS1
          refine lv_aload_n hx hb d_Model_measure_64 rfl (lv_at hl1 2 rfl) ?_
          refine va_get (D := D) (ci := 11) (v := .ref m34) (C := R_Model) (T := F_Model) (N := 72) hx hb hts i_Model hown hK.1 hP 0 rfl rfl 61 (by decide) (hts _ wd_1097) (fun _ h9 => h9) rfl d_Model_measure_65 ?_
          refine lv_iload_n hx hb d_Model_measure_68 rfl (lv_at hl1 5 rfl) ?_
          refine lv_iload hx hb d_Model_measure_69 (lv_at hl1 0 rfl) ?_
          refine lv_iconst (v := 2) hx hb d_Model_measure_71 (by decide) ?_
          refine lv_icmp_ne (tgt := 79) hx hb d_Model_measure_72 (by decide) (fun c_76 => ?_) (fun c_76 => ?_)
          · refine lv_iconst (v := 1) hx hb d_Model_measure_79 (by decide) ?_
            refine va_iast hx hb hK.1 hP hD hS 4 0 rfl rfl (vp_in_nI (by first | assumption | omega) (by decide)) d_Model_measure_80 (fun H_77 locs hP1 hD1 hS1 => ?_)
            rw [nI_clamp (by first | exact Nat.lt_of_lt_of_le (by assumption) (by decide) | exact Nat.lt_of_le_of_lt (by assumption) (by decide) | omega)] at hP1 hD1
            rw [xf_supc wf1 k1 1 1 rfl] at hP1 hD1
            clear hP hD hS
            have hS := hS1
            have hW7 : (fun w9 : va_W => va_P D classes w9 H_77 ∧ va_D A w9) [(m0, .inr (11, [.int s_thrown, .int s_taped, .ref m1, .int s_size, .int s_outSize, .ref m2, .int s_kind, .int s_value, .int s_begin, .int s_end, .int s_failed, .ref m3, .ref m4, .ref m5, .int s_isProgram, .int s_half, .ref m6, .ref m7, .ref m8, .ref m9, .ref m10, .ref m11, .ref m12, .ref m13, .ref m14, .ref m15, .ref m16, .ref m17, .ref m18, .ref m19, .ref m20, .int s_signs, .ref m21, .int s_stacked, .ref m22, .int s_name, .int s_shift, .int s_statements, .int s_ifs, .int s_whiles, .int s_variants, .int s_open, .ref m23, .int s_isMade, .int s_conditions, .ref m24, .ref m25, .ref m26, .ref m27, .int s_kept, .ref m28, .int s_tops, .ref m29, .int s_used, .ref m30, .ref m31, .int s_looked, .int s_rows, .int s_firstRow, .ref m32, .ref m33, .ref m34, .ref m35, .ref m36, .ref m37, .ref m38, .ref m39, .ref m40, .int s_isBroken, .ref m41, .int s_atoms, .ref m42])), (m28, .inl (ax 0, 180000, .inl kp)), (m32, .inl (ax 0, 30000, .inl (fun j => nI (sup sf1 k1 1 j)))), (m33, .inl (ax 0, 30000, .inl (fun j => nI (sup wt1 k1 2 j)))), (m34, .inl (ax 0, 30000, .inl (fun j => nI (sup wf1 k1 1 j))))] := ⟨hP1, hD1⟩
            obtain ⟨hP, hD⟩ := hW7
            clear hP1 hD1 hS1
            refine lv_goto (tgt := 287) hx hb d_Model_measure_81 (by decide) ?_
            refine lv_iinc (v := nI (k1 + 1)) (lv' := [(3, .int (nI (k1 + 1))), (5, .int (kp (6 * (fr + k1) + 3))), (4, .int (kp (6 * (fr + k1)))), (0, .ref m0), (1, .int (nI fr)), (2, .int (nI q))]) hx hb d_Model_measure_287 hl1 (k := 5) rfl (nI_add k1 1) (by decide) rfl (fun ls hl2 => ?_)
            clear hl1; have hl1 := hl2; clear hl2
            refine lv_goto (tgt := 2) hx hb d_Model_measure_290 (by decide) ?_
            exact ih_3 (k1 + 1) (sup sf1 k1 1) (sup wt1 k1 2) (sup wf1 k1 1) (by first | assumption | omega) (by first | assumption | omega) (hm1.step (by first | assumption | omega) (by first | assumption | omega) (by rw [Nat.add_sub_cancel, hgx]) (by first | assumption | omega) (by first | assumption | omega) (by first | assumption | omega) (by first | assumption | omega)) (hz1.step (fun q9 => absurd (h0.symm.trans q9) (by decide)) (fun q9 => absurd h0 q9)) (ha1.step (fun _ => rfl)) (rwQ8_a hr1 (by first | assumption | omega) h0 (by first | exact (if_pos (by rw [← show 6 * (fr + k1) + 3 = 6 * fr + 6 * k1 + 3 by omega]; assumption)).symm | exact (if_neg (by rw [← show 6 * (fr + k1) + 3 = 6 * fr + 6 * k1 + 3 by omega]; assumption)).symm) (by first | exact (if_pos (by rw [← show 6 * (fr + k1) + 3 = 6 * fr + 6 * k1 + 3 by omega]; assumption)).symm | exact (if_neg (by rw [← show 6 * (fr + k1) + 3 = 6 * fr + 6 * k1 + 3 by omega]; assumption)).symm)) _ _ _ (hP.sub [0, 1, 2, 3, 4] rfl) (hD.sub [0, 1, 2, 3, 4] (by decide) rfl) hS (lv_sub hl1 [3, 4, 5, 0] rfl)
          · refine lv_iconst (v := 2) hx hb d_Model_measure_75 (by decide) ?_
            refine lv_goto (tgt := 80) hx hb d_Model_measure_76 (by decide) ?_
            refine va_iast hx hb hK.1 hP hD hS 4 0 rfl rfl (vp_in_nI (by first | assumption | omega) (by decide)) d_Model_measure_80 (fun H_78 locs hP1 hD1 hS1 => ?_)
            rw [nI_clamp (by first | exact Nat.lt_of_lt_of_le (by assumption) (by decide) | exact Nat.lt_of_le_of_lt (by assumption) (by decide) | omega)] at hP1 hD1
            rw [xf_supc wf1 k1 2 2 rfl] at hP1 hD1
            clear hP hD hS
            have hS := hS1
            have hW7 : (fun w9 : va_W => va_P D classes w9 H_78 ∧ va_D A w9) [(m0, .inr (11, [.int s_thrown, .int s_taped, .ref m1, .int s_size, .int s_outSize, .ref m2, .int s_kind, .int s_value, .int s_begin, .int s_end, .int s_failed, .ref m3, .ref m4, .ref m5, .int s_isProgram, .int s_half, .ref m6, .ref m7, .ref m8, .ref m9, .ref m10, .ref m11, .ref m12, .ref m13, .ref m14, .ref m15, .ref m16, .ref m17, .ref m18, .ref m19, .ref m20, .int s_signs, .ref m21, .int s_stacked, .ref m22, .int s_name, .int s_shift, .int s_statements, .int s_ifs, .int s_whiles, .int s_variants, .int s_open, .ref m23, .int s_isMade, .int s_conditions, .ref m24, .ref m25, .ref m26, .ref m27, .int s_kept, .ref m28, .int s_tops, .ref m29, .int s_used, .ref m30, .ref m31, .int s_looked, .int s_rows, .int s_firstRow, .ref m32, .ref m33, .ref m34, .ref m35, .ref m36, .ref m37, .ref m38, .ref m39, .ref m40, .int s_isBroken, .ref m41, .int s_atoms, .ref m42])), (m28, .inl (ax 0, 180000, .inl kp)), (m32, .inl (ax 0, 30000, .inl (fun j => nI (sup sf1 k1 1 j)))), (m33, .inl (ax 0, 30000, .inl (fun j => nI (sup wt1 k1 2 j)))), (m34, .inl (ax 0, 30000, .inl (fun j => nI (sup wf1 k1 2 j))))] := ⟨hP1, hD1⟩
            obtain ⟨hP, hD⟩ := hW7
            clear hP1 hD1 hS1
            refine lv_goto (tgt := 287) hx hb d_Model_measure_81 (by decide) ?_
            refine lv_iinc (v := nI (k1 + 1)) (lv' := [(3, .int (nI (k1 + 1))), (5, .int (kp (6 * (fr + k1) + 3))), (4, .int (kp (6 * (fr + k1)))), (0, .ref m0), (1, .int (nI fr)), (2, .int (nI q))]) hx hb d_Model_measure_287 hl1 (k := 5) rfl (nI_add k1 1) (by decide) rfl (fun ls hl2 => ?_)
            clear hl1; have hl1 := hl2; clear hl2
            refine lv_goto (tgt := 2) hx hb d_Model_measure_290 (by decide) ?_
            exact ih_3 (k1 + 1) (sup sf1 k1 1) (sup wt1 k1 2) (sup wf1 k1 2) (by first | assumption | omega) (by first | assumption | omega) (hm1.step (by first | assumption | omega) (by first | assumption | omega) (by rw [Nat.add_sub_cancel, hgx]) (by first | assumption | omega) (by first | assumption | omega) (by first | assumption | omega) (by first | assumption | omega)) (hz1.step (fun q9 => absurd (h0.symm.trans q9) (by decide)) (fun q9 => absurd h0 q9)) (ha1.step (fun _ => rfl)) (rwQ8_a hr1 (by first | assumption | omega) h0 (by first | exact (if_pos (by rw [← show 6 * (fr + k1) + 3 = 6 * fr + 6 * k1 + 3 by omega]; assumption)).symm | exact (if_neg (by rw [← show 6 * (fr + k1) + 3 = 6 * fr + 6 * k1 + 3 by omega]; assumption)).symm) (by first | exact (if_pos (by rw [← show 6 * (fr + k1) + 3 = 6 * fr + 6 * k1 + 3 by omega]; assumption)).symm | exact (if_neg (by rw [← show 6 * (fr + k1) + 3 = 6 * fr + 6 * k1 + 3 by omega]; assumption)).symm)) _ _ _ (hP.sub [0, 1, 2, 3, 4] rfl) (hD.sub [0, 1, 2, 3, 4] (by decide) rfl) hS (lv_sub hl1 [3, 4, 5, 0] rfl)
