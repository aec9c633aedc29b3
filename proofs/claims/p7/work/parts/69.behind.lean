theorem wd_1064 : ((Jvm.Cond.fieldLink "TripleDeskModel" (63 : Nat) "TripleDeskModel" "link" "[I")) ∈ lw_gd := lw_gd_in (i := 1064) (by decide +kernel) rfl
abbrev b_Model_behind : ByteArray := prog_13_method_37_code
def y_Model_behind : MethodName := ⟨R_Model, "behind", "()Z"⟩
theorem d_Model_behind_0 : decode b_Model_behind 0 = .ok (.aload_n 0, 1) := by decide +kernel
theorem d_Model_behind_1 : decode b_Model_behind 1 = .ok (.getfield 199, 3) := by decide +kernel
theorem d_Model_behind_4 : decode b_Model_behind 4 = .ok (.ifCond .ne 214, 3) := by decide +kernel
theorem d_Model_behind_7 : decode b_Model_behind 7 = .ok (.aload_n 0, 1) := by decide +kernel
theorem d_Model_behind_8 : decode b_Model_behind 8 = .ok (.bipush 59, 2) := by decide +kernel
theorem d_Model_behind_10 : decode b_Model_behind 10 = .ok (.invokevirtual 212, 3) := by decide +kernel
theorem d_Model_behind_13 : decode b_Model_behind 13 = .ok (.ifCond .eq 9, 3) := by decide +kernel
theorem d_Model_behind_16 : decode b_Model_behind 16 = .ok (.aload_n 0, 1) := by decide +kernel
theorem d_Model_behind_17 : decode b_Model_behind 17 = .ok (.invokevirtual 203, 3) := by decide +kernel
theorem d_Model_behind_20 : decode b_Model_behind 20 = .ok (.iconst 1, 1) := by decide +kernel
theorem d_Model_behind_21 : decode b_Model_behind 21 = .ok (.ireturn, 1) := by decide +kernel
theorem d_Model_behind_22 : decode b_Model_behind 22 = .ok (.aload_n 0, 1) := by decide +kernel
theorem d_Model_behind_23 : decode b_Model_behind 23 = .ok (.getfield 288, 3) := by decide +kernel
theorem d_Model_behind_26 : decode b_Model_behind 26 = .ok (.ifCond .ne 21, 3) := by decide +kernel
theorem d_Model_behind_29 : decode b_Model_behind 29 = .ok (.aload_n 0, 1) := by decide +kernel
theorem d_Model_behind_30 : decode b_Model_behind 30 = .ok (.aload_n 0, 1) := by decide +kernel
theorem d_Model_behind_31 : decode b_Model_behind 31 = .ok (.getfield 178, 3) := by decide +kernel
theorem d_Model_behind_34 : decode b_Model_behind 34 = .ok (.ifCond .eq 7, 3) := by decide +kernel
theorem d_Model_behind_37 : decode b_Model_behind 37 = .ok (.iconst 1, 1) := by decide +kernel
theorem d_Model_behind_38 : decode b_Model_behind 38 = .ok (.goto 4, 3) := by decide +kernel
theorem d_Model_behind_41 : decode b_Model_behind 41 = .ok (.iconst 0, 1) := by decide +kernel
theorem d_Model_behind_42 : decode b_Model_behind 42 = .ok (.putfield 199, 3) := by decide +kernel
theorem d_Model_behind_45 : decode b_Model_behind 45 = .ok (.iconst 0, 1) := by decide +kernel
theorem d_Model_behind_46 : decode b_Model_behind 46 = .ok (.ireturn, 1) := by decide +kernel
theorem d_Model_behind_47 : decode b_Model_behind 47 = .ok (.aload_n 0, 1) := by decide +kernel
theorem d_Model_behind_48 : decode b_Model_behind 48 = .ok (.getfield 78, 3) := by decide +kernel
theorem d_Model_behind_51 : decode b_Model_behind 51 = .ok (.aload_n 0, 1) := by decide +kernel
theorem d_Model_behind_52 : decode b_Model_behind 52 = .ok (.getfield 288, 3) := by decide +kernel
theorem d_Model_behind_55 : decode b_Model_behind 55 = .ok (.iconst 1, 1) := by decide +kernel
theorem d_Model_behind_56 : decode b_Model_behind 56 = .ok (.isub, 1) := by decide +kernel
theorem d_Model_behind_57 : decode b_Model_behind 57 = .ok (.iaload, 1) := by decide +kernel
theorem d_Model_behind_58 : decode b_Model_behind 58 = .ok (.istore_n 1, 1) := by decide +kernel
theorem d_Model_behind_59 : decode b_Model_behind 59 = .ok (.aload_n 0, 1) := by decide +kernel
theorem d_Model_behind_60 : decode b_Model_behind 60 = .ok (.getfield 29, 3) := by decide +kernel
theorem d_Model_behind_63 : decode b_Model_behind 63 = .ok (.iload_n 1, 1) := by decide +kernel
theorem d_Model_behind_64 : decode b_Model_behind 64 = .ok (.iaload, 1) := by decide +kernel
theorem d_Model_behind_65 : decode b_Model_behind 65 = .ok (.iconst 2, 1) := by decide +kernel
theorem d_Model_behind_66 : decode b_Model_behind 66 = .ok (.if_icmp .ne 44, 3) := by decide +kernel
theorem d_Model_behind_69 : decode b_Model_behind 69 = .ok (.aload_n 0, 1) := by decide +kernel
theorem d_Model_behind_70 : decode b_Model_behind 70 = .ok (.getfield 178, 3) := by decide +kernel
theorem d_Model_behind_73 : decode b_Model_behind 73 = .ok (.bipush 13, 2) := by decide +kernel
theorem d_Model_behind_75 : decode b_Model_behind 75 = .ok (.if_icmp .ne 35, 3) := by decide +kernel
theorem d_Model_behind_78 : decode b_Model_behind 78 = .ok (.aload_n 0, 1) := by decide +kernel
theorem d_Model_behind_79 : decode b_Model_behind 79 = .ok (.iconst 3, 1) := by decide +kernel
theorem d_Model_behind_80 : decode b_Model_behind 80 = .ok (.iconst 0, 1) := by decide +kernel
theorem d_Model_behind_81 : decode b_Model_behind 81 = .ok (.invokevirtual 300, 3) := by decide +kernel
theorem d_Model_behind_84 : decode b_Model_behind 84 = .ok (.istore_n 2, 1) := by decide +kernel
theorem d_Model_behind_85 : decode b_Model_behind 85 = .ok (.aload_n 0, 1) := by decide +kernel
theorem d_Model_behind_86 : decode b_Model_behind 86 = .ok (.getfield 63, 3) := by decide +kernel
theorem d_Model_behind_89 : decode b_Model_behind 89 = .ok (.iload_n 1, 1) := by decide +kernel
theorem d_Model_behind_90 : decode b_Model_behind 90 = .ok (.iload_n 2, 1) := by decide +kernel
theorem d_Model_behind_91 : decode b_Model_behind 91 = .ok (.iastore, 1) := by decide +kernel
theorem d_Model_behind_92 : decode b_Model_behind 92 = .ok (.aload_n 0, 1) := by decide +kernel
theorem d_Model_behind_93 : decode b_Model_behind 93 = .ok (.getfield 78, 3) := by decide +kernel
theorem d_Model_behind_96 : decode b_Model_behind 96 = .ok (.aload_n 0, 1) := by decide +kernel
theorem d_Model_behind_97 : decode b_Model_behind 97 = .ok (.getfield 288, 3) := by decide +kernel
theorem d_Model_behind_100 : decode b_Model_behind 100 = .ok (.iconst 1, 1) := by decide +kernel
theorem d_Model_behind_101 : decode b_Model_behind 101 = .ok (.isub, 1) := by decide +kernel
theorem d_Model_behind_102 : decode b_Model_behind 102 = .ok (.iload_n 2, 1) := by decide +kernel
theorem d_Model_behind_103 : decode b_Model_behind 103 = .ok (.iastore, 1) := by decide +kernel
theorem d_Model_behind_104 : decode b_Model_behind 104 = .ok (.aload_n 0, 1) := by decide +kernel
theorem d_Model_behind_105 : decode b_Model_behind 105 = .ok (.invokevirtual 203, 3) := by decide +kernel
theorem d_Model_behind_108 : decode b_Model_behind 108 = .ok (.iconst 1, 1) := by decide +kernel
theorem d_Model_behind_109 : decode b_Model_behind 109 = .ok (.ireturn, 1) := by decide +kernel
theorem d_Model_behind_110 : decode b_Model_behind 110 = .ok (.aload_n 0, 1) := by decide +kernel
theorem d_Model_behind_111 : decode b_Model_behind 111 = .ok (.getfield 29, 3) := by decide +kernel
theorem d_Model_behind_114 : decode b_Model_behind 114 = .ok (.iload_n 1, 1) := by decide +kernel
theorem d_Model_behind_115 : decode b_Model_behind 115 = .ok (.iaload, 1) := by decide +kernel
theorem d_Model_behind_116 : decode b_Model_behind 116 = .ok (.iconst 3, 1) := by decide +kernel
theorem d_Model_behind_117 : decode b_Model_behind 117 = .ok (.if_icmp .ne 12, 3) := by decide +kernel
theorem d_Model_behind_120 : decode b_Model_behind 120 = .ok (.aload_n 0, 1) := by decide +kernel
theorem d_Model_behind_121 : decode b_Model_behind 121 = .ok (.getfield 178, 3) := by decide +kernel
theorem d_Model_behind_124 : decode b_Model_behind 124 = .ok (.bipush 14, 2) := by decide +kernel
theorem d_Model_behind_126 : decode b_Model_behind 126 = .ok (.if_icmp .eq 22, 3) := by decide +kernel
theorem d_Model_behind_129 : decode b_Model_behind 129 = .ok (.aload_n 0, 1) := by decide +kernel
theorem d_Model_behind_130 : decode b_Model_behind 130 = .ok (.getfield 29, 3) := by decide +kernel
theorem d_Model_behind_133 : decode b_Model_behind 133 = .ok (.iload_n 1, 1) := by decide +kernel
theorem d_Model_behind_134 : decode b_Model_behind 134 = .ok (.iaload, 1) := by decide +kernel
theorem d_Model_behind_135 : decode b_Model_behind 135 = .ok (.iconst 5, 1) := by decide +kernel
theorem d_Model_behind_136 : decode b_Model_behind 136 = .ok (.if_icmp .ne 16, 3) := by decide +kernel
theorem d_Model_behind_139 : decode b_Model_behind 139 = .ok (.aload_n 0, 1) := by decide +kernel
theorem d_Model_behind_140 : decode b_Model_behind 140 = .ok (.getfield 178, 3) := by decide +kernel
theorem d_Model_behind_143 : decode b_Model_behind 143 = .ok (.bipush 19, 2) := by decide +kernel
theorem d_Model_behind_145 : decode b_Model_behind 145 = .ok (.if_icmp .ne 7, 3) := by decide +kernel
theorem d_Model_behind_148 : decode b_Model_behind 148 = .ok (.iconst 1, 1) := by decide +kernel
theorem d_Model_behind_149 : decode b_Model_behind 149 = .ok (.goto 4, 3) := by decide +kernel
theorem d_Model_behind_152 : decode b_Model_behind 152 = .ok (.iconst 0, 1) := by decide +kernel
theorem d_Model_behind_153 : decode b_Model_behind 153 = .ok (.istore_n 2, 1) := by decide +kernel
theorem d_Model_behind_154 : decode b_Model_behind 154 = .ok (.iload_n 2, 1) := by decide +kernel
theorem d_Model_behind_155 : decode b_Model_behind 155 = .ok (.ifCond .ne 10, 3) := by decide +kernel
theorem d_Model_behind_158 : decode b_Model_behind 158 = .ok (.aload_n 0, 1) := by decide +kernel
theorem d_Model_behind_159 : decode b_Model_behind 159 = .ok (.iconst 1, 1) := by decide +kernel
theorem d_Model_behind_160 : decode b_Model_behind 160 = .ok (.putfield 199, 3) := by decide +kernel
theorem d_Model_behind_163 : decode b_Model_behind 163 = .ok (.iconst 0, 1) := by decide +kernel
theorem d_Model_behind_164 : decode b_Model_behind 164 = .ok (.ireturn, 1) := by decide +kernel
theorem d_Model_behind_165 : decode b_Model_behind 165 = .ok (.aload_n 0, 1) := by decide +kernel
theorem d_Model_behind_166 : decode b_Model_behind 166 = .ok (.aload_n 0, 1) := by decide +kernel
theorem d_Model_behind_167 : decode b_Model_behind 167 = .ok (.getfield 29, 3) := by decide +kernel
theorem d_Model_behind_170 : decode b_Model_behind 170 = .ok (.iload_n 1, 1) := by decide +kernel
theorem d_Model_behind_171 : decode b_Model_behind 171 = .ok (.iaload, 1) := by decide +kernel
theorem d_Model_behind_172 : decode b_Model_behind 172 = .ok (.iconst 3, 1) := by decide +kernel
theorem d_Model_behind_173 : decode b_Model_behind 173 = .ok (.if_icmp .ne 7, 3) := by decide +kernel
theorem d_Model_behind_176 : decode b_Model_behind 176 = .ok (.iconst 4, 1) := by decide +kernel
theorem d_Model_behind_177 : decode b_Model_behind 177 = .ok (.goto 5, 3) := by decide +kernel
theorem d_Model_behind_180 : decode b_Model_behind 180 = .ok (.bipush 6, 2) := by decide +kernel
theorem d_Model_behind_182 : decode b_Model_behind 182 = .ok (.iconst 0, 1) := by decide +kernel
theorem d_Model_behind_183 : decode b_Model_behind 183 = .ok (.invokevirtual 300, 3) := by decide +kernel
theorem d_Model_behind_186 : decode b_Model_behind 186 = .ok (.istore_n 3, 1) := by decide +kernel
theorem d_Model_behind_187 : decode b_Model_behind 187 = .ok (.aload_n 0, 1) := by decide +kernel
theorem d_Model_behind_188 : decode b_Model_behind 188 = .ok (.getfield 63, 3) := by decide +kernel
theorem d_Model_behind_191 : decode b_Model_behind 191 = .ok (.iload_n 1, 1) := by decide +kernel
theorem d_Model_behind_192 : decode b_Model_behind 192 = .ok (.iload_n 3, 1) := by decide +kernel
theorem d_Model_behind_193 : decode b_Model_behind 193 = .ok (.iastore, 1) := by decide +kernel
theorem d_Model_behind_194 : decode b_Model_behind 194 = .ok (.aload_n 0, 1) := by decide +kernel
theorem d_Model_behind_195 : decode b_Model_behind 195 = .ok (.getfield 63, 3) := by decide +kernel
theorem d_Model_behind_198 : decode b_Model_behind 198 = .ok (.iload_n 3, 1) := by decide +kernel
theorem d_Model_behind_199 : decode b_Model_behind 199 = .ok (.iload_n 1, 1) := by decide +kernel
theorem d_Model_behind_200 : decode b_Model_behind 200 = .ok (.iastore, 1) := by decide +kernel
theorem d_Model_behind_201 : decode b_Model_behind 201 = .ok (.aload_n 0, 1) := by decide +kernel
theorem d_Model_behind_202 : decode b_Model_behind 202 = .ok (.dup, 1) := by decide +kernel
theorem d_Model_behind_203 : decode b_Model_behind 203 = .ok (.getfield 288, 3) := by decide +kernel
theorem d_Model_behind_206 : decode b_Model_behind 206 = .ok (.iconst 1, 1) := by decide +kernel
theorem d_Model_behind_207 : decode b_Model_behind 207 = .ok (.isub, 1) := by decide +kernel
theorem d_Model_behind_208 : decode b_Model_behind 208 = .ok (.putfield 288, 3) := by decide +kernel
theorem d_Model_behind_211 : decode b_Model_behind 211 = .ok (.aload_n 0, 1) := by decide +kernel
theorem d_Model_behind_212 : decode b_Model_behind 212 = .ok (.invokevirtual 203, 3) := by decide +kernel
theorem d_Model_behind_215 : decode b_Model_behind 215 = .ok (.goto (-215), 3) := by decide +kernel
set_option maxHeartbeats 40000000 in
set_option maxRecDepth 100000 in
theorem c_M_behind (l : Launch) (D : va_G) (ax : Nat → ClassId) (m0 m1 m2 m3 m4 m5 m6 m7 m8 m9 m10 m11 m12 m13 m14 m15 m16 m17 m18 m19 m20 m21 m22 m23 m24 m25 m26 m27 m28 m29 m30 m31 m32 m33 m34 m35 m36 m37 m38 m39 m40 m41 m42 : Nat) (s_thrown s_taped s_outSize s_isProgram s_signs s_stacked s_name s_shift s_statements s_ifs s_whiles s_variants s_isMade s_conditions s_kept s_tops s_used s_looked s_rows s_firstRow s_isBroken s_atoms : Int32) (n b en k v : Nat) (g : Nat → Nat) (hf on sn fn wn PP : Nat) (it op nu lk opn fi fs se ss tg gs : Nat → Nat) (vr tn pl tm : Nat → Int32) (sz : Nat) (hn : n ≤ 400) (hg : ∀ j, g j < 256) (hbe : b ≤ en) (hen : en ≤ n) (hk0 : tk0 k b en) (hk : k < 10000) (hv : v < 20000) (hkv : tkq g n b en k v) (hhf : hf ≤ 1) (hpg : pgm (1 - hf) (it (1 - hf)) on sn fn wn PP op lk fi fs se ss tg gs opn tn vr pl) (hsn : sn ≤ 20) (hfn : fn ≤ 4) (hwn : wn ≤ 4) : Met l y_Model_behind (xws (.code y_Model_behind b_Model_behind 4 (some .boolean))) ({ frames := 50, cells := 0, slots := 0, locals := 2000 }) (va_Pc [.ref m0] (xo D ax [(m0, .inr (11, [.int s_thrown, .int s_taped, .ref m1, .int (nI n), .int s_outSize, .ref m2, .int (nI k), .int (nI v), .int (nI b), .int (nI en), .int 0, .ref m3, .ref m4, .ref m5, .int s_isProgram, .int (nI hf), .ref m6, .ref m7, .ref m8, .ref m9, .ref m10, .ref m11, .ref m12, .ref m13, .ref m14, .ref m15, .ref m16, .ref m17, .ref m18, .ref m19, .ref m20, .int s_signs, .ref m21, .int s_stacked, .ref m22, .int s_name, .int s_shift, .int s_statements, .int s_ifs, .int s_whiles, .int s_variants, .int (nI on), .ref m23, .int s_isMade, .int s_conditions, .ref m24, .ref m25, .ref m26, .ref m27, .int s_kept, .ref m28, .int s_tops, .ref m29, .int s_used, .ref m30, .ref m31, .int s_looked, .int s_rows, .int s_firstRow, .ref m32, .ref m33, .ref m34, .ref m35, .ref m36, .ref m37, .ref m38, .ref m39, .ref m40, .int s_isBroken, .ref m41, .int s_atoms, .ref m42])), (m1, .inl (ax 0, 400, .inl (fun j => nI (g j)))), (m6, .inl (ax 0, 2, .inl (fun j => nI (it j)))), (m7, .inl (ax 0, 80, .inl (fun j => nI (op j)))), (m8, .inl (ax 0, 80, .inl (fun j => nI (nu j)))), (m16, .inl (ax 3, 80, .inl vr)), (m18, .inl (ax 0, 80, .inl (fun j => nI (lk j)))), (m23, .inl (ax 0, 16, .inl (fun j => nI (opn j))))] sz)) ((va_Qi (fun (r : Int32) (u : Nat → Nat) => r = nI (u 6) ∧ (b ≤ u 0 ∧ u 0 ≤ u 1 ∧ u 1 ≤ n ∧ tk0 (u 2) (u 0) (u 1) ∧ u 2 < 10000 ∧ u 3 < 20000 ∧ tkq g n (u 0) (u 1) (u 2) (u 3) ∧ u 4 ≤ 1 ∧ u 6 ≤ 1)) (fun (u : Nat → Nat) (t9 : State) => ∃ xit : Nat → Nat, ∃ xop : Nat → Nat, ∃ xnu : Nat → Nat, ∃ xlk : Nat → Nat, ∃ xopn : Nat → Nat, ∃ xvr : Nat → Int32, (frb (1 - hf) op xop) ∧ (frb (1 - hf) lk xlk) ∧ (frb (1 - hf) vr xvr) ∧ (fr1 (1 - hf) it xit) ∧ (imp0 (u 4) ((pgm (1 - hf) (xit (1 - hf)) (u 5) sn fn wn PP xop xlk fi fs se ss tg gs xopn tn xvr pl ∧ (u 6 = 1 ∨ u 5 = 0)))) ∧ (imp1 (u 4) (pgY g n b (oki op nu tg gs fi fs se ss tn tm vr pl opn on) sn fn wn (itl op nu tg gs lk fi fs se ss tn tm vr pl (40 * (1 - hf)) (it (1 - hf))) (u 0))) ∧ (imp0 (u 4) (pgV g n b (oki op nu tg gs fi fs se ss tn tm vr pl opn on) sn fn wn (itl op nu tg gs lk fi fs se ss tn tm vr pl (40 * (1 - hf)) (it (1 - hf))) (u 6) (u 0) (oki xop xnu tg gs fi fs se ss tn tm xvr pl xopn (u 5)) (itl xop xnu tg gs xlk fi fs se ss tn tm xvr pl (40 * (1 - hf)) (xit (1 - hf))))) ∧ (imp0 (u 4) (vct (itl xop xnu tg gs xlk fi fs se ss tn tm xvr pl (40 * (1 - hf)) (xit (1 - hf))) = vct (itl op nu tg gs lk fi fs se ss tn tm vr pl (40 * (1 - hf)) (it (1 - hf))))) ∧ (frb (1 - hf) nu xnu) ∧ va_P D classes [(m0, .inr (11, [.int s_thrown, .int s_taped, .ref m1, .int (nI n), .int s_outSize, .ref m2, .int (nI (u 2)), .int (nI (u 3)), .int (nI (u 0)), .int (nI (u 1)), .int (nI (u 4)), .ref m3, .ref m4, .ref m5, .int s_isProgram, .int (nI hf), .ref m6, .ref m7, .ref m8, .ref m9, .ref m10, .ref m11, .ref m12, .ref m13, .ref m14, .ref m15, .ref m16, .ref m17, .ref m18, .ref m19, .ref m20, .int s_signs, .ref m21, .int s_stacked, .ref m22, .int s_name, .int s_shift, .int s_statements, .int s_ifs, .int s_whiles, .int s_variants, .int (nI (u 5)), .ref m23, .int s_isMade, .int s_conditions, .ref m24, .ref m25, .ref m26, .ref m27, .int s_kept, .ref m28, .int s_tops, .ref m29, .int s_used, .ref m30, .ref m31, .int s_looked, .int s_rows, .int s_firstRow, .ref m32, .ref m33, .ref m34, .ref m35, .ref m36, .ref m37, .ref m38, .ref m39, .ref m40, .int s_isBroken, .ref m41, .int s_atoms, .ref m42])), (m1, .inl (ax 0, 400, .inl (fun j => nI (g j)))), (m6, .inl (ax 0, 2, .inl (fun j => nI (xit j)))), (m7, .inl (ax 0, 80, .inl (fun j => nI (xop j)))), (m8, .inl (ax 0, 80, .inl (fun j => nI (xnu j)))), (m16, .inl (ax 3, 80, .inl xvr)), (m18, .inl (ax 0, 80, .inl (fun j => nI (xlk j)))), (m23, .inl (ax 0, 16, .inl (fun j => nI (xopn j))))] t9.heap ∧ va_D (va_A [(m0, .inr (11, [.int s_thrown, .int s_taped, .ref m1, .int (nI n), .int s_outSize, .ref m2, .int (nI k), .int (nI v), .int (nI b), .int (nI en), .int 0, .ref m3, .ref m4, .ref m5, .int s_isProgram, .int (nI hf), .ref m6, .ref m7, .ref m8, .ref m9, .ref m10, .ref m11, .ref m12, .ref m13, .ref m14, .ref m15, .ref m16, .ref m17, .ref m18, .ref m19, .ref m20, .int s_signs, .ref m21, .int s_stacked, .ref m22, .int s_name, .int s_shift, .int s_statements, .int s_ifs, .int s_whiles, .int s_variants, .int (nI on), .ref m23, .int s_isMade, .int s_conditions, .ref m24, .ref m25, .ref m26, .ref m27, .int s_kept, .ref m28, .int s_tops, .ref m29, .int s_used, .ref m30, .ref m31, .int s_looked, .int s_rows, .int s_firstRow, .ref m32, .ref m33, .ref m34, .ref m35, .ref m36, .ref m37, .ref m38, .ref m39, .ref m40, .int s_isBroken, .ref m41, .int s_atoms, .ref m42])), (m1, .inl (ax 0, 400, .inl (fun j => nI (g j)))), (m6, .inl (ax 0, 2, .inl (fun j => nI (it j)))), (m7, .inl (ax 0, 80, .inl (fun j => nI (op j)))), (m8, .inl (ax 0, 80, .inl (fun j => nI (nu j)))), (m16, .inl (ax 3, 80, .inl vr)), (m18, .inl (ax 0, 80, .inl (fun j => nI (lk j)))), (m23, .inl (ax 0, 16, .inl (fun j => nI (opn j))))] sz) [(m0, .inr (11, [.int s_thrown, .int s_taped, .ref m1, .int (nI n), .int s_outSize, .ref m2, .int (nI (u 2)), .int (nI (u 3)), .int (nI (u 0)), .int (nI (u 1)), .int (nI (u 4)), .ref m3, .ref m4, .ref m5, .int s_isProgram, .int (nI hf), .ref m6, .ref m7, .ref m8, .ref m9, .ref m10, .ref m11, .ref m12, .ref m13, .ref m14, .ref m15, .ref m16, .ref m17, .ref m18, .ref m19, .ref m20, .int s_signs, .ref m21, .int s_stacked, .ref m22, .int s_name, .int s_shift, .int s_statements, .int s_ifs, .int s_whiles, .int s_variants, .int (nI (u 5)), .ref m23, .int s_isMade, .int s_conditions, .ref m24, .ref m25, .ref m26, .ref m27, .int s_kept, .ref m28, .int s_tops, .ref m29, .int s_used, .ref m30, .ref m31, .int s_looked, .int s_rows, .int s_firstRow, .ref m32, .ref m33, .ref m34, .ref m35, .ref m36, .ref m37, .ref m38, .ref m39, .ref m40, .int s_isBroken, .ref m41, .int s_atoms, .ref m42])), (m1, .inl (ax 0, 400, .inl (fun j => nI (g j)))), (m6, .inl (ax 0, 2, .inl (fun j => nI (xit j)))), (m7, .inl (ax 0, 80, .inl (fun j => nI (xop j)))), (m8, .inl (ax 0, 80, .inl (fun j => nI (xnu j)))), (m16, .inl (ax 3, 80, .inl xvr)), (m18, .inl (ax 0, 80, .inl (fun j => nI (xlk j)))), (m23, .inl (ax 0, 16, .inl (fun j => nI (xopn j))))]) (va_A [(m0, .inr (11, [.int s_thrown, .int s_taped, .ref m1, .int (nI n), .int s_outSize, .ref m2, .int (nI k), .int (nI v), .int (nI b), .int (nI en), .int 0, .ref m3, .ref m4, .ref m5, .int s_isProgram, .int (nI hf), .ref m6, .ref m7, .ref m8, .ref m9, .ref m10, .ref m11, .ref m12, .ref m13, .ref m14, .ref m15, .ref m16, .ref m17, .ref m18, .ref m19, .ref m20, .int s_signs, .ref m21, .int s_stacked, .ref m22, .int s_name, .int s_shift, .int s_statements, .int s_ifs, .int s_whiles, .int s_variants, .int (nI on), .ref m23, .int s_isMade, .int s_conditions, .ref m24, .ref m25, .ref m26, .ref m27, .int s_kept, .ref m28, .int s_tops, .ref m29, .int s_used, .ref m30, .ref m31, .int s_looked, .int s_rows, .int s_firstRow, .ref m32, .ref m33, .ref m34, .ref m35, .ref m36, .ref m37, .ref m38, .ref m39, .ref m40, .int s_isBroken, .ref m41, .int s_atoms, .ref m42])), (m1, .inl (ax 0, 400, .inl (fun j => nI (g j)))), (m6, .inl (ax 0, 2, .inl (fun j => nI (it j)))), (m7, .inl (ax 0, 80, .inl (fun j => nI (op j)))), (m8, .inl (ax 0, 80, .inl (fun j => nI (nu j)))), (m16, .inl (ax 3, 80, .inl vr)), (m18, .inl (ax 0, 80, .inl (fun j => nI (lk j)))), (m23, .inl (ax 0, 16, .inl (fun j => nI (opn j))))] sz))) 0 0 (va_A [(m0, .inr (11, [.int s_thrown, .int s_taped, .ref m1, .int (nI n), .int s_outSize, .ref m2, .int (nI k), .int (nI v), .int (nI b), .int (nI en), .int 0, .ref m3, .ref m4, .ref m5, .int s_isProgram, .int (nI hf), .ref m6, .ref m7, .ref m8, .ref m9, .ref m10, .ref m11, .ref m12, .ref m13, .ref m14, .ref m15, .ref m16, .ref m17, .ref m18, .ref m19, .ref m20, .int s_signs, .ref m21, .int s_stacked, .ref m22, .int s_name, .int s_shift, .int s_statements, .int s_ifs, .int s_whiles, .int s_variants, .int (nI on), .ref m23, .int s_isMade, .int s_conditions, .ref m24, .ref m25, .ref m26, .ref m27, .int s_kept, .ref m28, .int s_tops, .ref m29, .int s_used, .ref m30, .ref m31, .int s_looked, .int s_rows, .int s_firstRow, .ref m32, .ref m33, .ref m34, .ref m35, .ref m36, .ref m37, .ref m38, .ref m39, .ref m40, .int s_isBroken, .ref m41, .int s_atoms, .ref m42])), (m1, .inl (ax 0, 400, .inl (fun j => nI (g j)))), (m6, .inl (ax 0, 2, .inl (fun j => nI (it j)))), (m7, .inl (ax 0, 80, .inl (fun j => nI (op j)))), (m8, .inl (ax 0, 80, .inl (fun j => nI (nu j)))), (m16, .inl (ax 3, 80, .inl vr)), (m18, .inl (ax 0, 80, .inl (fun j => nI (lk j)))), (m23, .inl (ax 0, 16, .inl (fun j => nI (opn j))))] sz) := by
  refine Met.ofW (cc := b_Model_behind) (maxL := 4) (ret := (some .boolean)) (by decide) rfl ?_
  intro p e s m args below meth c s₁ B hml hv
  obtain ⟨rfl, hsz, hP, hK, hD0⟩ := hv
  have hx := B.exec
  have hb := B.bytes
  have hr := B.returns
  have hts := xw_hts B.pre
  have hown : s.vm.findClass R_Model = some m.cls := findClass_of_methodNamed B.named
  have hlocks := B.notSynchronized
  subst hsz
  have hD := hD0.self (sz := s.heap.size)
  have hN := xz_entry hP
  generalize hAe : va_A [(m0, .inr (11, [.int s_thrown, .int s_taped, .ref m1, .int (nI n), .int s_outSize, .ref m2, .int (nI k), .int (nI v), .int (nI b), .int (nI en), .int 0, .ref m3, .ref m4, .ref m5, .int s_isProgram, .int (nI hf), .ref m6, .ref m7, .ref m8, .ref m9, .ref m10, .ref m11, .ref m12, .ref m13, .ref m14, .ref m15, .ref m16, .ref m17, .ref m18, .ref m19, .ref m20, .int s_signs, .ref m21, .int s_stacked, .ref m22, .int s_name, .int s_shift, .int s_statements, .int s_ifs, .int s_whiles, .int s_variants, .int (nI on), .ref m23, .int s_isMade, .int s_conditions, .ref m24, .ref m25, .ref m26, .ref m27, .int s_kept, .ref m28, .int s_tops, .ref m29, .int s_used, .ref m30, .ref m31, .int s_looked, .int s_rows, .int s_firstRow, .ref m32, .ref m33, .ref m34, .ref m35, .ref m36, .ref m37, .ref m38, .ref m39, .ref m40, .int s_isBroken, .ref m41, .int s_atoms, .ref m42])), (m1, .inl (ax 0, 400, .inl (fun j => nI (g j)))), (m6, .inl (ax 0, 2, .inl (fun j => nI (it j)))), (m7, .inl (ax 0, 80, .inl (fun j => nI (op j)))), (m8, .inl (ax 0, 80, .inl (fun j => nI (nu j)))), (m16, .inl (ax 3, 80, .inl vr)), (m18, .inl (ax 0, 80, .inl (fun j => nI (lk j)))), (m23, .inl (ax 0, 16, .inl (fun j => nI (opn j))))] s.heap.size = A at hD hN ⊢
  have hA : ∀ q : Nat, s.heap.size ≤ q → A q := fun q h => by rw [← hAe]; exact Or.inr h
  have hS : va_S A s.heap s.heap [] := va_S.rf
  have hl0 := lv_entry ([.ref m0]) (n := 4) (Nat.le_of_ble_eq_true rfl)
  rw [lg_entry_eq]
  generalize (lg_sl ([.ref m0]) ++ List.replicate (4 - (lg_sl ([.ref m0])).length) Slot.unset).toArray = ls at hl0 ⊢
  have hl1 : lv_has ls 4 [(0, .ref m0)] := hl0
  refine xw_gen (fun Z9 hQe => ?_)
  suffices key_1 : ∀ (k : Nat) (b1 e1 k1 v1 d1 : Nat) (it1 op1 nu1 lk1 : Nat → Nat) (vr1 : Nat → Int32), d1 < k → b ≤ b1 → b1 ≤ e1 → e1 ≤ n → tk0 k1 b1 e1 → k1 < 10000 → v1 < 20000 → tkq g n b1 e1 k1 v1 → pgm (1 - hf) (it1 (1 - hf)) d1 sn fn wn PP op1 lk1 fi fs se ss tg gs opn tn vr1 pl → frb (1 - hf) op op1 → frb (1 - hf) lk lk1 → frb (1 - hf) vr vr1 → fr1 (1 - hf) it it1 → pgB g n b (oki op nu tg gs fi fs se ss tn tm vr pl opn on) (itl op nu tg gs lk fi fs se ss tn tm vr pl (40 * (1 - hf)) (it (1 - hf))) b1 (oki op1 nu1 tg gs fi fs se ss tn tm vr1 pl opn d1) sn fn wn (itl op1 nu1 tg gs lk1 fi fs se ss tn tm vr1 pl (40 * (1 - hf)) (it1 (1 - hf))) → vct (itl op1 nu1 tg gs lk1 fi fs se ss tn tm vr1 pl (40 * (1 - hf)) (it1 (1 - hf))) = vct (itl op nu tg gs lk fi fs se ss tn tm vr pl (40 * (1 - hf)) (it (1 - hf))) → frb (1 - hf) nu nu1 → ∀ (H : Heap) (locs : List Loc) (ls : Array Slot), va_P D classes [(m0, .inr (11, [.int s_thrown, .int s_taped, .ref m1, .int (nI n), .int s_outSize, .ref m2, .int (nI k1), .int (nI v1), .int (nI b1), .int (nI e1), .int 0, .ref m3, .ref m4, .ref m5, .int s_isProgram, .int (nI hf), .ref m6, .ref m7, .ref m8, .ref m9, .ref m10, .ref m11, .ref m12, .ref m13, .ref m14, .ref m15, .ref m16, .ref m17, .ref m18, .ref m19, .ref m20, .int s_signs, .ref m21, .int s_stacked, .ref m22, .int s_name, .int s_shift, .int s_statements, .int s_ifs, .int s_whiles, .int s_variants, .int (nI d1), .ref m23, .int s_isMade, .int s_conditions, .ref m24, .ref m25, .ref m26, .ref m27, .int s_kept, .ref m28, .int s_tops, .ref m29, .int s_used, .ref m30, .ref m31, .int s_looked, .int s_rows, .int s_firstRow, .ref m32, .ref m33, .ref m34, .ref m35, .ref m36, .ref m37, .ref m38, .ref m39, .ref m40, .int s_isBroken, .ref m41, .int s_atoms, .ref m42])), (m1, .inl (ax 0, 400, .inl (fun j => nI (g j)))), (m6, .inl (ax 0, 2, .inl (fun j => nI (it1 j)))), (m7, .inl (ax 0, 80, .inl (fun j => nI (op1 j)))), (m8, .inl (ax 0, 80, .inl (fun j => nI (nu1 j)))), (m16, .inl (ax 3, 80, .inl vr1)), (m18, .inl (ax 0, 80, .inl (fun j => nI (lk1 j)))), (m23, .inl (ax 0, 16, .inl (fun j => nI (opn j))))] H → va_D A [(m0, .inr (11, [.int s_thrown, .int s_taped, .ref m1, .int (nI n), .int s_outSize, .ref m2, .int (nI k1), .int (nI v1), .int (nI b1), .int (nI e1), .int 0, .ref m3, .ref m4, .ref m5, .int s_isProgram, .int (nI hf), .ref m6, .ref m7, .ref m8, .ref m9, .ref m10, .ref m11, .ref m12, .ref m13, .ref m14, .ref m15, .ref m16, .ref m17, .ref m18, .ref m19, .ref m20, .int s_signs, .ref m21, .int s_stacked, .ref m22, .int s_name, .int s_shift, .int s_statements, .int s_ifs, .int s_whiles, .int s_variants, .int (nI d1), .ref m23, .int s_isMade, .int s_conditions, .ref m24, .ref m25, .ref m26, .ref m27, .int s_kept, .ref m28, .int s_tops, .ref m29, .int s_used, .ref m30, .ref m31, .int s_looked, .int s_rows, .int s_firstRow, .ref m32, .ref m33, .ref m34, .ref m35, .ref m36, .ref m37, .ref m38, .ref m39, .ref m40, .int s_isBroken, .ref m41, .int s_atoms, .ref m42])), (m1, .inl (ax 0, 400, .inl (fun j => nI (g j)))), (m6, .inl (ax 0, 2, .inl (fun j => nI (it1 j)))), (m7, .inl (ax 0, 80, .inl (fun j => nI (op1 j)))), (m8, .inl (ax 0, 80, .inl (fun j => nI (nu1 j)))), (m16, .inl (ax 3, 80, .inl vr1)), (m18, .inl (ax 0, 80, .inl (fun j => nI (lk1 j)))), (m23, .inl (ax 0, 16, .inl (fun j => nI (opn j))))] → va_S A s.heap H locs → lv_has ls 4 [(0, .ref m0)] → W p l e (headSpec (xws (.code y_Model_behind b_Model_behind 4 (some .boolean))) ({ frames := 50, cells := 0, slots := 0, locals := 2000 })).room s m ([.ref m0] : List Value).toArray below meth c H locs 0 0 Z9 (F0 m 0 ls []) from key_1 (on + 1) b en k v on it op nu lk vr (Nat.lt_succ_self _) (by first | assumption | omega) (by first | assumption | omega) (by first | assumption | omega) hk0 (by first | assumption | omega) (by first | assumption | omega) hkv hpg frb.rf frb.rf frb.rf fr1.rf (fun r q => q) rfl frb.rf _ _ _ (hP) (hD) hS (lv_sub hl1 [0] rfl)
  intro k_2
  induction k_2 with
  | zero =>
    intro b1 e1 k1 v1 d1 it1 op1 nu1 lk1 vr1 hk_4
    exact absurd hk_4 (Nat.not_lt_zero _)
  | succ k_2 ih_3 =>
    clear hP hD hS hl1
    intro b1 e1 k1 v1 d1 it1 op1 nu1 lk1 vr1 hk_4 g1 g2 g3 g4 g5 g6 g7 hpg1 q1 q2 q3 q4 hB hW q5 H locs ls hP hD hS hl1
    refine lv_aload_n hx hb d_Model_behind_0 rfl (lv_at hl1 0 rfl) ?_
    refine va_get (D := D) (ci := 11) (v := .int 0) (C := R_Model) (T := F_Model) (N := 72) hx hb hts i_Model hown hK.1 hP 0 rfl rfl 10 (by decide) (hts _ wd_1046) (fun _ h9 => h9) rfl d_Model_behind_1 ?_
    obtain ⟨hpn, hpo⟩ := pgm_n hpg1
    refine lv_if_ne (tgt := 218) hx hb d_Model_behind_4 (by decide) (fun c_5 => ?_) (fun c_5 => ?_)
    · first | exact absurd c_5 (by decide) | exact absurd (by decide) c_5
    refine lv_aload_n hx hb d_Model_behind_7 rfl (lv_at hl1 0 rfl) ?_
    refine lv_bipush (v := 59) hx hb d_Model_behind_8 (by decide) ?_
    obtain ⟨hPc, hDc, hFc, hCs⟩ := xw_sub3 (wc := [(m0, .inr (11, [.int s_thrown, .int s_taped, .ref m1, .int (nI n), .int s_outSize, .ref m2, .int (nI k1), .int (nI v1), .int (nI b1), .int (nI e1), .int 0, .ref m3, .ref m4, .ref m5, .int s_isProgram, .int (nI hf), .ref m6, .ref m7, .ref m8, .ref m9, .ref m10, .ref m11, .ref m12, .ref m13, .ref m14, .ref m15, .ref m16, .ref m17, .ref m18, .ref m19, .ref m20, .int s_signs, .ref m21, .int s_stacked, .ref m22, .int s_name, .int s_shift, .int s_statements, .int s_ifs, .int s_whiles, .int s_variants, .int (nI d1), .ref m23, .int s_isMade, .int s_conditions, .ref m24, .ref m25, .ref m26, .ref m27, .int s_kept, .ref m28, .int s_tops, .ref m29, .int s_used, .ref m30, .ref m31, .int s_looked, .int s_rows, .int s_firstRow, .ref m32, .ref m33, .ref m34, .ref m35, .ref m36, .ref m37, .ref m38, .ref m39, .ref m40, .int s_isBroken, .ref m41, .int s_atoms, .ref m42]))]) hP hD hS hA [0] (by decide) rfl
    have hz := xz_of hN hS
    refine va_calli (va_runV (As := [.int 59]) (rest := []) ⟨hx, hb, hml, hown, hts⟩ (c_M_is l D ax m0 m1 m2 m3 m4 m5 m6 m7 m8 m9 m10 m11 m12 m13 m14 m15 m16 m17 m18 m19 m20 m21 m22 m23 m24 m25 m26 m27 m28 m29 m30 m31 m32 m33 m34 m35 m36 m37 m38 m39 m40 m41 m42 s_thrown s_taped (nI n) s_outSize (nI v1) (nI b1) (nI e1) 0 s_isProgram (nI hf) s_signs s_stacked s_name s_shift s_statements s_ifs s_whiles s_variants (nI d1) s_isMade s_conditions s_kept s_tops s_used s_looked s_rows s_firstRow s_isBroken s_atoms k1 59 H.size (by first | assumption | omega) (by first | assumption | omega)) (xcV (n := 1) hts wd_1319 wd_15 wd_1316 wd_1318 ps_57 rfl rfl (by decide +kernel) ⟨Nat.le_of_ble_eq_true rfl, Nat.le_of_ble_eq_true rfl⟩) (xpV (ci := 11) (q0 := 0) (As := [.int 59]) hPc hK hz hDc rfl rfl) rfl rfl hl1.1 rfl (lv_room (Nat.le_of_ble_eq_true rfl)) d_Model_behind_10 ⟨Nat.le_of_ble_eq_true rfl, Nat.le_of_ble_eq_true rfl⟩) hS (fun q _ h => hFc q h) hFc (fun r_8 u_6 t H_7 locs ht hvm hw hB hz1 hk1 hS1 => ?_)
    try dsimp only at hw
    subst hw
    obtain ⟨hP1, hD1⟩ := hB
    rw [ht] at hP1
    have hjn := xw_join3 (wl := [(m1, .inl (ax 0, 400, .inl (fun j => nI (g j)))), (m6, .inl (ax 0, 2, .inl (fun j => nI (it1 j)))), (m7, .inl (ax 0, 80, .inl (fun j => nI (op1 j)))), (m8, .inl (ax 0, 80, .inl (fun j => nI (nu1 j)))), (m16, .inl (ax 3, 80, .inl vr1)), (m18, .inl (ax 0, 80, .inl (fun j => nI (lk1 j)))), (m23, .inl (ax 0, 16, .inl (fun j => nI (opn j)))), (m0, .inr (11, [.int s_thrown, .int s_taped, .ref m1, .int (nI n), .int s_outSize, .ref m2, .int (nI k1), .int (nI v1), .int (nI b1), .int (nI e1), .int 0, .ref m3, .ref m4, .ref m5, .int s_isProgram, .int (nI hf), .ref m6, .ref m7, .ref m8, .ref m9, .ref m10, .ref m11, .ref m12, .ref m13, .ref m14, .ref m15, .ref m16, .ref m17, .ref m18, .ref m19, .ref m20, .int s_signs, .ref m21, .int s_stacked, .ref m22, .int s_name, .int s_shift, .int s_statements, .int s_ifs, .int s_whiles, .int s_variants, .int (nI d1), .ref m23, .int s_isMade, .int s_conditions, .ref m24, .ref m25, .ref m26, .ref m27, .int s_kept, .ref m28, .int s_tops, .ref m29, .int s_used, .ref m30, .ref m31, .int s_looked, .int s_rows, .int s_firstRow, .ref m32, .ref m33, .ref m34, .ref m35, .ref m36, .ref m37, .ref m38, .ref m39, .ref m40, .int s_isBroken, .ref m41, .int s_atoms, .ref m42]))]) hP hD [0] [1, 2, 3, 4, 5, 6, 7] hCs (by decide) (by decide) hk1 hFc hP1 hD1 rfl
    clear hP1 hD1
    clear hPc hDc hFc hCs hz hz1 hk1 ht hvm
    clear hP hD hS
    have hS := hS1
    obtain ⟨hP, hD⟩ := hjn
    clear hS1
    refine lv_if_eq (tgt := 22) hx hb d_Model_behind_13 (by decide) (fun c_9 => ?_) (fun c_9 => ?_)
    · replace c_9 : ¬ (k1 = 200 + 59) := zb_n c_9
      refine lv_aload_n hx hb d_Model_behind_22 rfl (lv_at hl1 0 rfl) ?_
      refine va_get (D := D) (ci := 11) (v := .int (nI d1)) (C := R_Model) (T := F_Model) (N := 72) hx hb hts i_Model hown hK.1 hP 7 rfl rfl 41 (by decide) (hts _ wd_1077) (fun _ h9 => h9) rfl d_Model_behind_23 ?_
      refine lv_if_ne (tgt := 47) hx hb d_Model_behind_26 (by decide) (fun c_10 => ?_) (fun c_10 => ?_)
      · replace c_10 : ¬ d1 = 0 := fun hq9 => c_10 ((nI_eq (a := d1) (b := 0) (by first | exact Nat.lt_of_lt_of_le (by assumption) (by decide) | exact Nat.lt_of_le_of_lt (by assumption) (by decide) | omega) (by decide)).mpr hq9)
        obtain ⟨t1, t2, t3⟩ := hpg1.2.2.1 (d1 - 1) (by first | assumption | omega)
        have jn_11 : ∀ (c1 : Nat), imp1 c1 ((op1 (opn (d1 - 1)) = 3 ∧ k1 = 14) ∨ (op1 (opn (d1 - 1)) = 5 ∧ k1 = 19)) → imp0 c1 (¬ ((op1 (opn (d1 - 1)) = 3 ∧ k1 = 14) ∨ (op1 (opn (d1 - 1)) = 5 ∧ k1 = 19))) → c1 ≤ 1 → ¬ (op1 (opn (d1 - 1)) = 2 ∧ k1 = 13) → ∀ (H : Heap) (locs : List Loc) (ls : Array Slot), va_P D classes [(m1, .inl (ax 0, 400, .inl (fun j => nI (g j)))), (m6, .inl (ax 0, 2, .inl (fun j => nI (it1 j)))), (m7, .inl (ax 0, 80, .inl (fun j => nI (op1 j)))), (m8, .inl (ax 0, 80, .inl (fun j => nI (nu1 j)))), (m16, .inl (ax 3, 80, .inl vr1)), (m18, .inl (ax 0, 80, .inl (fun j => nI (lk1 j)))), (m23, .inl (ax 0, 16, .inl (fun j => nI (opn j)))), (m0, .inr (11, [.int s_thrown, .int s_taped, .ref m1, .int (nI n), .int s_outSize, .ref m2, .int (nI k1), .int (nI v1), .int (nI b1), .int (nI e1), .int 0, .ref m3, .ref m4, .ref m5, .int s_isProgram, .int (nI hf), .ref m6, .ref m7, .ref m8, .ref m9, .ref m10, .ref m11, .ref m12, .ref m13, .ref m14, .ref m15, .ref m16, .ref m17, .ref m18, .ref m19, .ref m20, .int s_signs, .ref m21, .int s_stacked, .ref m22, .int s_name, .int s_shift, .int s_statements, .int s_ifs, .int s_whiles, .int s_variants, .int (nI d1), .ref m23, .int s_isMade, .int s_conditions, .ref m24, .ref m25, .ref m26, .ref m27, .int s_kept, .ref m28, .int s_tops, .ref m29, .int s_used, .ref m30, .ref m31, .int s_looked, .int s_rows, .int s_firstRow, .ref m32, .ref m33, .ref m34, .ref m35, .ref m36, .ref m37, .ref m38, .ref m39, .ref m40, .int s_isBroken, .ref m41, .int s_atoms, .ref m42]))] H → va_D A [(m1, .inl (ax 0, 400, .inl (fun j => nI (g j)))), (m6, .inl (ax 0, 2, .inl (fun j => nI (it1 j)))), (m7, .inl (ax 0, 80, .inl (fun j => nI (op1 j)))), (m8, .inl (ax 0, 80, .inl (fun j => nI (nu1 j)))), (m16, .inl (ax 3, 80, .inl vr1)), (m18, .inl (ax 0, 80, .inl (fun j => nI (lk1 j)))), (m23, .inl (ax 0, 16, .inl (fun j => nI (opn j)))), (m0, .inr (11, [.int s_thrown, .int s_taped, .ref m1, .int (nI n), .int s_outSize, .ref m2, .int (nI k1), .int (nI v1), .int (nI b1), .int (nI e1), .int 0, .ref m3, .ref m4, .ref m5, .int s_isProgram, .int (nI hf), .ref m6, .ref m7, .ref m8, .ref m9, .ref m10, .ref m11, .ref m12, .ref m13, .ref m14, .ref m15, .ref m16, .ref m17, .ref m18, .ref m19, .ref m20, .int s_signs, .ref m21, .int s_stacked, .ref m22, .int s_name, .int s_shift, .int s_statements, .int s_ifs, .int s_whiles, .int s_variants, .int (nI d1), .ref m23, .int s_isMade, .int s_conditions, .ref m24, .ref m25, .ref m26, .ref m27, .int s_kept, .ref m28, .int s_tops, .ref m29, .int s_used, .ref m30, .ref m31, .int s_looked, .int s_rows, .int s_firstRow, .ref m32, .ref m33, .ref m34, .ref m35, .ref m36, .ref m37, .ref m38, .ref m39, .ref m40, .int s_isBroken, .ref m41, .int s_atoms, .ref m42]))] → va_S A s.heap H locs → lv_has ls 4 [(0, .ref m0), (1, .int (nI (opn (d1 - 1)))), (2, .int (nI c1))] → W p l e (headSpec (xws (.code y_Model_behind b_Model_behind 4 (some .boolean))) ({ frames := 50, cells := 0, slots := 0, locals := 2000 })).room s m ([.ref m0] : List Value).toArray below meth c H locs 0 0 Z9 (F0 m 154 ls []) := by
          clear hP hD hS hl1
          intro c1 hc1 hc1n hc1b hn13 H locs ls hP hD hS hl1
          refine lv_iload_n hx hb d_Model_behind_154 rfl (lv_at hl1 2 rfl) ?_
          refine lv_if_ne (tgt := 165) hx hb d_Model_behind_155 (by decide) (fun c_12 => ?_) (fun c_12 => ?_)
          · replace c_12 : ¬ c1 = 0 := fun hq9 => c_12 ((nI_eq (a := c1) (b := 0) (by first | exact Nat.lt_of_lt_of_le (by assumption) (by decide) | exact Nat.lt_of_le_of_lt (by assumption) (by decide) | omega) (by decide)).mpr hq9)
            have hcl9 := hc1.go (by first | assumption | omega)
            have hlt_13 : b1 < e1 := tk0.lt (by assumption) (by first | assumption | omega)
            refine lv_aload_n hx hb d_Model_behind_165 rfl (lv_at hl1 0 rfl) ?_
            refine lv_aload_n hx hb d_Model_behind_166 rfl (lv_at hl1 0 rfl) ?_
            refine va_get (D := D) (ci := 11) (v := .ref m7) (C := R_Model) (T := F_Model) (N := 72) hx hb hts i_Model hown hK.1 hP 7 rfl rfl 17 (by decide) (hts _ wd_1053) (fun _ h9 => h9) rfl d_Model_behind_167 ?_
            refine lv_iload_n hx hb d_Model_behind_170 rfl (lv_at hl1 1 rfl) ?_
            refine va_iald hx hb hK.1 hP 2 0 rfl rfl (vp_in_nI (by first | assumption | omega) (by decide)) d_Model_behind_171 ?_
            refine W.eq (g2 := F0 m 172 ls [.int (nI (op1 (opn (d1 - 1)))), .ref m0]) (by rw [nI_clamp (by first | exact Nat.lt_of_lt_of_le (by assumption) (by decide) | exact Nat.lt_of_le_of_lt (by assumption) (by decide) | omega)]) ?_
            refine lv_iconst (v := 3) hx hb d_Model_behind_172 (by decide) ?_
            refine lv_icmp_ne (tgt := 180) hx hb d_Model_behind_173 (by decide) (fun c_14 => ?_) (fun c_14 => ?_)
            · replace c_14 : ¬ op1 (opn (d1 - 1)) = 3 := fun hq9 => c_14 ((nI_eq (a := op1 (opn (d1 - 1))) (b := 3) (by first | exact Nat.lt_of_lt_of_le (by assumption) (by decide) | exact Nat.lt_of_le_of_lt (by assumption) (by decide) | omega) (by decide)).mpr hq9)
              refine lv_bipush (v := 6) hx hb d_Model_behind_180 (by decide) ?_
              refine lv_iconst (v := 0) hx hb d_Model_behind_182 (by decide) ?_
              obtain ⟨hPc, hDc, hFc, hCs⟩ := xw_sub3 (wc := [(m0, .inr (11, [.int s_thrown, .int s_taped, .ref m1, .int (nI n), .int s_outSize, .ref m2, .int (nI k1), .int (nI v1), .int (nI b1), .int (nI e1), .int 0, .ref m3, .ref m4, .ref m5, .int s_isProgram, .int (nI hf), .ref m6, .ref m7, .ref m8, .ref m9, .ref m10, .ref m11, .ref m12, .ref m13, .ref m14, .ref m15, .ref m16, .ref m17, .ref m18, .ref m19, .ref m20, .int s_signs, .ref m21, .int s_stacked, .ref m22, .int s_name, .int s_shift, .int s_statements, .int s_ifs, .int s_whiles, .int s_variants, .int (nI d1), .ref m23, .int s_isMade, .int s_conditions, .ref m24, .ref m25, .ref m26, .ref m27, .int s_kept, .ref m28, .int s_tops, .ref m29, .int s_used, .ref m30, .ref m31, .int s_looked, .int s_rows, .int s_firstRow, .ref m32, .ref m33, .ref m34, .ref m35, .ref m36, .ref m37, .ref m38, .ref m39, .ref m40, .int s_isBroken, .ref m41, .int s_atoms, .ref m42])), (m7, .inl (ax 0, 80, .inl (fun j => nI (op1 j)))), (m8, .inl (ax 0, 80, .inl (fun j => nI (nu1 j)))), (m16, .inl (ax 3, 80, .inl vr1)), (m6, .inl (ax 0, 2, .inl (fun j => nI (it1 j))))]) hP hD hS hA [7, 2, 3, 4, 1] (by decide) rfl
              have hz := xz_of hN hS
              refine va_calli (va_runV (As := [.int 6, .int 0]) (rest := []) ⟨hx, hb, hml, hown, hts⟩ (c_M_add l D ax m0 m1 m2 m3 m4 m5 m6 m7 m8 m9 m10 m11 m12 m13 m14 m15 m16 m17 m18 m19 m20 m21 m22 m23 m24 m25 m26 m27 m28 m29 m30 m31 m32 m33 m34 m35 m36 m37 m38 m39 m40 m41 m42 s_thrown s_taped (nI n) s_outSize (nI k1) (nI v1) (nI b1) (nI e1) 0 s_isProgram s_signs s_stacked s_name s_shift s_statements s_ifs s_whiles s_variants (nI d1) s_isMade s_conditions s_kept s_tops s_used s_looked s_rows s_firstRow s_isBroken s_atoms hf 6 0 it1 op1 nu1 vr1 H.size hhf (by first | assumption | omega)) (xcV (n := 2) hts wd_1375 wd_15 wd_1372 wd_1374 ps_69 rfl rfl (by decide +kernel) ⟨Nat.le_of_ble_eq_true rfl, Nat.le_of_ble_eq_true rfl⟩) (xpV (ci := 11) (q0 := 0) (As := [.int 6, .int 0]) hPc hK hz hDc rfl rfl) rfl rfl hl1.1 rfl (lv_room (Nat.le_of_ble_eq_true rfl)) d_Model_behind_183 ⟨Nat.le_of_ble_eq_true rfl, Nat.le_of_ble_eq_true rfl⟩) hS (fun q _ h => hFc q h) hFc (fun r_17 u_15 t H_16 locs ht hvm hw hB hz1 hk1 hS1 => ?_)
              try dsimp only at hw
              subst hw
              obtain ⟨hP1, hD1⟩ := hB
              rw [ht] at hP1
              have hjn := xw_join3 (wl := [(m1, .inl (ax 0, 400, .inl (fun j => nI (g j)))), (m18, .inl (ax 0, 80, .inl (fun j => nI (lk1 j)))), (m23, .inl (ax 0, 16, .inl (fun j => nI (opn j)))), (m0, .inr (11, [.int s_thrown, .int s_taped, .ref m1, .int (nI n), .int s_outSize, .ref m2, .int (nI k1), .int (nI v1), .int (nI b1), .int (nI e1), .int 0, .ref m3, .ref m4, .ref m5, .int s_isProgram, .int (nI hf), .ref m6, .ref m7, .ref m8, .ref m9, .ref m10, .ref m11, .ref m12, .ref m13, .ref m14, .ref m15, .ref m16, .ref m17, .ref m18, .ref m19, .ref m20, .int s_signs, .ref m21, .int s_stacked, .ref m22, .int s_name, .int s_shift, .int s_statements, .int s_ifs, .int s_whiles, .int s_variants, .int (nI d1), .ref m23, .int s_isMade, .int s_conditions, .ref m24, .ref m25, .ref m26, .ref m27, .int s_kept, .ref m28, .int s_tops, .ref m29, .int s_used, .ref m30, .ref m31, .int s_looked, .int s_rows, .int s_firstRow, .ref m32, .ref m33, .ref m34, .ref m35, .ref m36, .ref m37, .ref m38, .ref m39, .ref m40, .int s_isBroken, .ref m41, .int s_atoms, .ref m42])), (m7, .inl (ax 0, 80, .inl (fun j => nI (sup op1 (40 * (1 - hf) + it1 (1 - hf)) 6 j)))), (m8, .inl (ax 0, 80, .inl (fun j => nI (sup nu1 (40 * (1 - hf) + it1 (1 - hf)) 0 j)))), (m16, .inl (ax 3, 80, .inl (upd vr1 (40 * (1 - hf) + it1 (1 - hf)) 0))), (m6, .inl (ax 0, 2, .inl (fun j => nI (sup it1 (1 - hf) (it1 (1 - hf) + 1) j))))]) hP hD [7, 2, 3, 4, 1] [0, 5, 6] hCs (by decide) (by decide) hk1 hFc hP1 hD1 rfl
              clear hP1 hD1
              clear hPc hDc hFc hCs hz hz1 hk1 ht hvm
              clear hP hD hS
              have hS := hS1
              obtain ⟨hP, hD⟩ := hjn
              clear hS1
              refine lv_istore_n (lv' := [(3, .int (nI (40 * (1 - hf) + it1 (1 - hf)))), (0, .ref m0), (1, .int (nI (opn (d1 - 1)))), (2, .int (nI c1))]) hx hb d_Model_behind_186 rfl hl1 (by decide) rfl (fun ls hl2 => ?_)
              clear hl1; have hl1 := hl2; clear hl2
              refine lv_aload_n hx hb d_Model_behind_187 rfl (lv_at hl1 1 rfl) ?_
              refine va_get (D := D) (ci := 11) (v := .ref m18) (C := R_Model) (T := F_Model) (N := 72) hx hb hts i_Model hown hK.1 hP 3 rfl rfl 28 (by decide) (hts _ wd_1064) (fun _ h9 => h9) rfl d_Model_behind_188 ?_
              refine lv_iload_n hx hb d_Model_behind_191 rfl (lv_at hl1 2 rfl) ?_
              refine lv_iload_n hx hb d_Model_behind_192 rfl (lv_at hl1 0 rfl) ?_
              refine va_iast hx hb hK.1 hP hD hS 1 0 rfl rfl (vp_in_nI (by first | assumption | omega) (by decide)) d_Model_behind_193 (fun H_18 locs hP1 hD1 hS1 => ?_)
              rw [nI_clamp (by first | exact Nat.lt_of_lt_of_le (by assumption) (by decide) | exact Nat.lt_of_le_of_lt (by assumption) (by decide) | omega)] at hP1 hD1
              rw [xf_sup lk1 (opn (d1 - 1)) (40 * (1 - hf) + it1 (1 - hf))] at hP1 hD1
              clear hP hD hS
              have hS := hS1
              have hW7 : (fun w9 : va_W => va_P D classes w9 H_18 ∧ va_D A w9) [(m1, .inl (ax 0, 400, .inl (fun j => nI (g j)))), (m18, .inl (ax 0, 80, .inl (fun j => nI (sup lk1 (opn (d1 - 1)) (40 * (1 - hf) + it1 (1 - hf)) j)))), (m23, .inl (ax 0, 16, .inl (fun j => nI (opn j)))), (m0, .inr (11, [.int s_thrown, .int s_taped, .ref m1, .int (nI n), .int s_outSize, .ref m2, .int (nI k1), .int (nI v1), .int (nI b1), .int (nI e1), .int 0, .ref m3, .ref m4, .ref m5, .int s_isProgram, .int (nI hf), .ref m6, .ref m7, .ref m8, .ref m9, .ref m10, .ref m11, .ref m12, .ref m13, .ref m14, .ref m15, .ref m16, .ref m17, .ref m18, .ref m19, .ref m20, .int s_signs, .ref m21, .int s_stacked, .ref m22, .int s_name, .int s_shift, .int s_statements, .int s_ifs, .int s_whiles, .int s_variants, .int (nI d1), .ref m23, .int s_isMade, .int s_conditions, .ref m24, .ref m25, .ref m26, .ref m27, .int s_kept, .ref m28, .int s_tops, .ref m29, .int s_used, .ref m30, .ref m31, .int s_looked, .int s_rows, .int s_firstRow, .ref m32, .ref m33, .ref m34, .ref m35, .ref m36, .ref m37, .ref m38, .ref m39, .ref m40, .int s_isBroken, .ref m41, .int s_atoms, .ref m42])), (m7, .inl (ax 0, 80, .inl (fun j => nI (sup op1 (40 * (1 - hf) + it1 (1 - hf)) 6 j)))), (m8, .inl (ax 0, 80, .inl (fun j => nI (sup nu1 (40 * (1 - hf) + it1 (1 - hf)) 0 j)))), (m16, .inl (ax 3, 80, .inl (upd vr1 (40 * (1 - hf) + it1 (1 - hf)) 0))), (m6, .inl (ax 0, 2, .inl (fun j => nI (sup it1 (1 - hf) (it1 (1 - hf) + 1) j))))] := ⟨hP1, hD1⟩
              obtain ⟨hP, hD⟩ := hW7
              clear hP1 hD1 hS1
              refine lv_aload_n hx hb d_Model_behind_194 rfl (lv_at hl1 1 rfl) ?_
              refine va_get (D := D) (ci := 11) (v := .ref m18) (C := R_Model) (T := F_Model) (N := 72) hx hb hts i_Model hown hK.1 hP 3 rfl rfl 28 (by decide) (hts _ wd_1064) (fun _ h9 => h9) rfl d_Model_behind_195 ?_
              refine lv_iload_n hx hb d_Model_behind_198 rfl (lv_at hl1 0 rfl) ?_
              refine lv_iload_n hx hb d_Model_behind_199 rfl (lv_at hl1 2 rfl) ?_
              refine va_iast hx hb hK.1 hP hD hS 1 0 rfl rfl (vp_in_nI (by first | assumption | omega) (by decide)) d_Model_behind_200 (fun H_19 locs hP1 hD1 hS1 => ?_)
              rw [nI_clamp (by first | exact Nat.lt_of_lt_of_le (by assumption) (by decide) | exact Nat.lt_of_le_of_lt (by assumption) (by decide) | omega)] at hP1 hD1
              rw [xf_sup (sup lk1 (opn (d1 - 1)) (40 * (1 - hf) + it1 (1 - hf))) (40 * (1 - hf) + it1 (1 - hf)) (opn (d1 - 1))] at hP1 hD1
              clear hP hD hS
              have hS := hS1
              have hW7 : (fun w9 : va_W => va_P D classes w9 H_19 ∧ va_D A w9) [(m1, .inl (ax 0, 400, .inl (fun j => nI (g j)))), (m18, .inl (ax 0, 80, .inl (fun j => nI (sup (sup lk1 (opn (d1 - 1)) (40 * (1 - hf) + it1 (1 - hf))) (40 * (1 - hf) + it1 (1 - hf)) (opn (d1 - 1)) j)))), (m23, .inl (ax 0, 16, .inl (fun j => nI (opn j)))), (m0, .inr (11, [.int s_thrown, .int s_taped, .ref m1, .int (nI n), .int s_outSize, .ref m2, .int (nI k1), .int (nI v1), .int (nI b1), .int (nI e1), .int 0, .ref m3, .ref m4, .ref m5, .int s_isProgram, .int (nI hf), .ref m6, .ref m7, .ref m8, .ref m9, .ref m10, .ref m11, .ref m12, .ref m13, .ref m14, .ref m15, .ref m16, .ref m17, .ref m18, .ref m19, .ref m20, .int s_signs, .ref m21, .int s_stacked, .ref m22, .int s_name, .int s_shift, .int s_statements, .int s_ifs, .int s_whiles, .int s_variants, .int (nI d1), .ref m23, .int s_isMade, .int s_conditions, .ref m24, .ref m25, .ref m26, .ref m27, .int s_kept, .ref m28, .int s_tops, .ref m29, .int s_used, .ref m30, .ref m31, .int s_looked, .int s_rows, .int s_firstRow, .ref m32, .ref m33, .ref m34, .ref m35, .ref m36, .ref m37, .ref m38, .ref m39, .ref m40, .int s_isBroken, .ref m41, .int s_atoms, .ref m42])), (m7, .inl (ax 0, 80, .inl (fun j => nI (sup op1 (40 * (1 - hf) + it1 (1 - hf)) 6 j)))), (m8, .inl (ax 0, 80, .inl (fun j => nI (sup nu1 (40 * (1 - hf) + it1 (1 - hf)) 0 j)))), (m16, .inl (ax 3, 80, .inl (upd vr1 (40 * (1 - hf) + it1 (1 - hf)) 0))), (m6, .inl (ax 0, 2, .inl (fun j => nI (sup it1 (1 - hf) (it1 (1 - hf) + 1) j))))] := ⟨hP1, hD1⟩
              obtain ⟨hP, hD⟩ := hW7
              clear hP1 hD1 hS1
              refine lv_aload_n hx hb d_Model_behind_201 rfl (lv_at hl1 1 rfl) ?_
              refine lv_dup hx hb d_Model_behind_202 rfl ?_
              refine va_get (D := D) (ci := 11) (v := .int (nI d1)) (C := R_Model) (T := F_Model) (N := 72) hx hb hts i_Model hown hK.1 hP 3 rfl rfl 41 (by decide) (hts _ wd_1077) (fun _ h9 => h9) rfl d_Model_behind_203 ?_
              refine lv_iconst (v := 1) hx hb d_Model_behind_206 (by decide) ?_
              refine lv_isub hx hb d_Model_behind_207 ?_
              refine lv_topi (fun z_20 ez_20 => ?_)
              have ez_20 : z_20 = nI (d1 - 1) := ez_20.trans (pk_sub (a := d1) (b := 1) (by first | assumption | omega))
              subst ez_20
              refine va_put (D := D) (ci := 11) (v := .int (nI (d1 - 1))) (ty := .int) (C := R_Model) (T := F_Model) (N := 72) hx hb hts i_Model t_Model t_Model_ok n_Model hown hK.1 hP hD hS 3 rfl rfl 41 (by decide) (hts _ wd_1077) (fun _ h9 => h9) rfl (by decide +kernel) rfl rfl (Nat.le_of_ble_eq_true rfl) d_Model_behind_208 (fun H_21 locs hP1 hD1 hS1 => ?_)
              clear hP hD hS
              have hS := hS1
              have hW7 : (fun w9 : va_W => va_P D classes w9 H_21 ∧ va_D A w9) [(m1, .inl (ax 0, 400, .inl (fun j => nI (g j)))), (m18, .inl (ax 0, 80, .inl (fun j => nI (sup (sup lk1 (opn (d1 - 1)) (40 * (1 - hf) + it1 (1 - hf))) (40 * (1 - hf) + it1 (1 - hf)) (opn (d1 - 1)) j)))), (m23, .inl (ax 0, 16, .inl (fun j => nI (opn j)))), (m0, .inr (11, [.int s_thrown, .int s_taped, .ref m1, .int (nI n), .int s_outSize, .ref m2, .int (nI k1), .int (nI v1), .int (nI b1), .int (nI e1), .int 0, .ref m3, .ref m4, .ref m5, .int s_isProgram, .int (nI hf), .ref m6, .ref m7, .ref m8, .ref m9, .ref m10, .ref m11, .ref m12, .ref m13, .ref m14, .ref m15, .ref m16, .ref m17, .ref m18, .ref m19, .ref m20, .int s_signs, .ref m21, .int s_stacked, .ref m22, .int s_name, .int s_shift, .int s_statements, .int s_ifs, .int s_whiles, .int s_variants, .int (nI (d1 - 1)), .ref m23, .int s_isMade, .int s_conditions, .ref m24, .ref m25, .ref m26, .ref m27, .int s_kept, .ref m28, .int s_tops, .ref m29, .int s_used, .ref m30, .ref m31, .int s_looked, .int s_rows, .int s_firstRow, .ref m32, .ref m33, .ref m34, .ref m35, .ref m36, .ref m37, .ref m38, .ref m39, .ref m40, .int s_isBroken, .ref m41, .int s_atoms, .ref m42])), (m7, .inl (ax 0, 80, .inl (fun j => nI (sup op1 (40 * (1 - hf) + it1 (1 - hf)) 6 j)))), (m8, .inl (ax 0, 80, .inl (fun j => nI (sup nu1 (40 * (1 - hf) + it1 (1 - hf)) 0 j)))), (m16, .inl (ax 3, 80, .inl (upd vr1 (40 * (1 - hf) + it1 (1 - hf)) 0))), (m6, .inl (ax 0, 2, .inl (fun j => nI (sup it1 (1 - hf) (it1 (1 - hf) + 1) j))))] := ⟨hP1, hD1⟩
              obtain ⟨hP, hD⟩ := hW7
              clear hP1 hD1 hS1
              refine lv_aload_n hx hb d_Model_behind_211 rfl (lv_at hl1 1 rfl) ?_
              obtain ⟨hPc, hDc, hFc, hCs⟩ := xw_sub3 (wc := [(m0, .inr (11, [.int s_thrown, .int s_taped, .ref m1, .int (nI n), .int s_outSize, .ref m2, .int (nI k1), .int (nI v1), .int (nI b1), .int (nI e1), .int 0, .ref m3, .ref m4, .ref m5, .int s_isProgram, .int (nI hf), .ref m6, .ref m7, .ref m8, .ref m9, .ref m10, .ref m11, .ref m12, .ref m13, .ref m14, .ref m15, .ref m16, .ref m17, .ref m18, .ref m19, .ref m20, .int s_signs, .ref m21, .int s_stacked, .ref m22, .int s_name, .int s_shift, .int s_statements, .int s_ifs, .int s_whiles, .int s_variants, .int (nI (d1 - 1)), .ref m23, .int s_isMade, .int s_conditions, .ref m24, .ref m25, .ref m26, .ref m27, .int s_kept, .ref m28, .int s_tops, .ref m29, .int s_used, .ref m30, .ref m31, .int s_looked, .int s_rows, .int s_firstRow, .ref m32, .ref m33, .ref m34, .ref m35, .ref m36, .ref m37, .ref m38, .ref m39, .ref m40, .int s_isBroken, .ref m41, .int s_atoms, .ref m42])), (m1, .inl (ax 0, 400, .inl (fun j => nI (g j))))]) hP hD hS hA [3, 0] (by decide) rfl
              have hz := xz_of hN hS
              refine va_callv (va_runV (As := []) (rest := []) ⟨hx, hb, hml, hown, hts⟩ (c_M_next l D ax m0 m1 m2 m3 m4 m5 m6 m7 m8 m9 m10 m11 m12 m13 m14 m15 m16 m17 m18 m19 m20 m21 m22 m23 m24 m25 m26 m27 m28 m29 m30 m31 m32 m33 m34 m35 m36 m37 m38 m39 m40 m41 m42 s_thrown s_taped s_outSize (nI k1) (nI b1) 0 s_isProgram (nI hf) s_signs s_stacked s_name s_shift s_statements s_ifs s_whiles s_variants (nI (d1 - 1)) s_isMade s_conditions s_kept s_tops s_used s_looked s_rows s_firstRow s_isBroken s_atoms n e1 v1 g H_21.size hn (by first | assumption | omega) hg (by first | assumption | omega)) (xcV (n := 0) hts wd_1278 wd_15 wd_1275 wd_1277 ps_51 rfl rfl (by decide +kernel) ⟨Nat.le_of_ble_eq_true rfl, Nat.le_of_ble_eq_true rfl⟩) (xpV (ci := 11) (q0 := 0) (As := []) hPc hK hz hDc rfl rfl) rfl rfl hl1.1 rfl (lv_room (Nat.le_of_ble_eq_true rfl)) d_Model_behind_212 ⟨Nat.le_of_ble_eq_true rfl, Nat.le_of_ble_eq_true rfl⟩) hS (fun q _ h => hFc q h) hFc (fun u_22 t H_23 locs ht hvm hw hB hz1 hk1 hS1 => ?_)
              try dsimp only at hw
              obtain ⟨-, -, -, hs_28, hs_29, hs_30, hs_31, hs_32, hs_33, hs_34, hs_35⟩ := hw
              obtain ⟨hP1, hD1⟩ := hB
              rw [ht] at hP1
              have hjn := xw_join3 (wl := [(m18, .inl (ax 0, 80, .inl (fun j => nI (sup (sup lk1 (opn (d1 - 1)) (40 * (1 - hf) + it1 (1 - hf))) (40 * (1 - hf) + it1 (1 - hf)) (opn (d1 - 1)) j)))), (m23, .inl (ax 0, 16, .inl (fun j => nI (opn j)))), (m7, .inl (ax 0, 80, .inl (fun j => nI (sup op1 (40 * (1 - hf) + it1 (1 - hf)) 6 j)))), (m8, .inl (ax 0, 80, .inl (fun j => nI (sup nu1 (40 * (1 - hf) + it1 (1 - hf)) 0 j)))), (m16, .inl (ax 3, 80, .inl (upd vr1 (40 * (1 - hf) + it1 (1 - hf)) 0))), (m6, .inl (ax 0, 2, .inl (fun j => nI (sup it1 (1 - hf) (it1 (1 - hf) + 1) j)))), (m0, .inr (11, [.int s_thrown, .int s_taped, .ref m1, .int (nI n), .int s_outSize, .ref m2, .int (nI (u_22 2)), .int (nI (u_22 3)), .int (nI (u_22 0)), .int (nI (u_22 1)), .int 0, .ref m3, .ref m4, .ref m5, .int s_isProgram, .int (nI hf), .ref m6, .ref m7, .ref m8, .ref m9, .ref m10, .ref m11, .ref m12, .ref m13, .ref m14, .ref m15, .ref m16, .ref m17, .ref m18, .ref m19, .ref m20, .int s_signs, .ref m21, .int s_stacked, .ref m22, .int s_name, .int s_shift, .int s_statements, .int s_ifs, .int s_whiles, .int s_variants, .int (nI (d1 - 1)), .ref m23, .int s_isMade, .int s_conditions, .ref m24, .ref m25, .ref m26, .ref m27, .int s_kept, .ref m28, .int s_tops, .ref m29, .int s_used, .ref m30, .ref m31, .int s_looked, .int s_rows, .int s_firstRow, .ref m32, .ref m33, .ref m34, .ref m35, .ref m36, .ref m37, .ref m38, .ref m39, .ref m40, .int s_isBroken, .ref m41, .int s_atoms, .ref m42])), (m1, .inl (ax 0, 400, .inl (fun j => nI (g j))))]) hP hD [3, 0] [1, 2, 4, 5, 6, 7] hCs (by decide) (by decide) hk1 hFc hP1 hD1 rfl
              clear hP1 hD1
              clear hPc hDc hFc hCs hz hz1 hk1 ht hvm
              clear hP hD hS
              have hS := hS1
              obtain ⟨hP, hD⟩ := hjn
              clear hS1
              refine lv_goto (tgt := 0) hx hb d_Model_behind_215 (by decide) ?_
              exact ih_3 (u_22 0) (u_22 1) (u_22 2) (u_22 3) (d1 - 1) (sup it1 (1 - hf) (it1 (1 - hf) + 1)) (sup op1 (40 * (1 - hf) + it1 (1 - hf)) 6) (sup nu1 (40 * (1 - hf) + it1 (1 - hf)) 0) (sup (sup lk1 (opn (d1 - 1)) (40 * (1 - hf) + it1 (1 - hf))) (40 * (1 - hf) + it1 (1 - hf)) (opn (d1 - 1))) (upd vr1 (40 * (1 - hf) + it1 (1 - hf)) 0) (by first | assumption | omega) (by first | assumption | omega) (by first | assumption | omega) (by first | assumption | omega) (by assumption) (by first | assumption | omega) (by first | assumption | omega) (by assumption) (by rw [sup_eq]; exact pgm_close hpg1 (by first | assumption | omega) (by first | assumption | omega)) (q1.sup (by first | assumption | omega) (by first | assumption | omega)) ((q2.sup (by first | assumption | omega) (by first | assumption | omega)).sup (by first | assumption | omega) (by first | assumption | omega)) (q3.upd (by first | assumption | omega) (by first | assumption | omega)) q4.sup (bhc hpg1 hB g7 (by first | assumption | omega) (by rw [sup_eq]; omega) ⟨fr1.rf.sup, fr1.rf.sup, fr1.rf, fr1.rf, (fun j h6 hj => (sup_ne hj).trans (sup_ne (fun e9 => by rw [e9] at h6; omega))), fr1.rf, fr1.rf, fr1.rf, fr1.rf, fr1.rf, fr1.rf, fr1.rf.upd, frp.rf⟩ sup_eq (fun _ => sup_eq) hs_28) (vct_c hpg1 (by first | assumption | omega) (by rw [sup_eq]; omega) ⟨fr1.rf.sup, fr1.rf.sup, fr1.rf, fr1.rf, (fun j h6 hj => (sup_ne hj).trans (sup_ne (fun e9 => by rw [e9] at h6; omega))), fr1.rf, fr1.rf, fr1.rf, fr1.rf, fr1.rf, fr1.rf, fr1.rf.upd, frp.rf⟩ sup_eq (fun q9 => sup_eq) hW) (q5.sup (by first | assumption | omega) (by first | assumption | omega)) _ _ _ (hP.sub [6, 7, 5, 2, 3, 4, 0, 1] rfl) (hD.sub [6, 7, 5, 2, 3, 4, 0, 1] (by decide) rfl) hS (lv_sub hl1 [1] rfl)
            · replace c_14 : op1 (opn (d1 - 1)) = 3 := (nI_eq (a := op1 (opn (d1 - 1))) (b := 3) (by first | exact Nat.lt_of_lt_of_le (by assumption) (by decide) | exact Nat.lt_of_le_of_lt (by assumption) (by decide) | omega) (by decide)).mp c_14
              refine lv_iconst (v := 4) hx hb d_Model_behind_176 (by decide) ?_
              refine lv_goto (tgt := 182) hx hb d_Model_behind_177 (by decide) ?_
              refine lv_iconst (v := 0) hx hb d_Model_behind_182 (by decide) ?_
              obtain ⟨hPc, hDc, hFc, hCs⟩ := xw_sub3 (wc := [(m0, .inr (11, [.int s_thrown, .int s_taped, .ref m1, .int (nI n), .int s_outSize, .ref m2, .int (nI k1), .int (nI v1), .int (nI b1), .int (nI e1), .int 0, .ref m3, .ref m4, .ref m5, .int s_isProgram, .int (nI hf), .ref m6, .ref m7, .ref m8, .ref m9, .ref m10, .ref m11, .ref m12, .ref m13, .ref m14, .ref m15, .ref m16, .ref m17, .ref m18, .ref m19, .ref m20, .int s_signs, .ref m21, .int s_stacked, .ref m22, .int s_name, .int s_shift, .int s_statements, .int s_ifs, .int s_whiles, .int s_variants, .int (nI d1), .ref m23, .int s_isMade, .int s_conditions, .ref m24, .ref m25, .ref m26, .ref m27, .int s_kept, .ref m28, .int s_tops, .ref m29, .int s_used, .ref m30, .ref m31, .int s_looked, .int s_rows, .int s_firstRow, .ref m32, .ref m33, .ref m34, .ref m35, .ref m36, .ref m37, .ref m38, .ref m39, .ref m40, .int s_isBroken, .ref m41, .int s_atoms, .ref m42])), (m7, .inl (ax 0, 80, .inl (fun j => nI (op1 j)))), (m8, .inl (ax 0, 80, .inl (fun j => nI (nu1 j)))), (m16, .inl (ax 3, 80, .inl vr1)), (m6, .inl (ax 0, 2, .inl (fun j => nI (it1 j))))]) hP hD hS hA [7, 2, 3, 4, 1] (by decide) rfl
              have hz := xz_of hN hS
              refine va_calli (va_runV (As := [.int 4, .int 0]) (rest := []) ⟨hx, hb, hml, hown, hts⟩ (c_M_add l D ax m0 m1 m2 m3 m4 m5 m6 m7 m8 m9 m10 m11 m12 m13 m14 m15 m16 m17 m18 m19 m20 m21 m22 m23 m24 m25 m26 m27 m28 m29 m30 m31 m32 m33 m34 m35 m36 m37 m38 m39 m40 m41 m42 s_thrown s_taped (nI n) s_outSize (nI k1) (nI v1) (nI b1) (nI e1) 0 s_isProgram s_signs s_stacked s_name s_shift s_statements s_ifs s_whiles s_variants (nI d1) s_isMade s_conditions s_kept s_tops s_used s_looked s_rows s_firstRow s_isBroken s_atoms hf 4 0 it1 op1 nu1 vr1 H.size hhf (by first | assumption | omega)) (xcV (n := 2) hts wd_1375 wd_15 wd_1372 wd_1374 ps_69 rfl rfl (by decide +kernel) ⟨Nat.le_of_ble_eq_true rfl, Nat.le_of_ble_eq_true rfl⟩) (xpV (ci := 11) (q0 := 0) (As := [.int 4, .int 0]) hPc hK hz hDc rfl rfl) rfl rfl hl1.1 rfl (lv_room (Nat.le_of_ble_eq_true rfl)) d_Model_behind_183 ⟨Nat.le_of_ble_eq_true rfl, Nat.le_of_ble_eq_true rfl⟩) hS (fun q _ h => hFc q h) hFc (fun r_38 u_36 t H_37 locs ht hvm hw hB hz1 hk1 hS1 => ?_)
              try dsimp only at hw
              subst hw
              obtain ⟨hP1, hD1⟩ := hB
              rw [ht] at hP1
              have hjn := xw_join3 (wl := [(m1, .inl (ax 0, 400, .inl (fun j => nI (g j)))), (m18, .inl (ax 0, 80, .inl (fun j => nI (lk1 j)))), (m23, .inl (ax 0, 16, .inl (fun j => nI (opn j)))), (m0, .inr (11, [.int s_thrown, .int s_taped, .ref m1, .int (nI n), .int s_outSize, .ref m2, .int (nI k1), .int (nI v1), .int (nI b1), .int (nI e1), .int 0, .ref m3, .ref m4, .ref m5, .int s_isProgram, .int (nI hf), .ref m6, .ref m7, .ref m8, .ref m9, .ref m10, .ref m11, .ref m12, .ref m13, .ref m14, .ref m15, .ref m16, .ref m17, .ref m18, .ref m19, .ref m20, .int s_signs, .ref m21, .int s_stacked, .ref m22, .int s_name, .int s_shift, .int s_statements, .int s_ifs, .int s_whiles, .int s_variants, .int (nI d1), .ref m23, .int s_isMade, .int s_conditions, .ref m24, .ref m25, .ref m26, .ref m27, .int s_kept, .ref m28, .int s_tops, .ref m29, .int s_used, .ref m30, .ref m31, .int s_looked, .int s_rows, .int s_firstRow, .ref m32, .ref m33, .ref m34, .ref m35, .ref m36, .ref m37, .ref m38, .ref m39, .ref m40, .int s_isBroken, .ref m41, .int s_atoms, .ref m42])), (m7, .inl (ax 0, 80, .inl (fun j => nI (sup op1 (40 * (1 - hf) + it1 (1 - hf)) 4 j)))), (m8, .inl (ax 0, 80, .inl (fun j => nI (sup nu1 (40 * (1 - hf) + it1 (1 - hf)) 0 j)))), (m16, .inl (ax 3, 80, .inl (upd vr1 (40 * (1 - hf) + it1 (1 - hf)) 0))), (m6, .inl (ax 0, 2, .inl (fun j => nI (sup it1 (1 - hf) (it1 (1 - hf) + 1) j))))]) hP hD [7, 2, 3, 4, 1] [0, 5, 6] hCs (by decide) (by decide) hk1 hFc hP1 hD1 rfl
              clear hP1 hD1
              clear hPc hDc hFc hCs hz hz1 hk1 ht hvm
              clear hP hD hS
              have hS := hS1
              obtain ⟨hP, hD⟩ := hjn
              clear hS1
              refine lv_istore_n (lv' := [(3, .int (nI (40 * (1 - hf) + it1 (1 - hf)))), (0, .ref m0), (1, .int (nI (opn (d1 - 1)))), (2, .int (nI c1))]) hx hb d_Model_behind_186 rfl hl1 (by decide) rfl (fun ls hl2 => ?_)
              clear hl1; have hl1 := hl2; clear hl2
              refine lv_aload_n hx hb d_Model_behind_187 rfl (lv_at hl1 1 rfl) ?_
              refine va_get (D := D) (ci := 11) (v := .ref m18) (C := R_Model) (T := F_Model) (N := 72) hx hb hts i_Model hown hK.1 hP 3 rfl rfl 28 (by decide) (hts _ wd_1064) (fun _ h9 => h9) rfl d_Model_behind_188 ?_
              refine lv_iload_n hx hb d_Model_behind_191 rfl (lv_at hl1 2 rfl) ?_
              refine lv_iload_n hx hb d_Model_behind_192 rfl (lv_at hl1 0 rfl) ?_
              refine va_iast hx hb hK.1 hP hD hS 1 0 rfl rfl (vp_in_nI (by first | assumption | omega) (by decide)) d_Model_behind_193 (fun H_39 locs hP1 hD1 hS1 => ?_)
              rw [nI_clamp (by first | exact Nat.lt_of_lt_of_le (by assumption) (by decide) | exact Nat.lt_of_le_of_lt (by assumption) (by decide) | omega)] at hP1 hD1
              rw [xf_sup lk1 (opn (d1 - 1)) (40 * (1 - hf) + it1 (1 - hf))] at hP1 hD1
              clear hP hD hS
              have hS := hS1
              have hW7 : (fun w9 : va_W => va_P D classes w9 H_39 ∧ va_D A w9) [(m1, .inl (ax 0, 400, .inl (fun j => nI (g j)))), (m18, .inl (ax 0, 80, .inl (fun j => nI (sup lk1 (opn (d1 - 1)) (40 * (1 - hf) + it1 (1 - hf)) j)))), (m23, .inl (ax 0, 16, .inl (fun j => nI (opn j)))), (m0, .inr (11, [.int s_thrown, .int s_taped, .ref m1, .int (nI n), .int s_outSize, .ref m2, .int (nI k1), .int (nI v1), .int (nI b1), .int (nI e1), .int 0, .ref m3, .ref m4, .ref m5, .int s_isProgram, .int (nI hf), .ref m6, .ref m7, .ref m8, .ref m9, .ref m10, .ref m11, .ref m12, .ref m13, .ref m14, .ref m15, .ref m16, .ref m17, .ref m18, .ref m19, .ref m20, .int s_signs, .ref m21, .int s_stacked, .ref m22, .int s_name, .int s_shift, .int s_statements, .int s_ifs, .int s_whiles, .int s_variants, .int (nI d1), .ref m23, .int s_isMade, .int s_conditions, .ref m24, .ref m25, .ref m26, .ref m27, .int s_kept, .ref m28, .int s_tops, .ref m29, .int s_used, .ref m30, .ref m31, .int s_looked, .int s_rows, .int s_firstRow, .ref m32, .ref m33, .ref m34, .ref m35, .ref m36, .ref m37, .ref m38, .ref m39, .ref m40, .int s_isBroken, .ref m41, .int s_atoms, .ref m42])), (m7, .inl (ax 0, 80, .inl (fun j => nI (sup op1 (40 * (1 - hf) + it1 (1 - hf)) 4 j)))), (m8, .inl (ax 0, 80, .inl (fun j => nI (sup nu1 (40 * (1 - hf) + it1 (1 - hf)) 0 j)))), (m16, .inl (ax 3, 80, .inl (upd vr1 (40 * (1 - hf) + it1 (1 - hf)) 0))), (m6, .inl (ax 0, 2, .inl (fun j => nI (sup it1 (1 - hf) (it1 (1 - hf) + 1) j))))] := ⟨hP1, hD1⟩
              obtain ⟨hP, hD⟩ := hW7
              clear hP1 hD1 hS1
              refine lv_aload_n hx hb d_Model_behind_194 rfl (lv_at hl1 1 rfl) ?_
              refine va_get (D := D) (ci := 11) (v := .ref m18) (C := R_Model) (T := F_Model) (N := 72) hx hb hts i_Model hown hK.1 hP 3 rfl rfl 28 (by decide) (hts _ wd_1064) (fun _ h9 => h9) rfl d_Model_behind_195 ?_
              refine lv_iload_n hx hb d_Model_behind_198 rfl (lv_at hl1 0 rfl) ?_
              refine lv_iload_n hx hb d_Model_behind_199 rfl (lv_at hl1 2 rfl) ?_
              refine va_iast hx hb hK.1 hP hD hS 1 0 rfl rfl (vp_in_nI (by first | assumption | omega) (by decide)) d_Model_behind_200 (fun H_40 locs hP1 hD1 hS1 => ?_)
              rw [nI_clamp (by first | exact Nat.lt_of_lt_of_le (by assumption) (by decide) | exact Nat.lt_of_le_of_lt (by assumption) (by decide) | omega)] at hP1 hD1
              rw [xf_sup (sup lk1 (opn (d1 - 1)) (40 * (1 - hf) + it1 (1 - hf))) (40 * (1 - hf) + it1 (1 - hf)) (opn (d1 - 1))] at hP1 hD1
              clear hP hD hS
              have hS := hS1
              have hW7 : (fun w9 : va_W => va_P D classes w9 H_40 ∧ va_D A w9) [(m1, .inl (ax 0, 400, .inl (fun j => nI (g j)))), (m18, .inl (ax 0, 80, .inl (fun j => nI (sup (sup lk1 (opn (d1 - 1)) (40 * (1 - hf) + it1 (1 - hf))) (40 * (1 - hf) + it1 (1 - hf)) (opn (d1 - 1)) j)))), (m23, .inl (ax 0, 16, .inl (fun j => nI (opn j)))), (m0, .inr (11, [.int s_thrown, .int s_taped, .ref m1, .int (nI n), .int s_outSize, .ref m2, .int (nI k1), .int (nI v1), .int (nI b1), .int (nI e1), .int 0, .ref m3, .ref m4, .ref m5, .int s_isProgram, .int (nI hf), .ref m6, .ref m7, .ref m8, .ref m9, .ref m10, .ref m11, .ref m12, .ref m13, .ref m14, .ref m15, .ref m16, .ref m17, .ref m18, .ref m19, .ref m20, .int s_signs, .ref m21, .int s_stacked, .ref m22, .int s_name, .int s_shift, .int s_statements, .int s_ifs, .int s_whiles, .int s_variants, .int (nI d1), .ref m23, .int s_isMade, .int s_conditions, .ref m24, .ref m25, .ref m26, .ref m27, .int s_kept, .ref m28, .int s_tops, .ref m29, .int s_used, .ref m30, .ref m31, .int s_looked, .int s_rows, .int s_firstRow, .ref m32, .ref m33, .ref m34, .ref m35, .ref m36, .ref m37, .ref m38, .ref m39, .ref m40, .int s_isBroken, .ref m41, .int s_atoms, .ref m42])), (m7, .inl (ax 0, 80, .inl (fun j => nI (sup op1 (40 * (1 - hf) + it1 (1 - hf)) 4 j)))), (m8, .inl (ax 0, 80, .inl (fun j => nI (sup nu1 (40 * (1 - hf) + it1 (1 - hf)) 0 j)))), (m16, .inl (ax 3, 80, .inl (upd vr1 (40 * (1 - hf) + it1 (1 - hf)) 0))), (m6, .inl (ax 0, 2, .inl (fun j => nI (sup it1 (1 - hf) (it1 (1 - hf) + 1) j))))] := ⟨hP1, hD1⟩
              obtain ⟨hP, hD⟩ := hW7
              clear hP1 hD1 hS1
              refine lv_aload_n hx hb d_Model_behind_201 rfl (lv_at hl1 1 rfl) ?_
              refine lv_dup hx hb d_Model_behind_202 rfl ?_
              refine va_get (D := D) (ci := 11) (v := .int (nI d1)) (C := R_Model) (T := F_Model) (N := 72) hx hb hts i_Model hown hK.1 hP 3 rfl rfl 41 (by decide) (hts _ wd_1077) (fun _ h9 => h9) rfl d_Model_behind_203 ?_
              refine lv_iconst (v := 1) hx hb d_Model_behind_206 (by decide) ?_
              refine lv_isub hx hb d_Model_behind_207 ?_
              refine lv_topi (fun z_41 ez_41 => ?_)
              have ez_41 : z_41 = nI (d1 - 1) := ez_41.trans (pk_sub (a := d1) (b := 1) (by first | assumption | omega))
              subst ez_41
              refine va_put (D := D) (ci := 11) (v := .int (nI (d1 - 1))) (ty := .int) (C := R_Model) (T := F_Model) (N := 72) hx hb hts i_Model t_Model t_Model_ok n_Model hown hK.1 hP hD hS 3 rfl rfl 41 (by decide) (hts _ wd_1077) (fun _ h9 => h9) rfl (by decide +kernel) rfl rfl (Nat.le_of_ble_eq_true rfl) d_Model_behind_208 (fun H_42 locs hP1 hD1 hS1 => ?_)
              clear hP hD hS
              have hS := hS1
              have hW7 : (fun w9 : va_W => va_P D classes w9 H_42 ∧ va_D A w9) [(m1, .inl (ax 0, 400, .inl (fun j => nI (g j)))), (m18, .inl (ax 0, 80, .inl (fun j => nI (sup (sup lk1 (opn (d1 - 1)) (40 * (1 - hf) + it1 (1 - hf))) (40 * (1 - hf) + it1 (1 - hf)) (opn (d1 - 1)) j)))), (m23, .inl (ax 0, 16, .inl (fun j => nI (opn j)))), (m0, .inr (11, [.int s_thrown, .int s_taped, .ref m1, .int (nI n), .int s_outSize, .ref m2, .int (nI k1), .int (nI v1), .int (nI b1), .int (nI e1), .int 0, .ref m3, .ref m4, .ref m5, .int s_isProgram, .int (nI hf), .ref m6, .ref m7, .ref m8, .ref m9, .ref m10, .ref m11, .ref m12, .ref m13, .ref m14, .ref m15, .ref m16, .ref m17, .ref m18, .ref m19, .ref m20, .int s_signs, .ref m21, .int s_stacked, .ref m22, .int s_name, .int s_shift, .int s_statements, .int s_ifs, .int s_whiles, .int s_variants, .int (nI (d1 - 1)), .ref m23, .int s_isMade, .int s_conditions, .ref m24, .ref m25, .ref m26, .ref m27, .int s_kept, .ref m28, .int s_tops, .ref m29, .int s_used, .ref m30, .ref m31, .int s_looked, .int s_rows, .int s_firstRow, .ref m32, .ref m33, .ref m34, .ref m35, .ref m36, .ref m37, .ref m38, .ref m39, .ref m40, .int s_isBroken, .ref m41, .int s_atoms, .ref m42])), (m7, .inl (ax 0, 80, .inl (fun j => nI (sup op1 (40 * (1 - hf) + it1 (1 - hf)) 4 j)))), (m8, .inl (ax 0, 80, .inl (fun j => nI (sup nu1 (40 * (1 - hf) + it1 (1 - hf)) 0 j)))), (m16, .inl (ax 3, 80, .inl (upd vr1 (40 * (1 - hf) + it1 (1 - hf)) 0))), (m6, .inl (ax 0, 2, .inl (fun j => nI (sup it1 (1 - hf) (it1 (1 - hf) + 1) j))))] := ⟨hP1, hD1⟩
              obtain ⟨hP, hD⟩ := hW7
              clear hP1 hD1 hS1
              refine lv_aload_n hx hb d_Model_behind_211 rfl (lv_at hl1 1 rfl) ?_
              obtain ⟨hPc, hDc, hFc, hCs⟩ := xw_sub3 (wc := [(m0, .inr (11, [.int s_thrown, .int s_taped, .ref m1, .int (nI n), .int s_outSize, .ref m2, .int (nI k1), .int (nI v1), .int (nI b1), .int (nI e1), .int 0, .ref m3, .ref m4, .ref m5, .int s_isProgram, .int (nI hf), .ref m6, .ref m7, .ref m8, .ref m9, .ref m10, .ref m11, .ref m12, .ref m13, .ref m14, .ref m15, .ref m16, .ref m17, .ref m18, .ref m19, .ref m20, .int s_signs, .ref m21, .int s_stacked, .ref m22, .int s_name, .int s_shift, .int s_statements, .int s_ifs, .int s_whiles, .int s_variants, .int (nI (d1 - 1)), .ref m23, .int s_isMade, .int s_conditions, .ref m24, .ref m25, .ref m26, .ref m27, .int s_kept, .ref m28, .int s_tops, .ref m29, .int s_used, .ref m30, .ref m31, .int s_looked, .int s_rows, .int s_firstRow, .ref m32, .ref m33, .ref m34, .ref m35, .ref m36, .ref m37, .ref m38, .ref m39, .ref m40, .int s_isBroken, .ref m41, .int s_atoms, .ref m42])), (m1, .inl (ax 0, 400, .inl (fun j => nI (g j))))]) hP hD hS hA [3, 0] (by decide) rfl
              have hz := xz_of hN hS
              refine va_callv (va_runV (As := []) (rest := []) ⟨hx, hb, hml, hown, hts⟩ (c_M_next l D ax m0 m1 m2 m3 m4 m5 m6 m7 m8 m9 m10 m11 m12 m13 m14 m15 m16 m17 m18 m19 m20 m21 m22 m23 m24 m25 m26 m27 m28 m29 m30 m31 m32 m33 m34 m35 m36 m37 m38 m39 m40 m41 m42 s_thrown s_taped s_outSize (nI k1) (nI b1) 0 s_isProgram (nI hf) s_signs s_stacked s_name s_shift s_statements s_ifs s_whiles s_variants (nI (d1 - 1)) s_isMade s_conditions s_kept s_tops s_used s_looked s_rows s_firstRow s_isBroken s_atoms n e1 v1 g H_42.size hn (by first | assumption | omega) hg (by first | assumption | omega)) (xcV (n := 0) hts wd_1278 wd_15 wd_1275 wd_1277 ps_51 rfl rfl (by decide +kernel) ⟨Nat.le_of_ble_eq_true rfl, Nat.le_of_ble_eq_true rfl⟩) (xpV (ci := 11) (q0 := 0) (As := []) hPc hK hz hDc rfl rfl) rfl rfl hl1.1 rfl (lv_room (Nat.le_of_ble_eq_true rfl)) d_Model_behind_212 ⟨Nat.le_of_ble_eq_true rfl, Nat.le_of_ble_eq_true rfl⟩) hS (fun q _ h => hFc q h) hFc (fun u_43 t H_44 locs ht hvm hw hB hz1 hk1 hS1 => ?_)
              try dsimp only at hw
              obtain ⟨-, -, -, hs_49, hs_50, hs_51, hs_52, hs_53, hs_54, hs_55, hs_56⟩ := hw
              obtain ⟨hP1, hD1⟩ := hB
              rw [ht] at hP1
              have hjn := xw_join3 (wl := [(m18, .inl (ax 0, 80, .inl (fun j => nI (sup (sup lk1 (opn (d1 - 1)) (40 * (1 - hf) + it1 (1 - hf))) (40 * (1 - hf) + it1 (1 - hf)) (opn (d1 - 1)) j)))), (m23, .inl (ax 0, 16, .inl (fun j => nI (opn j)))), (m7, .inl (ax 0, 80, .inl (fun j => nI (sup op1 (40 * (1 - hf) + it1 (1 - hf)) 4 j)))), (m8, .inl (ax 0, 80, .inl (fun j => nI (sup nu1 (40 * (1 - hf) + it1 (1 - hf)) 0 j)))), (m16, .inl (ax 3, 80, .inl (upd vr1 (40 * (1 - hf) + it1 (1 - hf)) 0))), (m6, .inl (ax 0, 2, .inl (fun j => nI (sup it1 (1 - hf) (it1 (1 - hf) + 1) j)))), (m0, .inr (11, [.int s_thrown, .int s_taped, .ref m1, .int (nI n), .int s_outSize, .ref m2, .int (nI (u_43 2)), .int (nI (u_43 3)), .int (nI (u_43 0)), .int (nI (u_43 1)), .int 0, .ref m3, .ref m4, .ref m5, .int s_isProgram, .int (nI hf), .ref m6, .ref m7, .ref m8, .ref m9, .ref m10, .ref m11, .ref m12, .ref m13, .ref m14, .ref m15, .ref m16, .ref m17, .ref m18, .ref m19, .ref m20, .int s_signs, .ref m21, .int s_stacked, .ref m22, .int s_name, .int s_shift, .int s_statements, .int s_ifs, .int s_whiles, .int s_variants, .int (nI (d1 - 1)), .ref m23, .int s_isMade, .int s_conditions, .ref m24, .ref m25, .ref m26, .ref m27, .int s_kept, .ref m28, .int s_tops, .ref m29, .int s_used, .ref m30, .ref m31, .int s_looked, .int s_rows, .int s_firstRow, .ref m32, .ref m33, .ref m34, .ref m35, .ref m36, .ref m37, .ref m38, .ref m39, .ref m40, .int s_isBroken, .ref m41, .int s_atoms, .ref m42])), (m1, .inl (ax 0, 400, .inl (fun j => nI (g j))))]) hP hD [3, 0] [1, 2, 4, 5, 6, 7] hCs (by decide) (by decide) hk1 hFc hP1 hD1 rfl
              clear hP1 hD1
              clear hPc hDc hFc hCs hz hz1 hk1 ht hvm
              clear hP hD hS
              have hS := hS1
              obtain ⟨hP, hD⟩ := hjn
              clear hS1
              refine lv_goto (tgt := 0) hx hb d_Model_behind_215 (by decide) ?_
              exact ih_3 (u_43 0) (u_43 1) (u_43 2) (u_43 3) (d1 - 1) (sup it1 (1 - hf) (it1 (1 - hf) + 1)) (sup op1 (40 * (1 - hf) + it1 (1 - hf)) 4) (sup nu1 (40 * (1 - hf) + it1 (1 - hf)) 0) (sup (sup lk1 (opn (d1 - 1)) (40 * (1 - hf) + it1 (1 - hf))) (40 * (1 - hf) + it1 (1 - hf)) (opn (d1 - 1))) (upd vr1 (40 * (1 - hf) + it1 (1 - hf)) 0) (by first | assumption | omega) (by first | assumption | omega) (by first | assumption | omega) (by first | assumption | omega) (by assumption) (by first | assumption | omega) (by first | assumption | omega) (by assumption) (by rw [sup_eq]; exact pgm_close hpg1 (by first | assumption | omega) (by first | assumption | omega)) (q1.sup (by first | assumption | omega) (by first | assumption | omega)) ((q2.sup (by first | assumption | omega) (by first | assumption | omega)).sup (by first | assumption | omega) (by first | assumption | omega)) (q3.upd (by first | assumption | omega) (by first | assumption | omega)) q4.sup (bhc hpg1 hB g7 (by first | assumption | omega) (by rw [sup_eq]; omega) ⟨fr1.rf.sup, fr1.rf.sup, fr1.rf, fr1.rf, (fun j h6 hj => (sup_ne hj).trans (sup_ne (fun e9 => by rw [e9] at h6; omega))), fr1.rf, fr1.rf, fr1.rf, fr1.rf, fr1.rf, fr1.rf, fr1.rf.upd, frp.rf⟩ sup_eq (fun _ => sup_eq) hs_49) (vct_c hpg1 (by first | assumption | omega) (by rw [sup_eq]; omega) ⟨fr1.rf.sup, fr1.rf.sup, fr1.rf, fr1.rf, (fun j h6 hj => (sup_ne hj).trans (sup_ne (fun e9 => by rw [e9] at h6; omega))), fr1.rf, fr1.rf, fr1.rf, fr1.rf, fr1.rf, fr1.rf, fr1.rf.upd, frp.rf⟩ sup_eq (fun q9 => sup_eq) hW) (q5.sup (by first | assumption | omega) (by first | assumption | omega)) _ _ _ (hP.sub [6, 7, 5, 2, 3, 4, 0, 1] rfl) (hD.sub [6, 7, 5, 2, 3, 4, 0, 1] (by decide) rfl) hS (lv_sub hl1 [1] rfl)
          · replace c_12 : c1 = 0 := (nI_eq (a := c1) (b := 0) (by first | exact Nat.lt_of_lt_of_le (by assumption) (by decide) | exact Nat.lt_of_le_of_lt (by assumption) (by decide) | omega) (by decide)).mp c_12
            have hnc9 := hc1n.go (by first | assumption | omega)
            refine lv_aload_n hx hb d_Model_behind_158 rfl (lv_at hl1 0 rfl) ?_
            refine lv_iconst (v := 1) hx hb d_Model_behind_159 (by decide) ?_
            refine va_put (D := D) (ci := 11) (v := .int 1) (ty := .boolean) (C := R_Model) (T := F_Model) (N := 72) hx hb hts i_Model t_Model t_Model_ok n_Model hown hK.1 hP hD hS 7 rfl rfl 10 (by decide) (hts _ wd_1046) (fun _ h9 => h9) rfl (by decide +kernel) rfl rfl (Nat.le_of_ble_eq_true rfl) d_Model_behind_160 (fun H_57 locs hP1 hD1 hS1 => ?_)
            clear hP hD hS
            have hS := hS1
            have hW7 : (fun w9 : va_W => va_P D classes w9 H_57 ∧ va_D A w9) [(m1, .inl (ax 0, 400, .inl (fun j => nI (g j)))), (m6, .inl (ax 0, 2, .inl (fun j => nI (it1 j)))), (m7, .inl (ax 0, 80, .inl (fun j => nI (op1 j)))), (m8, .inl (ax 0, 80, .inl (fun j => nI (nu1 j)))), (m16, .inl (ax 3, 80, .inl vr1)), (m18, .inl (ax 0, 80, .inl (fun j => nI (lk1 j)))), (m23, .inl (ax 0, 16, .inl (fun j => nI (opn j)))), (m0, .inr (11, [.int s_thrown, .int s_taped, .ref m1, .int (nI n), .int s_outSize, .ref m2, .int (nI k1), .int (nI v1), .int (nI b1), .int (nI e1), .int 1, .ref m3, .ref m4, .ref m5, .int s_isProgram, .int (nI hf), .ref m6, .ref m7, .ref m8, .ref m9, .ref m10, .ref m11, .ref m12, .ref m13, .ref m14, .ref m15, .ref m16, .ref m17, .ref m18, .ref m19, .ref m20, .int s_signs, .ref m21, .int s_stacked, .ref m22, .int s_name, .int s_shift, .int s_statements, .int s_ifs, .int s_whiles, .int s_variants, .int (nI d1), .ref m23, .int s_isMade, .int s_conditions, .ref m24, .ref m25, .ref m26, .ref m27, .int s_kept, .ref m28, .int s_tops, .ref m29, .int s_used, .ref m30, .ref m31, .int s_looked, .int s_rows, .int s_firstRow, .ref m32, .ref m33, .ref m34, .ref m35, .ref m36, .ref m37, .ref m38, .ref m39, .ref m40, .int s_isBroken, .ref m41, .int s_atoms, .ref m42]))] := ⟨hP1, hD1⟩
            obtain ⟨hP, hD⟩ := hW7
            clear hP1 hD1 hS1
            refine lv_iconst (v := 0) hx hb d_Model_behind_163 (by decide) ?_
            rw [← hQe]
            obtain ⟨hP9, hD9⟩ := xw_sub2 (wc := (fun (u : Nat → Nat) (xit : Nat → Nat) (xop : Nat → Nat) (xnu : Nat → Nat) (xlk : Nat → Nat) (xopn : Nat → Nat) (xvr : Nat → Int32) => [(m0, .inr (11, [.int s_thrown, .int s_taped, .ref m1, .int (nI n), .int s_outSize, .ref m2, .int (nI (u 2)), .int (nI (u 3)), .int (nI (u 0)), .int (nI (u 1)), .int (nI (u 4)), .ref m3, .ref m4, .ref m5, .int s_isProgram, .int (nI hf), .ref m6, .ref m7, .ref m8, .ref m9, .ref m10, .ref m11, .ref m12, .ref m13, .ref m14, .ref m15, .ref m16, .ref m17, .ref m18, .ref m19, .ref m20, .int s_signs, .ref m21, .int s_stacked, .ref m22, .int s_name, .int s_shift, .int s_statements, .int s_ifs, .int s_whiles, .int s_variants, .int (nI (u 5)), .ref m23, .int s_isMade, .int s_conditions, .ref m24, .ref m25, .ref m26, .ref m27, .int s_kept, .ref m28, .int s_tops, .ref m29, .int s_used, .ref m30, .ref m31, .int s_looked, .int s_rows, .int s_firstRow, .ref m32, .ref m33, .ref m34, .ref m35, .ref m36, .ref m37, .ref m38, .ref m39, .ref m40, .int s_isBroken, .ref m41, .int s_atoms, .ref m42])), (m1, .inl (ax 0, 400, .inl (fun j => nI (g j)))), (m6, .inl (ax 0, 2, .inl (fun j => nI (xit j)))), (m7, .inl (ax 0, 80, .inl (fun j => nI (xop j)))), (m8, .inl (ax 0, 80, .inl (fun j => nI (xnu j)))), (m16, .inl (ax 3, 80, .inl xvr)), (m18, .inl (ax 0, 80, .inl (fun j => nI (xlk j)))), (m23, .inl (ax 0, 16, .inl (fun j => nI (xopn j))))]) (ixn [b1, e1, k1, v1, 1, d1, 0]) it1 op1 nu1 lk1 opn vr1) hP hD [7, 0, 1, 2, 3, 4, 5, 6] (by decide) rfl
            have hex0 : frb (1 - hf) op op1 := (by first | assumption | exact q1.sup (by first | assumption | omega) (by first | assumption | omega))
            have hex1 : frb (1 - hf) lk lk1 := (by first | assumption | exact q2.sup (by first | assumption | omega) (by first | assumption | omega))
            have hex2 : frb (1 - hf) vr vr1 := (by first | assumption | exact q3.upd (by first | assumption | omega) (by first | assumption | omega))
            have hex3 : fr1 (1 - hf) it it1 := (by first | assumption | exact q4.sup)
            have hex4 : imp0 (1) ((pgm (1 - hf) (it1 (1 - hf)) (d1) sn fn wn PP op1 lk1 fi fs se ss tg gs opn tn vr1 pl ∧ (0 = 1 ∨ d1 = 0))) := (Or.inl rfl)
            have hex5 : imp1 (1) (pgY g n b (oki op nu tg gs fi fs se ss tn tm vr pl opn on) sn fn wn (itl op nu tg gs lk fi fs se ss tn tm vr pl (40 * (1 - hf)) (it (1 - hf))) (b1)) := (Or.inr (bhx hB g7 (by first | assumption | omega) (by first | assumption | omega) (by first | assumption | omega) (by first | assumption | omega)))
            have hex6 : imp0 (1) (pgV g n b (oki op nu tg gs fi fs se ss tn tm vr pl opn on) sn fn wn (itl op nu tg gs lk fi fs se ss tn tm vr pl (40 * (1 - hf)) (it (1 - hf))) (0) (b1) (oki op1 nu1 tg gs fi fs se ss tn tm vr1 pl opn (d1)) (itl op1 nu1 tg gs lk1 fi fs se ss tn tm vr1 pl (40 * (1 - hf)) (it1 (1 - hf)))) := (Or.inl rfl)
            have hex7 : imp0 (1) (vct (itl op1 nu1 tg gs lk1 fi fs se ss tn tm vr1 pl (40 * (1 - hf)) (it1 (1 - hf))) = vct (itl op nu tg gs lk fi fs se ss tn tm vr pl (40 * (1 - hf)) (it (1 - hf)))) := (Or.inl rfl)
            have hex8 : frb (1 - hf) nu nu1 := (by first | assumption | exact q5.sup (by first | assumption | omega) (by first | assumption | omega))
            have hsp0 : b ≤ b1 := (by first | assumption | omega)
            have hsp1 : b1 ≤ e1 := (by first | assumption | omega)
            have hsp2 : e1 ≤ n := (by first | assumption | omega)
            have hsp3 : tk0 (k1) (b1) (e1) := (by assumption)
            have hsp4 : k1 < 10000 := (by first | assumption | omega)
            have hsp5 : v1 < 20000 := (by first | assumption | omega)
            have hsp6 : tkq g n (b1) (e1) (k1) (v1) := (by assumption)
            have hsp7 : 1 ≤ 1 := (by first | assumption | omega)
            have hsp8 : 0 ≤ 1 := (by first | assumption | omega)
            exact W.zret (v := 0) hx hb hr rfl (fun t ht hW => ⟨⟨0, ixn [b1, e1, k1, v1, 1, d1, 0], rfl, ⟨rfl, ⟨hsp0, hsp1, hsp2, hsp3, hsp4, hsp5, hsp6, hsp7, hsp8⟩⟩, ⟨it1, op1, nu1, lk1, opn, vr1, hex0, hex1, hex2, hex3, hex4, hex5, hex6, hex7, hex8, by rw [ht]; exact hP9, hD9⟩⟩, hS.F ht⟩) hS.2.2 d_Model_behind_164
        refine lv_aload_n hx hb d_Model_behind_47 rfl (lv_at hl1 0 rfl) ?_
        refine va_get (D := D) (ci := 11) (v := .ref m23) (C := R_Model) (T := F_Model) (N := 72) hx hb hts i_Model hown hK.1 hP 7 rfl rfl 42 (by decide) (hts _ wd_1078) (fun _ h9 => h9) rfl d_Model_behind_48 ?_
        refine lv_aload_n hx hb d_Model_behind_51 rfl (lv_at hl1 0 rfl) ?_
        refine va_get (D := D) (ci := 11) (v := .int (nI d1)) (C := R_Model) (T := F_Model) (N := 72) hx hb hts i_Model hown hK.1 hP 7 rfl rfl 41 (by decide) (hts _ wd_1077) (fun _ h9 => h9) rfl d_Model_behind_52 ?_
        refine lv_iconst (v := 1) hx hb d_Model_behind_55 (by decide) ?_
        refine lv_isub hx hb d_Model_behind_56 ?_
        refine lv_topi (fun z_58 ez_58 => ?_)
        have ez_58 : z_58 = nI (d1 - 1) := ez_58.trans (pk_sub (a := d1) (b := 1) (by first | assumption | omega))
        subst ez_58
        refine va_iald hx hb hK.1 hP 6 0 rfl rfl (vp_in_nI (by first | assumption | omega) (by decide)) d_Model_behind_57 ?_
        refine W.eq (g2 := F0 m 58 ls [.int (nI (opn (d1 - 1)))]) (by rw [nI_clamp (by first | exact Nat.lt_of_lt_of_le (by assumption) (by decide) | exact Nat.lt_of_le_of_lt (by assumption) (by decide) | omega)]) ?_
        refine lv_istore_n (lv' := [(1, .int (nI (opn (d1 - 1)))), (0, .ref m0)]) hx hb d_Model_behind_58 rfl hl1 (by decide) rfl (fun ls hl2 => ?_)
        clear hl1; have hl1 := hl2; clear hl2
        refine lv_aload_n hx hb d_Model_behind_59 rfl (lv_at hl1 1 rfl) ?_
        refine va_get (D := D) (ci := 11) (v := .ref m7) (C := R_Model) (T := F_Model) (N := 72) hx hb hts i_Model hown hK.1 hP 7 rfl rfl 17 (by decide) (hts _ wd_1053) (fun _ h9 => h9) rfl d_Model_behind_60 ?_
        refine lv_iload_n hx hb d_Model_behind_63 rfl (lv_at hl1 0 rfl) ?_
        refine va_iald hx hb hK.1 hP 2 0 rfl rfl (vp_in_nI (by first | assumption | omega) (by decide)) d_Model_behind_64 ?_
        refine W.eq (g2 := F0 m 65 ls [.int (nI (op1 (opn (d1 - 1))))]) (by rw [nI_clamp (by first | exact Nat.lt_of_lt_of_le (by assumption) (by decide) | exact Nat.lt_of_le_of_lt (by assumption) (by decide) | omega)]) ?_
        refine lv_iconst (v := 2) hx hb d_Model_behind_65 (by decide) ?_
        refine lv_icmp_ne (tgt := 110) hx hb d_Model_behind_66 (by decide) (fun c_59 => ?_) (fun c_59 => ?_)
        · replace c_59 : ¬ op1 (opn (d1 - 1)) = 2 := fun hq9 => c_59 ((nI_eq (a := op1 (opn (d1 - 1))) (b := 2) (by first | exact Nat.lt_of_lt_of_le (by assumption) (by decide) | exact Nat.lt_of_le_of_lt (by assumption) (by decide) | omega) (by decide)).mpr hq9)
          refine lv_aload_n hx hb d_Model_behind_110 rfl (lv_at hl1 1 rfl) ?_
          refine va_get (D := D) (ci := 11) (v := .ref m7) (C := R_Model) (T := F_Model) (N := 72) hx hb hts i_Model hown hK.1 hP 7 rfl rfl 17 (by decide) (hts _ wd_1053) (fun _ h9 => h9) rfl d_Model_behind_111 ?_
          refine lv_iload_n hx hb d_Model_behind_114 rfl (lv_at hl1 0 rfl) ?_
          refine va_iald hx hb hK.1 hP 2 0 rfl rfl (vp_in_nI (by first | assumption | omega) (by decide)) d_Model_behind_115 ?_
          refine W.eq (g2 := F0 m 116 ls [.int (nI (op1 (opn (d1 - 1))))]) (by rw [nI_clamp (by first | exact Nat.lt_of_lt_of_le (by assumption) (by decide) | exact Nat.lt_of_le_of_lt (by assumption) (by decide) | omega)]) ?_
          refine lv_iconst (v := 3) hx hb d_Model_behind_116 (by decide) ?_
          refine lv_icmp_ne (tgt := 129) hx hb d_Model_behind_117 (by decide) (fun c_60 => ?_) (fun c_60 => ?_)
          · replace c_60 : ¬ op1 (opn (d1 - 1)) = 3 := fun hq9 => c_60 ((nI_eq (a := op1 (opn (d1 - 1))) (b := 3) (by first | exact Nat.lt_of_lt_of_le (by assumption) (by decide) | exact Nat.lt_of_le_of_lt (by assumption) (by decide) | omega) (by decide)).mpr hq9)
            refine lv_aload_n hx hb d_Model_behind_129 rfl (lv_at hl1 1 rfl) ?_
            refine va_get (D := D) (ci := 11) (v := .ref m7) (C := R_Model) (T := F_Model) (N := 72) hx hb hts i_Model hown hK.1 hP 7 rfl rfl 17 (by decide) (hts _ wd_1053) (fun _ h9 => h9) rfl d_Model_behind_130 ?_
            refine lv_iload_n hx hb d_Model_behind_133 rfl (lv_at hl1 0 rfl) ?_
            refine va_iald hx hb hK.1 hP 2 0 rfl rfl (vp_in_nI (by first | assumption | omega) (by decide)) d_Model_behind_134 ?_
            refine W.eq (g2 := F0 m 135 ls [.int (nI (op1 (opn (d1 - 1))))]) (by rw [nI_clamp (by first | exact Nat.lt_of_lt_of_le (by assumption) (by decide) | exact Nat.lt_of_le_of_lt (by assumption) (by decide) | omega)]) ?_
            refine lv_iconst (v := 5) hx hb d_Model_behind_135 (by decide) ?_
            refine lv_icmp_ne (tgt := 152) hx hb d_Model_behind_136 (by decide) (fun c_61 => ?_) (fun c_61 => ?_)
            · replace c_61 : ¬ op1 (opn (d1 - 1)) = 5 := fun hq9 => c_61 ((nI_eq (a := op1 (opn (d1 - 1))) (b := 5) (by first | exact Nat.lt_of_lt_of_le (by assumption) (by decide) | exact Nat.lt_of_le_of_lt (by assumption) (by decide) | omega) (by decide)).mpr hq9)
              refine lv_iconst (v := 0) hx hb d_Model_behind_152 (by decide) ?_
              refine lv_istore_n (lv' := [(2, .int 0), (1, .int (nI (opn (d1 - 1)))), (0, .ref m0)]) hx hb d_Model_behind_153 rfl hl1 (by decide) rfl (fun ls hl2 => ?_)
              clear hl1; have hl1 := hl2; clear hl2
              exact jn_11 0 (Or.inl rfl) (Or.inr (by first | assumption | omega)) (by first | assumption | omega) (by first | assumption | omega) _ _ _ (hP.sub [0, 1, 2, 3, 4, 5, 6, 7] rfl) (hD.sub [0, 1, 2, 3, 4, 5, 6, 7] (by decide) rfl) hS (lv_sub hl1 [2, 1, 0] rfl)
            · replace c_61 : op1 (opn (d1 - 1)) = 5 := (nI_eq (a := op1 (opn (d1 - 1))) (b := 5) (by first | exact Nat.lt_of_lt_of_le (by assumption) (by decide) | exact Nat.lt_of_le_of_lt (by assumption) (by decide) | omega) (by decide)).mp c_61
              refine lv_aload_n hx hb d_Model_behind_139 rfl (lv_at hl1 1 rfl) ?_
              refine va_get (D := D) (ci := 11) (v := .int (nI k1)) (C := R_Model) (T := F_Model) (N := 72) hx hb hts i_Model hown hK.1 hP 7 rfl rfl 6 (by decide) (hts _ wd_1042) (fun _ h9 => h9) rfl d_Model_behind_140 ?_
              refine lv_bipush (v := 19) hx hb d_Model_behind_143 (by decide) ?_
              refine lv_icmp_ne (tgt := 152) hx hb d_Model_behind_145 (by decide) (fun c_62 => ?_) (fun c_62 => ?_)
              · replace c_62 : ¬ k1 = 19 := fun hq9 => c_62 ((nI_eq (a := k1) (b := 19) (by first | exact Nat.lt_of_lt_of_le (by assumption) (by decide) | exact Nat.lt_of_le_of_lt (by assumption) (by decide) | omega) (by decide)).mpr hq9)
                refine lv_iconst (v := 0) hx hb d_Model_behind_152 (by decide) ?_
                refine lv_istore_n (lv' := [(2, .int 0), (1, .int (nI (opn (d1 - 1)))), (0, .ref m0)]) hx hb d_Model_behind_153 rfl hl1 (by decide) rfl (fun ls hl2 => ?_)
                clear hl1; have hl1 := hl2; clear hl2
                exact jn_11 0 (Or.inl rfl) (Or.inr (by first | assumption | omega)) (by first | assumption | omega) (by first | assumption | omega) _ _ _ (hP.sub [0, 1, 2, 3, 4, 5, 6, 7] rfl) (hD.sub [0, 1, 2, 3, 4, 5, 6, 7] (by decide) rfl) hS (lv_sub hl1 [2, 1, 0] rfl)
              · replace c_62 : k1 = 19 := (nI_eq (a := k1) (b := 19) (by first | exact Nat.lt_of_lt_of_le (by assumption) (by decide) | exact Nat.lt_of_le_of_lt (by assumption) (by decide) | omega) (by decide)).mp c_62
                refine lv_iconst (v := 1) hx hb d_Model_behind_148 (by decide) ?_
                refine lv_goto (tgt := 153) hx hb d_Model_behind_149 (by decide) ?_
                refine lv_istore_n (lv' := [(2, .int 1), (1, .int (nI (opn (d1 - 1)))), (0, .ref m0)]) hx hb d_Model_behind_153 rfl hl1 (by decide) rfl (fun ls hl2 => ?_)
                clear hl1; have hl1 := hl2; clear hl2
                exact jn_11 1 (Or.inr (by first | assumption | omega)) (Or.inl rfl) (by first | assumption | omega) (by first | assumption | omega) _ _ _ (hP.sub [0, 1, 2, 3, 4, 5, 6, 7] rfl) (hD.sub [0, 1, 2, 3, 4, 5, 6, 7] (by decide) rfl) hS (lv_sub hl1 [2, 1, 0] rfl)
          · replace c_60 : op1 (opn (d1 - 1)) = 3 := (nI_eq (a := op1 (opn (d1 - 1))) (b := 3) (by first | exact Nat.lt_of_lt_of_le (by assumption) (by decide) | exact Nat.lt_of_le_of_lt (by assumption) (by decide) | omega) (by decide)).mp c_60
            refine lv_aload_n hx hb d_Model_behind_120 rfl (lv_at hl1 1 rfl) ?_
            refine va_get (D := D) (ci := 11) (v := .int (nI k1)) (C := R_Model) (T := F_Model) (N := 72) hx hb hts i_Model hown hK.1 hP 7 rfl rfl 6 (by decide) (hts _ wd_1042) (fun _ h9 => h9) rfl d_Model_behind_121 ?_
            refine lv_bipush (v := 14) hx hb d_Model_behind_124 (by decide) ?_
            refine lv_icmp_eq (tgt := 148) hx hb d_Model_behind_126 (by decide) (fun c_63 => ?_) (fun c_63 => ?_)
            · replace c_63 : k1 = 14 := (nI_eq (a := k1) (b := 14) (by first | exact Nat.lt_of_lt_of_le (by assumption) (by decide) | exact Nat.lt_of_le_of_lt (by assumption) (by decide) | omega) (by decide)).mp c_63
              refine lv_iconst (v := 1) hx hb d_Model_behind_148 (by decide) ?_
              refine lv_goto (tgt := 153) hx hb d_Model_behind_149 (by decide) ?_
              refine lv_istore_n (lv' := [(2, .int 1), (1, .int (nI (opn (d1 - 1)))), (0, .ref m0)]) hx hb d_Model_behind_153 rfl hl1 (by decide) rfl (fun ls hl2 => ?_)
              clear hl1; have hl1 := hl2; clear hl2
              exact jn_11 1 (Or.inr (by first | assumption | omega)) (Or.inl rfl) (by first | assumption | omega) (by first | assumption | omega) _ _ _ (hP.sub [0, 1, 2, 3, 4, 5, 6, 7] rfl) (hD.sub [0, 1, 2, 3, 4, 5, 6, 7] (by decide) rfl) hS (lv_sub hl1 [2, 1, 0] rfl)
            · replace c_63 : ¬ k1 = 14 := fun hq9 => c_63 ((nI_eq (a := k1) (b := 14) (by first | exact Nat.lt_of_lt_of_le (by assumption) (by decide) | exact Nat.lt_of_le_of_lt (by assumption) (by decide) | omega) (by decide)).mpr hq9)
              refine lv_aload_n hx hb d_Model_behind_129 rfl (lv_at hl1 1 rfl) ?_
              refine va_get (D := D) (ci := 11) (v := .ref m7) (C := R_Model) (T := F_Model) (N := 72) hx hb hts i_Model hown hK.1 hP 7 rfl rfl 17 (by decide) (hts _ wd_1053) (fun _ h9 => h9) rfl d_Model_behind_130 ?_
              refine lv_iload_n hx hb d_Model_behind_133 rfl (lv_at hl1 0 rfl) ?_
              refine va_iald hx hb hK.1 hP 2 0 rfl rfl (vp_in_nI (by first | assumption | omega) (by decide)) d_Model_behind_134 ?_
              refine W.eq (g2 := F0 m 135 ls [.int (nI (op1 (opn (d1 - 1))))]) (by rw [nI_clamp (by first | exact Nat.lt_of_lt_of_le (by assumption) (by decide) | exact Nat.lt_of_le_of_lt (by assumption) (by decide) | omega)]) ?_
              refine lv_iconst (v := 5) hx hb d_Model_behind_135 (by decide) ?_
              refine lv_icmp_ne (tgt := 152) hx hb d_Model_behind_136 (by decide) (fun c_64 => ?_) (fun c_64 => ?_)
              · replace c_64 : ¬ op1 (opn (d1 - 1)) = 5 := fun hq9 => c_64 ((nI_eq (a := op1 (opn (d1 - 1))) (b := 5) (by first | exact Nat.lt_of_lt_of_le (by assumption) (by decide) | exact Nat.lt_of_le_of_lt (by assumption) (by decide) | omega) (by decide)).mpr hq9)
                refine lv_iconst (v := 0) hx hb d_Model_behind_152 (by decide) ?_
                refine lv_istore_n (lv' := [(2, .int 0), (1, .int (nI (opn (d1 - 1)))), (0, .ref m0)]) hx hb d_Model_behind_153 rfl hl1 (by decide) rfl (fun ls hl2 => ?_)
                clear hl1; have hl1 := hl2; clear hl2
                exact jn_11 0 (Or.inl rfl) (Or.inr (by first | assumption | omega)) (by first | assumption | omega) (by first | assumption | omega) _ _ _ (hP.sub [0, 1, 2, 3, 4, 5, 6, 7] rfl) (hD.sub [0, 1, 2, 3, 4, 5, 6, 7] (by decide) rfl) hS (lv_sub hl1 [2, 1, 0] rfl)
              · replace c_64 : op1 (opn (d1 - 1)) = 5 := (nI_eq (a := op1 (opn (d1 - 1))) (b := 5) (by first | exact Nat.lt_of_lt_of_le (by assumption) (by decide) | exact Nat.lt_of_le_of_lt (by assumption) (by decide) | omega) (by decide)).mp c_64
                refine lv_aload_n hx hb d_Model_behind_139 rfl (lv_at hl1 1 rfl) ?_
                refine va_get (D := D) (ci := 11) (v := .int (nI k1)) (C := R_Model) (T := F_Model) (N := 72) hx hb hts i_Model hown hK.1 hP 7 rfl rfl 6 (by decide) (hts _ wd_1042) (fun _ h9 => h9) rfl d_Model_behind_140 ?_
                refine lv_bipush (v := 19) hx hb d_Model_behind_143 (by decide) ?_
                refine lv_icmp_ne (tgt := 152) hx hb d_Model_behind_145 (by decide) (fun c_65 => ?_) (fun c_65 => ?_)
                · replace c_65 : ¬ k1 = 19 := fun hq9 => c_65 ((nI_eq (a := k1) (b := 19) (by first | exact Nat.lt_of_lt_of_le (by assumption) (by decide) | exact Nat.lt_of_le_of_lt (by assumption) (by decide) | omega) (by decide)).mpr hq9)
                  refine lv_iconst (v := 0) hx hb d_Model_behind_152 (by decide) ?_
                  refine lv_istore_n (lv' := [(2, .int 0), (1, .int (nI (opn (d1 - 1)))), (0, .ref m0)]) hx hb d_Model_behind_153 rfl hl1 (by decide) rfl (fun ls hl2 => ?_)
                  clear hl1; have hl1 := hl2; clear hl2
                  exact jn_11 0 (Or.inl rfl) (Or.inr (by first | assumption | omega)) (by first | assumption | omega) (by first | assumption | omega) _ _ _ (hP.sub [0, 1, 2, 3, 4, 5, 6, 7] rfl) (hD.sub [0, 1, 2, 3, 4, 5, 6, 7] (by decide) rfl) hS (lv_sub hl1 [2, 1, 0] rfl)
                · replace c_65 : k1 = 19 := (nI_eq (a := k1) (b := 19) (by first | exact Nat.lt_of_lt_of_le (by assumption) (by decide) | exact Nat.lt_of_le_of_lt (by assumption) (by decide) | omega) (by decide)).mp c_65
                  refine lv_iconst (v := 1) hx hb d_Model_behind_148 (by decide) ?_
                  refine lv_goto (tgt := 153) hx hb d_Model_behind_149 (by decide) ?_
                  refine lv_istore_n (lv' := [(2, .int 1), (1, .int (nI (opn (d1 - 1)))), (0, .ref m0)]) hx hb d_Model_behind_153 rfl hl1 (by decide) rfl (fun ls hl2 => ?_)
                  clear hl1; have hl1 := hl2; clear hl2
                  exact jn_11 1 (Or.inr (by first | assumption | omega)) (Or.inl rfl) (by first | assumption | omega) (by first | assumption | omega) _ _ _ (hP.sub [0, 1, 2, 3, 4, 5, 6, 7] rfl) (hD.sub [0, 1, 2, 3, 4, 5, 6, 7] (by decide) rfl) hS (lv_sub hl1 [2, 1, 0] rfl)
        · replace c_59 : op1 (opn (d1 - 1)) = 2 := (nI_eq (a := op1 (opn (d1 - 1))) (b := 2) (by first | exact Nat.lt_of_lt_of_le (by assumption) (by decide) | exact Nat.lt_of_le_of_lt (by assumption) (by decide) | omega) (by decide)).mp c_59
          refine lv_aload_n hx hb d_Model_behind_69 rfl (lv_at hl1 1 rfl) ?_
          refine va_get (D := D) (ci := 11) (v := .int (nI k1)) (C := R_Model) (T := F_Model) (N := 72) hx hb hts i_Model hown hK.1 hP 7 rfl rfl 6 (by decide) (hts _ wd_1042) (fun _ h9 => h9) rfl d_Model_behind_70 ?_
          refine lv_bipush (v := 13) hx hb d_Model_behind_73 (by decide) ?_
          refine lv_icmp_ne (tgt := 110) hx hb d_Model_behind_75 (by decide) (fun c_66 => ?_) (fun c_66 => ?_)
          · replace c_66 : ¬ k1 = 13 := fun hq9 => c_66 ((nI_eq (a := k1) (b := 13) (by first | exact Nat.lt_of_lt_of_le (by assumption) (by decide) | exact Nat.lt_of_le_of_lt (by assumption) (by decide) | omega) (by decide)).mpr hq9)
            refine lv_aload_n hx hb d_Model_behind_110 rfl (lv_at hl1 1 rfl) ?_
            refine va_get (D := D) (ci := 11) (v := .ref m7) (C := R_Model) (T := F_Model) (N := 72) hx hb hts i_Model hown hK.1 hP 7 rfl rfl 17 (by decide) (hts _ wd_1053) (fun _ h9 => h9) rfl d_Model_behind_111 ?_
            refine lv_iload_n hx hb d_Model_behind_114 rfl (lv_at hl1 0 rfl) ?_
            refine va_iald hx hb hK.1 hP 2 0 rfl rfl (vp_in_nI (by first | assumption | omega) (by decide)) d_Model_behind_115 ?_
            refine W.eq (g2 := F0 m 116 ls [.int (nI (op1 (opn (d1 - 1))))]) (by rw [nI_clamp (by first | exact Nat.lt_of_lt_of_le (by assumption) (by decide) | exact Nat.lt_of_le_of_lt (by assumption) (by decide) | omega)]) ?_
            refine lv_iconst (v := 3) hx hb d_Model_behind_116 (by decide) ?_
            refine lv_icmp_ne (tgt := 129) hx hb d_Model_behind_117 (by decide) (fun c_67 => ?_) (fun c_67 => ?_)
            · replace c_67 : ¬ op1 (opn (d1 - 1)) = 3 := fun hq9 => c_67 ((nI_eq (a := op1 (opn (d1 - 1))) (b := 3) (by first | exact Nat.lt_of_lt_of_le (by assumption) (by decide) | exact Nat.lt_of_le_of_lt (by assumption) (by decide) | omega) (by decide)).mpr hq9)
              refine lv_aload_n hx hb d_Model_behind_129 rfl (lv_at hl1 1 rfl) ?_
              refine va_get (D := D) (ci := 11) (v := .ref m7) (C := R_Model) (T := F_Model) (N := 72) hx hb hts i_Model hown hK.1 hP 7 rfl rfl 17 (by decide) (hts _ wd_1053) (fun _ h9 => h9) rfl d_Model_behind_130 ?_
              refine lv_iload_n hx hb d_Model_behind_133 rfl (lv_at hl1 0 rfl) ?_
              refine va_iald hx hb hK.1 hP 2 0 rfl rfl (vp_in_nI (by first | assumption | omega) (by decide)) d_Model_behind_134 ?_
              refine W.eq (g2 := F0 m 135 ls [.int (nI (op1 (opn (d1 - 1))))]) (by rw [nI_clamp (by first | exact Nat.lt_of_lt_of_le (by assumption) (by decide) | exact Nat.lt_of_le_of_lt (by assumption) (by decide) | omega)]) ?_
              refine lv_iconst (v := 5) hx hb d_Model_behind_135 (by decide) ?_
              refine lv_icmp_ne (tgt := 152) hx hb d_Model_behind_136 (by decide) (fun c_68 => ?_) (fun c_68 => ?_)
              · replace c_68 : ¬ op1 (opn (d1 - 1)) = 5 := fun hq9 => c_68 ((nI_eq (a := op1 (opn (d1 - 1))) (b := 5) (by first | exact Nat.lt_of_lt_of_le (by assumption) (by decide) | exact Nat.lt_of_le_of_lt (by assumption) (by decide) | omega) (by decide)).mpr hq9)
                refine lv_iconst (v := 0) hx hb d_Model_behind_152 (by decide) ?_
                refine lv_istore_n (lv' := [(2, .int 0), (1, .int (nI (opn (d1 - 1)))), (0, .ref m0)]) hx hb d_Model_behind_153 rfl hl1 (by decide) rfl (fun ls hl2 => ?_)
                clear hl1; have hl1 := hl2; clear hl2
                exact jn_11 0 (Or.inl rfl) (Or.inr (by first | assumption | omega)) (by first | assumption | omega) (by first | assumption | omega) _ _ _ (hP.sub [0, 1, 2, 3, 4, 5, 6, 7] rfl) (hD.sub [0, 1, 2, 3, 4, 5, 6, 7] (by decide) rfl) hS (lv_sub hl1 [2, 1, 0] rfl)
              · replace c_68 : op1 (opn (d1 - 1)) = 5 := (nI_eq (a := op1 (opn (d1 - 1))) (b := 5) (by first | exact Nat.lt_of_lt_of_le (by assumption) (by decide) | exact Nat.lt_of_le_of_lt (by assumption) (by decide) | omega) (by decide)).mp c_68
                refine lv_aload_n hx hb d_Model_behind_139 rfl (lv_at hl1 1 rfl) ?_
                refine va_get (D := D) (ci := 11) (v := .int (nI k1)) (C := R_Model) (T := F_Model) (N := 72) hx hb hts i_Model hown hK.1 hP 7 rfl rfl 6 (by decide) (hts _ wd_1042) (fun _ h9 => h9) rfl d_Model_behind_140 ?_
                refine lv_bipush (v := 19) hx hb d_Model_behind_143 (by decide) ?_
                refine lv_icmp_ne (tgt := 152) hx hb d_Model_behind_145 (by decide) (fun c_69 => ?_) (fun c_69 => ?_)
                · replace c_69 : ¬ k1 = 19 := fun hq9 => c_69 ((nI_eq (a := k1) (b := 19) (by first | exact Nat.lt_of_lt_of_le (by assumption) (by decide) | exact Nat.lt_of_le_of_lt (by assumption) (by decide) | omega) (by decide)).mpr hq9)
                  refine lv_iconst (v := 0) hx hb d_Model_behind_152 (by decide) ?_
                  refine lv_istore_n (lv' := [(2, .int 0), (1, .int (nI (opn (d1 - 1)))), (0, .ref m0)]) hx hb d_Model_behind_153 rfl hl1 (by decide) rfl (fun ls hl2 => ?_)
                  clear hl1; have hl1 := hl2; clear hl2
                  exact jn_11 0 (Or.inl rfl) (Or.inr (by first | assumption | omega)) (by first | assumption | omega) (by first | assumption | omega) _ _ _ (hP.sub [0, 1, 2, 3, 4, 5, 6, 7] rfl) (hD.sub [0, 1, 2, 3, 4, 5, 6, 7] (by decide) rfl) hS (lv_sub hl1 [2, 1, 0] rfl)
                · replace c_69 : k1 = 19 := (nI_eq (a := k1) (b := 19) (by first | exact Nat.lt_of_lt_of_le (by assumption) (by decide) | exact Nat.lt_of_le_of_lt (by assumption) (by decide) | omega) (by decide)).mp c_69
                  refine lv_iconst (v := 1) hx hb d_Model_behind_148 (by decide) ?_
                  refine lv_goto (tgt := 153) hx hb d_Model_behind_149 (by decide) ?_
                  refine lv_istore_n (lv' := [(2, .int 1), (1, .int (nI (opn (d1 - 1)))), (0, .ref m0)]) hx hb d_Model_behind_153 rfl hl1 (by decide) rfl (fun ls hl2 => ?_)
                  clear hl1; have hl1 := hl2; clear hl2
                  exact jn_11 1 (Or.inr (by first | assumption | omega)) (Or.inl rfl) (by first | assumption | omega) (by first | assumption | omega) _ _ _ (hP.sub [0, 1, 2, 3, 4, 5, 6, 7] rfl) (hD.sub [0, 1, 2, 3, 4, 5, 6, 7] (by decide) rfl) hS (lv_sub hl1 [2, 1, 0] rfl)
            · replace c_67 : op1 (opn (d1 - 1)) = 3 := (nI_eq (a := op1 (opn (d1 - 1))) (b := 3) (by first | exact Nat.lt_of_lt_of_le (by assumption) (by decide) | exact Nat.lt_of_le_of_lt (by assumption) (by decide) | omega) (by decide)).mp c_67
              refine lv_aload_n hx hb d_Model_behind_120 rfl (lv_at hl1 1 rfl) ?_
              refine va_get (D := D) (ci := 11) (v := .int (nI k1)) (C := R_Model) (T := F_Model) (N := 72) hx hb hts i_Model hown hK.1 hP 7 rfl rfl 6 (by decide) (hts _ wd_1042) (fun _ h9 => h9) rfl d_Model_behind_121 ?_
              refine lv_bipush (v := 14) hx hb d_Model_behind_124 (by decide) ?_
              refine lv_icmp_eq (tgt := 148) hx hb d_Model_behind_126 (by decide) (fun c_70 => ?_) (fun c_70 => ?_)
              · replace c_70 : k1 = 14 := (nI_eq (a := k1) (b := 14) (by first | exact Nat.lt_of_lt_of_le (by assumption) (by decide) | exact Nat.lt_of_le_of_lt (by assumption) (by decide) | omega) (by decide)).mp c_70
                refine lv_iconst (v := 1) hx hb d_Model_behind_148 (by decide) ?_
                refine lv_goto (tgt := 153) hx hb d_Model_behind_149 (by decide) ?_
                refine lv_istore_n (lv' := [(2, .int 1), (1, .int (nI (opn (d1 - 1)))), (0, .ref m0)]) hx hb d_Model_behind_153 rfl hl1 (by decide) rfl (fun ls hl2 => ?_)
                clear hl1; have hl1 := hl2; clear hl2
                exact jn_11 1 (Or.inr (by first | assumption | omega)) (Or.inl rfl) (by first | assumption | omega) (by first | assumption | omega) _ _ _ (hP.sub [0, 1, 2, 3, 4, 5, 6, 7] rfl) (hD.sub [0, 1, 2, 3, 4, 5, 6, 7] (by decide) rfl) hS (lv_sub hl1 [2, 1, 0] rfl)
              · replace c_70 : ¬ k1 = 14 := fun hq9 => c_70 ((nI_eq (a := k1) (b := 14) (by first | exact Nat.lt_of_lt_of_le (by assumption) (by decide) | exact Nat.lt_of_le_of_lt (by assumption) (by decide) | omega) (by decide)).mpr hq9)
                refine lv_aload_n hx hb d_Model_behind_129 rfl (lv_at hl1 1 rfl) ?_
                refine va_get (D := D) (ci := 11) (v := .ref m7) (C := R_Model) (T := F_Model) (N := 72) hx hb hts i_Model hown hK.1 hP 7 rfl rfl 17 (by decide) (hts _ wd_1053) (fun _ h9 => h9) rfl d_Model_behind_130 ?_
                refine lv_iload_n hx hb d_Model_behind_133 rfl (lv_at hl1 0 rfl) ?_
                refine va_iald hx hb hK.1 hP 2 0 rfl rfl (vp_in_nI (by first | assumption | omega) (by decide)) d_Model_behind_134 ?_
                refine W.eq (g2 := F0 m 135 ls [.int (nI (op1 (opn (d1 - 1))))]) (by rw [nI_clamp (by first | exact Nat.lt_of_lt_of_le (by assumption) (by decide) | exact Nat.lt_of_le_of_lt (by assumption) (by decide) | omega)]) ?_
                refine lv_iconst (v := 5) hx hb d_Model_behind_135 (by decide) ?_
                refine lv_icmp_ne (tgt := 152) hx hb d_Model_behind_136 (by decide) (fun c_71 => ?_) (fun c_71 => ?_)
                · replace c_71 : ¬ op1 (opn (d1 - 1)) = 5 := fun hq9 => c_71 ((nI_eq (a := op1 (opn (d1 - 1))) (b := 5) (by first | exact Nat.lt_of_lt_of_le (by assumption) (by decide) | exact Nat.lt_of_le_of_lt (by assumption) (by decide) | omega) (by decide)).mpr hq9)
                  refine lv_iconst (v := 0) hx hb d_Model_behind_152 (by decide) ?_
                  refine lv_istore_n (lv' := [(2, .int 0), (1, .int (nI (opn (d1 - 1)))), (0, .ref m0)]) hx hb d_Model_behind_153 rfl hl1 (by decide) rfl (fun ls hl2 => ?_)
                  clear hl1; have hl1 := hl2; clear hl2
                  exact jn_11 0 (Or.inl rfl) (Or.inr (by first | assumption | omega)) (by first | assumption | omega) (by first | assumption | omega) _ _ _ (hP.sub [0, 1, 2, 3, 4, 5, 6, 7] rfl) (hD.sub [0, 1, 2, 3, 4, 5, 6, 7] (by decide) rfl) hS (lv_sub hl1 [2, 1, 0] rfl)
                · replace c_71 : op1 (opn (d1 - 1)) = 5 := (nI_eq (a := op1 (opn (d1 - 1))) (b := 5) (by first | exact Nat.lt_of_lt_of_le (by assumption) (by decide) | exact Nat.lt_of_le_of_lt (by assumption) (by decide) | omega) (by decide)).mp c_71
                  refine lv_aload_n hx hb d_Model_behind_139 rfl (lv_at hl1 1 rfl) ?_
                  refine va_get (D := D) (ci := 11) (v := .int (nI k1)) (C := R_Model) (T := F_Model) (N := 72) hx hb hts i_Model hown hK.1 hP 7 rfl rfl 6 (by decide) (hts _ wd_1042) (fun _ h9 => h9) rfl d_Model_behind_140 ?_
                  refine lv_bipush (v := 19) hx hb d_Model_behind_143 (by decide) ?_
                  refine lv_icmp_ne (tgt := 152) hx hb d_Model_behind_145 (by decide) (fun c_72 => ?_) (fun c_72 => ?_)
                  · replace c_72 : ¬ k1 = 19 := fun hq9 => c_72 ((nI_eq (a := k1) (b := 19) (by first | exact Nat.lt_of_lt_of_le (by assumption) (by decide) | exact Nat.lt_of_le_of_lt (by assumption) (by decide) | omega) (by decide)).mpr hq9)
                    refine lv_iconst (v := 0) hx hb d_Model_behind_152 (by decide) ?_
                    refine lv_istore_n (lv' := [(2, .int 0), (1, .int (nI (opn (d1 - 1)))), (0, .ref m0)]) hx hb d_Model_behind_153 rfl hl1 (by decide) rfl (fun ls hl2 => ?_)
                    clear hl1; have hl1 := hl2; clear hl2
                    exact jn_11 0 (Or.inl rfl) (Or.inr (by first | assumption | omega)) (by first | assumption | omega) (by first | assumption | omega) _ _ _ (hP.sub [0, 1, 2, 3, 4, 5, 6, 7] rfl) (hD.sub [0, 1, 2, 3, 4, 5, 6, 7] (by decide) rfl) hS (lv_sub hl1 [2, 1, 0] rfl)
                  · replace c_72 : k1 = 19 := (nI_eq (a := k1) (b := 19) (by first | exact Nat.lt_of_lt_of_le (by assumption) (by decide) | exact Nat.lt_of_le_of_lt (by assumption) (by decide) | omega) (by decide)).mp c_72
                    refine lv_iconst (v := 1) hx hb d_Model_behind_148 (by decide) ?_
                    refine lv_goto (tgt := 153) hx hb d_Model_behind_149 (by decide) ?_
                    refine lv_istore_n (lv' := [(2, .int 1), (1, .int (nI (opn (d1 - 1)))), (0, .ref m0)]) hx hb d_Model_behind_153 rfl hl1 (by decide) rfl (fun ls hl2 => ?_)
                    clear hl1; have hl1 := hl2; clear hl2
                    exact jn_11 1 (Or.inr (by first | assumption | omega)) (Or.inl rfl) (by first | assumption | omega) (by first | assumption | omega) _ _ _ (hP.sub [0, 1, 2, 3, 4, 5, 6, 7] rfl) (hD.sub [0, 1, 2, 3, 4, 5, 6, 7] (by decide) rfl) hS (lv_sub hl1 [2, 1, 0] rfl)
          · replace c_66 : k1 = 13 := (nI_eq (a := k1) (b := 13) (by first | exact Nat.lt_of_lt_of_le (by assumption) (by decide) | exact Nat.lt_of_le_of_lt (by assumption) (by decide) | omega) (by decide)).mp c_66
            refine lv_aload_n hx hb d_Model_behind_78 rfl (lv_at hl1 1 rfl) ?_
            have hlt_73 : b1 < e1 := tk0.lt (by assumption) (by first | assumption | omega)
            refine lv_iconst (v := 3) hx hb d_Model_behind_79 (by decide) ?_
            refine lv_iconst (v := 0) hx hb d_Model_behind_80 (by decide) ?_
            obtain ⟨hPc, hDc, hFc, hCs⟩ := xw_sub3 (wc := [(m0, .inr (11, [.int s_thrown, .int s_taped, .ref m1, .int (nI n), .int s_outSize, .ref m2, .int (nI k1), .int (nI v1), .int (nI b1), .int (nI e1), .int 0, .ref m3, .ref m4, .ref m5, .int s_isProgram, .int (nI hf), .ref m6, .ref m7, .ref m8, .ref m9, .ref m10, .ref m11, .ref m12, .ref m13, .ref m14, .ref m15, .ref m16, .ref m17, .ref m18, .ref m19, .ref m20, .int s_signs, .ref m21, .int s_stacked, .ref m22, .int s_name, .int s_shift, .int s_statements, .int s_ifs, .int s_whiles, .int s_variants, .int (nI d1), .ref m23, .int s_isMade, .int s_conditions, .ref m24, .ref m25, .ref m26, .ref m27, .int s_kept, .ref m28, .int s_tops, .ref m29, .int s_used, .ref m30, .ref m31, .int s_looked, .int s_rows, .int s_firstRow, .ref m32, .ref m33, .ref m34, .ref m35, .ref m36, .ref m37, .ref m38, .ref m39, .ref m40, .int s_isBroken, .ref m41, .int s_atoms, .ref m42])), (m7, .inl (ax 0, 80, .inl (fun j => nI (op1 j)))), (m8, .inl (ax 0, 80, .inl (fun j => nI (nu1 j)))), (m16, .inl (ax 3, 80, .inl vr1)), (m6, .inl (ax 0, 2, .inl (fun j => nI (it1 j))))]) hP hD hS hA [7, 2, 3, 4, 1] (by decide) rfl
            have hz := xz_of hN hS
            refine va_calli (va_runV (As := [.int 3, .int 0]) (rest := []) ⟨hx, hb, hml, hown, hts⟩ (c_M_add l D ax m0 m1 m2 m3 m4 m5 m6 m7 m8 m9 m10 m11 m12 m13 m14 m15 m16 m17 m18 m19 m20 m21 m22 m23 m24 m25 m26 m27 m28 m29 m30 m31 m32 m33 m34 m35 m36 m37 m38 m39 m40 m41 m42 s_thrown s_taped (nI n) s_outSize (nI k1) (nI v1) (nI b1) (nI e1) 0 s_isProgram s_signs s_stacked s_name s_shift s_statements s_ifs s_whiles s_variants (nI d1) s_isMade s_conditions s_kept s_tops s_used s_looked s_rows s_firstRow s_isBroken s_atoms hf 3 0 it1 op1 nu1 vr1 H_7.size hhf (by first | assumption | omega)) (xcV (n := 2) hts wd_1375 wd_15 wd_1372 wd_1374 ps_69 rfl rfl (by decide +kernel) ⟨Nat.le_of_ble_eq_true rfl, Nat.le_of_ble_eq_true rfl⟩) (xpV (ci := 11) (q0 := 0) (As := [.int 3, .int 0]) hPc hK hz hDc rfl rfl) rfl rfl hl1.1 rfl (lv_room (Nat.le_of_ble_eq_true rfl)) d_Model_behind_81 ⟨Nat.le_of_ble_eq_true rfl, Nat.le_of_ble_eq_true rfl⟩) hS (fun q _ h => hFc q h) hFc (fun r_76 u_74 t H_75 locs ht hvm hw hB hz1 hk1 hS1 => ?_)
            try dsimp only at hw
            subst hw
            obtain ⟨hP1, hD1⟩ := hB
            rw [ht] at hP1
            have hjn := xw_join3 (wl := [(m1, .inl (ax 0, 400, .inl (fun j => nI (g j)))), (m18, .inl (ax 0, 80, .inl (fun j => nI (lk1 j)))), (m23, .inl (ax 0, 16, .inl (fun j => nI (opn j)))), (m0, .inr (11, [.int s_thrown, .int s_taped, .ref m1, .int (nI n), .int s_outSize, .ref m2, .int (nI k1), .int (nI v1), .int (nI b1), .int (nI e1), .int 0, .ref m3, .ref m4, .ref m5, .int s_isProgram, .int (nI hf), .ref m6, .ref m7, .ref m8, .ref m9, .ref m10, .ref m11, .ref m12, .ref m13, .ref m14, .ref m15, .ref m16, .ref m17, .ref m18, .ref m19, .ref m20, .int s_signs, .ref m21, .int s_stacked, .ref m22, .int s_name, .int s_shift, .int s_statements, .int s_ifs, .int s_whiles, .int s_variants, .int (nI d1), .ref m23, .int s_isMade, .int s_conditions, .ref m24, .ref m25, .ref m26, .ref m27, .int s_kept, .ref m28, .int s_tops, .ref m29, .int s_used, .ref m30, .ref m31, .int s_looked, .int s_rows, .int s_firstRow, .ref m32, .ref m33, .ref m34, .ref m35, .ref m36, .ref m37, .ref m38, .ref m39, .ref m40, .int s_isBroken, .ref m41, .int s_atoms, .ref m42])), (m7, .inl (ax 0, 80, .inl (fun j => nI (sup op1 (40 * (1 - hf) + it1 (1 - hf)) 3 j)))), (m8, .inl (ax 0, 80, .inl (fun j => nI (sup nu1 (40 * (1 - hf) + it1 (1 - hf)) 0 j)))), (m16, .inl (ax 3, 80, .inl (upd vr1 (40 * (1 - hf) + it1 (1 - hf)) 0))), (m6, .inl (ax 0, 2, .inl (fun j => nI (sup it1 (1 - hf) (it1 (1 - hf) + 1) j))))]) hP hD [7, 2, 3, 4, 1] [0, 5, 6] hCs (by decide) (by decide) hk1 hFc hP1 hD1 rfl
            clear hP1 hD1
            clear hPc hDc hFc hCs hz hz1 hk1 ht hvm
            clear hP hD hS
            have hS := hS1
            obtain ⟨hP, hD⟩ := hjn
            clear hS1
            refine lv_istore_n (lv' := [(2, .int (nI (40 * (1 - hf) + it1 (1 - hf)))), (1, .int (nI (opn (d1 - 1)))), (0, .ref m0)]) hx hb d_Model_behind_84 rfl hl1 (by decide) rfl (fun ls hl2 => ?_)
            clear hl1; have hl1 := hl2; clear hl2
            refine lv_aload_n hx hb d_Model_behind_85 rfl (lv_at hl1 2 rfl) ?_
            refine va_get (D := D) (ci := 11) (v := .ref m18) (C := R_Model) (T := F_Model) (N := 72) hx hb hts i_Model hown hK.1 hP 3 rfl rfl 28 (by decide) (hts _ wd_1064) (fun _ h9 => h9) rfl d_Model_behind_86 ?_
            refine lv_iload_n hx hb d_Model_behind_89 rfl (lv_at hl1 1 rfl) ?_
            refine lv_iload_n hx hb d_Model_behind_90 rfl (lv_at hl1 0 rfl) ?_
            refine va_iast hx hb hK.1 hP hD hS 1 0 rfl rfl (vp_in_nI (by first | assumption | omega) (by decide)) d_Model_behind_91 (fun H_77 locs hP1 hD1 hS1 => ?_)
            rw [nI_clamp (by first | exact Nat.lt_of_lt_of_le (by assumption) (by decide) | exact Nat.lt_of_le_of_lt (by assumption) (by decide) | omega)] at hP1 hD1
            rw [xf_sup lk1 (opn (d1 - 1)) (40 * (1 - hf) + it1 (1 - hf))] at hP1 hD1
            clear hP hD hS
            have hS := hS1
            have hW7 : (fun w9 : va_W => va_P D classes w9 H_77 ∧ va_D A w9) [(m1, .inl (ax 0, 400, .inl (fun j => nI (g j)))), (m18, .inl (ax 0, 80, .inl (fun j => nI (sup lk1 (opn (d1 - 1)) (40 * (1 - hf) + it1 (1 - hf)) j)))), (m23, .inl (ax 0, 16, .inl (fun j => nI (opn j)))), (m0, .inr (11, [.int s_thrown, .int s_taped, .ref m1, .int (nI n), .int s_outSize, .ref m2, .int (nI k1), .int (nI v1), .int (nI b1), .int (nI e1), .int 0, .ref m3, .ref m4, .ref m5, .int s_isProgram, .int (nI hf), .ref m6, .ref m7, .ref m8, .ref m9, .ref m10, .ref m11, .ref m12, .ref m13, .ref m14, .ref m15, .ref m16, .ref m17, .ref m18, .ref m19, .ref m20, .int s_signs, .ref m21, .int s_stacked, .ref m22, .int s_name, .int s_shift, .int s_statements, .int s_ifs, .int s_whiles, .int s_variants, .int (nI d1), .ref m23, .int s_isMade, .int s_conditions, .ref m24, .ref m25, .ref m26, .ref m27, .int s_kept, .ref m28, .int s_tops, .ref m29, .int s_used, .ref m30, .ref m31, .int s_looked, .int s_rows, .int s_firstRow, .ref m32, .ref m33, .ref m34, .ref m35, .ref m36, .ref m37, .ref m38, .ref m39, .ref m40, .int s_isBroken, .ref m41, .int s_atoms, .ref m42])), (m7, .inl (ax 0, 80, .inl (fun j => nI (sup op1 (40 * (1 - hf) + it1 (1 - hf)) 3 j)))), (m8, .inl (ax 0, 80, .inl (fun j => nI (sup nu1 (40 * (1 - hf) + it1 (1 - hf)) 0 j)))), (m16, .inl (ax 3, 80, .inl (upd vr1 (40 * (1 - hf) + it1 (1 - hf)) 0))), (m6, .inl (ax 0, 2, .inl (fun j => nI (sup it1 (1 - hf) (it1 (1 - hf) + 1) j))))] := ⟨hP1, hD1⟩
            obtain ⟨hP, hD⟩ := hW7
            clear hP1 hD1 hS1
            refine lv_aload_n hx hb d_Model_behind_92 rfl (lv_at hl1 2 rfl) ?_
            refine va_get (D := D) (ci := 11) (v := .ref m23) (C := R_Model) (T := F_Model) (N := 72) hx hb hts i_Model hown hK.1 hP 3 rfl rfl 42 (by decide) (hts _ wd_1078) (fun _ h9 => h9) rfl d_Model_behind_93 ?_
            refine lv_aload_n hx hb d_Model_behind_96 rfl (lv_at hl1 2 rfl) ?_
            refine va_get (D := D) (ci := 11) (v := .int (nI d1)) (C := R_Model) (T := F_Model) (N := 72) hx hb hts i_Model hown hK.1 hP 3 rfl rfl 41 (by decide) (hts _ wd_1077) (fun _ h9 => h9) rfl d_Model_behind_97 ?_
            refine lv_iconst (v := 1) hx hb d_Model_behind_100 (by decide) ?_
            refine lv_isub hx hb d_Model_behind_101 ?_
            refine lv_topi (fun z_78 ez_78 => ?_)
            have ez_78 : z_78 = nI (d1 - 1) := ez_78.trans (pk_sub (a := d1) (b := 1) (by first | assumption | omega))
            subst ez_78
            refine lv_iload_n hx hb d_Model_behind_102 rfl (lv_at hl1 0 rfl) ?_
            refine va_iast hx hb hK.1 hP hD hS 2 0 rfl rfl (vp_in_nI (by first | assumption | omega) (by decide)) d_Model_behind_103 (fun H_79 locs hP1 hD1 hS1 => ?_)
            rw [nI_clamp (by first | exact Nat.lt_of_lt_of_le (by assumption) (by decide) | exact Nat.lt_of_le_of_lt (by assumption) (by decide) | omega)] at hP1 hD1
            rw [xf_sup opn (d1 - 1) (40 * (1 - hf) + it1 (1 - hf))] at hP1 hD1
            clear hP hD hS
            have hS := hS1
            have hW7 : (fun w9 : va_W => va_P D classes w9 H_79 ∧ va_D A w9) [(m1, .inl (ax 0, 400, .inl (fun j => nI (g j)))), (m18, .inl (ax 0, 80, .inl (fun j => nI (sup lk1 (opn (d1 - 1)) (40 * (1 - hf) + it1 (1 - hf)) j)))), (m23, .inl (ax 0, 16, .inl (fun j => nI (sup opn (d1 - 1) (40 * (1 - hf) + it1 (1 - hf)) j)))), (m0, .inr (11, [.int s_thrown, .int s_taped, .ref m1, .int (nI n), .int s_outSize, .ref m2, .int (nI k1), .int (nI v1), .int (nI b1), .int (nI e1), .int 0, .ref m3, .ref m4, .ref m5, .int s_isProgram, .int (nI hf), .ref m6, .ref m7, .ref m8, .ref m9, .ref m10, .ref m11, .ref m12, .ref m13, .ref m14, .ref m15, .ref m16, .ref m17, .ref m18, .ref m19, .ref m20, .int s_signs, .ref m21, .int s_stacked, .ref m22, .int s_name, .int s_shift, .int s_statements, .int s_ifs, .int s_whiles, .int s_variants, .int (nI d1), .ref m23, .int s_isMade, .int s_conditions, .ref m24, .ref m25, .ref m26, .ref m27, .int s_kept, .ref m28, .int s_tops, .ref m29, .int s_used, .ref m30, .ref m31, .int s_looked, .int s_rows, .int s_firstRow, .ref m32, .ref m33, .ref m34, .ref m35, .ref m36, .ref m37, .ref m38, .ref m39, .ref m40, .int s_isBroken, .ref m41, .int s_atoms, .ref m42])), (m7, .inl (ax 0, 80, .inl (fun j => nI (sup op1 (40 * (1 - hf) + it1 (1 - hf)) 3 j)))), (m8, .inl (ax 0, 80, .inl (fun j => nI (sup nu1 (40 * (1 - hf) + it1 (1 - hf)) 0 j)))), (m16, .inl (ax 3, 80, .inl (upd vr1 (40 * (1 - hf) + it1 (1 - hf)) 0))), (m6, .inl (ax 0, 2, .inl (fun j => nI (sup it1 (1 - hf) (it1 (1 - hf) + 1) j))))] := ⟨hP1, hD1⟩
            obtain ⟨hP, hD⟩ := hW7
            clear hP1 hD1 hS1
            refine lv_aload_n hx hb d_Model_behind_104 rfl (lv_at hl1 2 rfl) ?_
            obtain ⟨hPc, hDc, hFc, hCs⟩ := xw_sub3 (wc := [(m0, .inr (11, [.int s_thrown, .int s_taped, .ref m1, .int (nI n), .int s_outSize, .ref m2, .int (nI k1), .int (nI v1), .int (nI b1), .int (nI e1), .int 0, .ref m3, .ref m4, .ref m5, .int s_isProgram, .int (nI hf), .ref m6, .ref m7, .ref m8, .ref m9, .ref m10, .ref m11, .ref m12, .ref m13, .ref m14, .ref m15, .ref m16, .ref m17, .ref m18, .ref m19, .ref m20, .int s_signs, .ref m21, .int s_stacked, .ref m22, .int s_name, .int s_shift, .int s_statements, .int s_ifs, .int s_whiles, .int s_variants, .int (nI d1), .ref m23, .int s_isMade, .int s_conditions, .ref m24, .ref m25, .ref m26, .ref m27, .int s_kept, .ref m28, .int s_tops, .ref m29, .int s_used, .ref m30, .ref m31, .int s_looked, .int s_rows, .int s_firstRow, .ref m32, .ref m33, .ref m34, .ref m35, .ref m36, .ref m37, .ref m38, .ref m39, .ref m40, .int s_isBroken, .ref m41, .int s_atoms, .ref m42])), (m1, .inl (ax 0, 400, .inl (fun j => nI (g j))))]) hP hD hS hA [3, 0] (by decide) rfl
            have hz := xz_of hN hS
            refine va_callv (va_runV (As := []) (rest := []) ⟨hx, hb, hml, hown, hts⟩ (c_M_next l D ax m0 m1 m2 m3 m4 m5 m6 m7 m8 m9 m10 m11 m12 m13 m14 m15 m16 m17 m18 m19 m20 m21 m22 m23 m24 m25 m26 m27 m28 m29 m30 m31 m32 m33 m34 m35 m36 m37 m38 m39 m40 m41 m42 s_thrown s_taped s_outSize (nI k1) (nI b1) 0 s_isProgram (nI hf) s_signs s_stacked s_name s_shift s_statements s_ifs s_whiles s_variants (nI d1) s_isMade s_conditions s_kept s_tops s_used s_looked s_rows s_firstRow s_isBroken s_atoms n e1 v1 g H_79.size hn (by first | assumption | omega) hg (by first | assumption | omega)) (xcV (n := 0) hts wd_1278 wd_15 wd_1275 wd_1277 ps_51 rfl rfl (by decide +kernel) ⟨Nat.le_of_ble_eq_true rfl, Nat.le_of_ble_eq_true rfl⟩) (xpV (ci := 11) (q0 := 0) (As := []) hPc hK hz hDc rfl rfl) rfl rfl hl1.1 rfl (lv_room (Nat.le_of_ble_eq_true rfl)) d_Model_behind_105 ⟨Nat.le_of_ble_eq_true rfl, Nat.le_of_ble_eq_true rfl⟩) hS (fun q _ h => hFc q h) hFc (fun u_80 t H_81 locs ht hvm hw hB hz1 hk1 hS1 => ?_)
            try dsimp only at hw
            obtain ⟨-, -, -, hs_86, hs_87, hs_88, hs_89, hs_90, hs_91, hs_92, hs_93⟩ := hw
            obtain ⟨hP1, hD1⟩ := hB
            rw [ht] at hP1
            have hjn := xw_join3 (wl := [(m18, .inl (ax 0, 80, .inl (fun j => nI (sup lk1 (opn (d1 - 1)) (40 * (1 - hf) + it1 (1 - hf)) j)))), (m23, .inl (ax 0, 16, .inl (fun j => nI (sup opn (d1 - 1) (40 * (1 - hf) + it1 (1 - hf)) j)))), (m7, .inl (ax 0, 80, .inl (fun j => nI (sup op1 (40 * (1 - hf) + it1 (1 - hf)) 3 j)))), (m8, .inl (ax 0, 80, .inl (fun j => nI (sup nu1 (40 * (1 - hf) + it1 (1 - hf)) 0 j)))), (m16, .inl (ax 3, 80, .inl (upd vr1 (40 * (1 - hf) + it1 (1 - hf)) 0))), (m6, .inl (ax 0, 2, .inl (fun j => nI (sup it1 (1 - hf) (it1 (1 - hf) + 1) j)))), (m0, .inr (11, [.int s_thrown, .int s_taped, .ref m1, .int (nI n), .int s_outSize, .ref m2, .int (nI (u_80 2)), .int (nI (u_80 3)), .int (nI (u_80 0)), .int (nI (u_80 1)), .int 0, .ref m3, .ref m4, .ref m5, .int s_isProgram, .int (nI hf), .ref m6, .ref m7, .ref m8, .ref m9, .ref m10, .ref m11, .ref m12, .ref m13, .ref m14, .ref m15, .ref m16, .ref m17, .ref m18, .ref m19, .ref m20, .int s_signs, .ref m21, .int s_stacked, .ref m22, .int s_name, .int s_shift, .int s_statements, .int s_ifs, .int s_whiles, .int s_variants, .int (nI d1), .ref m23, .int s_isMade, .int s_conditions, .ref m24, .ref m25, .ref m26, .ref m27, .int s_kept, .ref m28, .int s_tops, .ref m29, .int s_used, .ref m30, .ref m31, .int s_looked, .int s_rows, .int s_firstRow, .ref m32, .ref m33, .ref m34, .ref m35, .ref m36, .ref m37, .ref m38, .ref m39, .ref m40, .int s_isBroken, .ref m41, .int s_atoms, .ref m42])), (m1, .inl (ax 0, 400, .inl (fun j => nI (g j))))]) hP hD [3, 0] [1, 2, 4, 5, 6, 7] hCs (by decide) (by decide) hk1 hFc hP1 hD1 rfl
            clear hP1 hD1
            clear hPc hDc hFc hCs hz hz1 hk1 ht hvm
            clear hP hD hS
            have hS := hS1
            obtain ⟨hP, hD⟩ := hjn
            clear hS1
            refine lv_iconst (v := 1) hx hb d_Model_behind_108 (by decide) ?_
            rw [← hQe]
            obtain ⟨hP9, hD9⟩ := xw_sub2 (wc := (fun (u : Nat → Nat) (xit : Nat → Nat) (xop : Nat → Nat) (xnu : Nat → Nat) (xlk : Nat → Nat) (xopn : Nat → Nat) (xvr : Nat → Int32) => [(m0, .inr (11, [.int s_thrown, .int s_taped, .ref m1, .int (nI n), .int s_outSize, .ref m2, .int (nI (u 2)), .int (nI (u 3)), .int (nI (u 0)), .int (nI (u 1)), .int (nI (u 4)), .ref m3, .ref m4, .ref m5, .int s_isProgram, .int (nI hf), .ref m6, .ref m7, .ref m8, .ref m9, .ref m10, .ref m11, .ref m12, .ref m13, .ref m14, .ref m15, .ref m16, .ref m17, .ref m18, .ref m19, .ref m20, .int s_signs, .ref m21, .int s_stacked, .ref m22, .int s_name, .int s_shift, .int s_statements, .int s_ifs, .int s_whiles, .int s_variants, .int (nI (u 5)), .ref m23, .int s_isMade, .int s_conditions, .ref m24, .ref m25, .ref m26, .ref m27, .int s_kept, .ref m28, .int s_tops, .ref m29, .int s_used, .ref m30, .ref m31, .int s_looked, .int s_rows, .int s_firstRow, .ref m32, .ref m33, .ref m34, .ref m35, .ref m36, .ref m37, .ref m38, .ref m39, .ref m40, .int s_isBroken, .ref m41, .int s_atoms, .ref m42])), (m1, .inl (ax 0, 400, .inl (fun j => nI (g j)))), (m6, .inl (ax 0, 2, .inl (fun j => nI (xit j)))), (m7, .inl (ax 0, 80, .inl (fun j => nI (xop j)))), (m8, .inl (ax 0, 80, .inl (fun j => nI (xnu j)))), (m16, .inl (ax 3, 80, .inl xvr)), (m18, .inl (ax 0, 80, .inl (fun j => nI (xlk j)))), (m23, .inl (ax 0, 16, .inl (fun j => nI (xopn j))))]) (ixn [(u_80 0), (u_80 1), (u_80 2), (u_80 3), 0, d1, 1]) (sup it1 (1 - hf) (it1 (1 - hf) + 1)) (sup op1 (40 * (1 - hf) + it1 (1 - hf)) 3) (sup nu1 (40 * (1 - hf) + it1 (1 - hf)) 0) (sup lk1 (opn (d1 - 1)) (40 * (1 - hf) + it1 (1 - hf))) (sup opn (d1 - 1) (40 * (1 - hf) + it1 (1 - hf))) (upd vr1 (40 * (1 - hf) + it1 (1 - hf)) 0)) hP hD [6, 7, 5, 2, 3, 4, 0, 1] (by decide) rfl
            have hex0 : frb (1 - hf) op (sup op1 (40 * (1 - hf) + it1 (1 - hf)) 3) := (by first | assumption | exact q1.sup (by first | assumption | omega) (by first | assumption | omega))
            have hex1 : frb (1 - hf) lk (sup lk1 (opn (d1 - 1)) (40 * (1 - hf) + it1 (1 - hf))) := (by first | assumption | exact q2.sup (by first | assumption | omega) (by first | assumption | omega))
            have hex2 : frb (1 - hf) vr (upd vr1 (40 * (1 - hf) + it1 (1 - hf)) 0) := (by first | assumption | exact q3.upd (by first | assumption | omega) (by first | assumption | omega))
            have hex3 : fr1 (1 - hf) it (sup it1 (1 - hf) (it1 (1 - hf) + 1)) := (by first | assumption | exact q4.sup)
            have hex4 : imp0 (0) ((pgm (1 - hf) ((sup it1 (1 - hf) (it1 (1 - hf) + 1)) (1 - hf)) (d1) sn fn wn PP (sup op1 (40 * (1 - hf) + it1 (1 - hf)) 3) (sup lk1 (opn (d1 - 1)) (40 * (1 - hf) + it1 (1 - hf))) fi fs se ss tg gs (sup opn (d1 - 1) (40 * (1 - hf) + it1 (1 - hf))) tn (upd vr1 (40 * (1 - hf) + it1 (1 - hf)) 0) pl ∧ (1 = 1 ∨ d1 = 0))) := (Or.inr ⟨by rw [sup_eq]; exact pgm_else hpg1 (by first | assumption | omega) (by first | assumption | omega), Or.inl rfl⟩)
            have hex5 : imp1 (0) (pgY g n b (oki op nu tg gs fi fs se ss tn tm vr pl opn on) sn fn wn (itl op nu tg gs lk fi fs se ss tn tm vr pl (40 * (1 - hf)) (it (1 - hf))) ((u_80 0))) := (Or.inl rfl)
            have hex6 : imp0 (0) (pgV g n b (oki op nu tg gs fi fs se ss tn tm vr pl opn on) sn fn wn (itl op nu tg gs lk fi fs se ss tn tm vr pl (40 * (1 - hf)) (it (1 - hf))) (1) ((u_80 0)) (oki (sup op1 (40 * (1 - hf) + it1 (1 - hf)) 3) (sup nu1 (40 * (1 - hf) + it1 (1 - hf)) 0) tg gs fi fs se ss tn tm (upd vr1 (40 * (1 - hf) + it1 (1 - hf)) 0) pl (sup opn (d1 - 1) (40 * (1 - hf) + it1 (1 - hf))) (d1)) (itl (sup op1 (40 * (1 - hf) + it1 (1 - hf)) 3) (sup nu1 (40 * (1 - hf) + it1 (1 - hf)) 0) tg gs (sup lk1 (opn (d1 - 1)) (40 * (1 - hf) + it1 (1 - hf))) fi fs se ss tn tm (upd vr1 (40 * (1 - hf) + it1 (1 - hf)) 0) pl (40 * (1 - hf)) ((sup it1 (1 - hf) (it1 (1 - hf) + 1)) (1 - hf)))) := (Or.inr (bhe hpg1 hB g7 (by first | assumption | omega) (by first | assumption | omega) (by first | assumption | omega) sup_eq ⟨fr1.rf.sup, fr1.rf.sup, fr1.rf, fr1.rf, (fun j h6 hj => sup_ne (fun e9 => by rw [e9] at h6; omega)), fr1.rf, fr1.rf, fr1.rf, fr1.rf, fr1.rf, fr1.rf, fr1.rf.upd, frp.rf⟩ sup_eq hs_86))
            have hex7 : imp0 (0) (vct (itl (sup op1 (40 * (1 - hf) + it1 (1 - hf)) 3) (sup nu1 (40 * (1 - hf) + it1 (1 - hf)) 0) tg gs (sup lk1 (opn (d1 - 1)) (40 * (1 - hf) + it1 (1 - hf))) fi fs se ss tn tm (upd vr1 (40 * (1 - hf) + it1 (1 - hf)) 0) pl (40 * (1 - hf)) ((sup it1 (1 - hf) (it1 (1 - hf) + 1)) (1 - hf))) = vct (itl op nu tg gs lk fi fs se ss tn tm vr pl (40 * (1 - hf)) (it (1 - hf)))) := (Or.inr (vct_c hpg1 (by first | assumption | omega) (by rw [sup_eq]; omega) ⟨fr1.rf.sup, fr1.rf.sup, fr1.rf, fr1.rf, (fun j h6 hj => sup_ne (fun e9 => by rw [e9] at h6; omega)), fr1.rf, fr1.rf, fr1.rf, fr1.rf, fr1.rf, fr1.rf, fr1.rf.upd, frp.rf⟩ sup_eq (fun q9 => absurd (sup_eq.symm.trans q9) (by decide)) hW))
            have hex8 : frb (1 - hf) nu (sup nu1 (40 * (1 - hf) + it1 (1 - hf)) 0) := (by first | assumption | exact q5.sup (by first | assumption | omega) (by first | assumption | omega))
            have hsp0 : b ≤ (u_80 0) := (by first | assumption | omega)
            have hsp1 : (u_80 0) ≤ (u_80 1) := (by first | assumption | omega)
            have hsp2 : (u_80 1) ≤ n := (by first | assumption | omega)
            have hsp3 : tk0 ((u_80 2)) ((u_80 0)) ((u_80 1)) := (by assumption)
            have hsp4 : (u_80 2) < 10000 := (by first | assumption | omega)
            have hsp5 : (u_80 3) < 20000 := (by first | assumption | omega)
            have hsp6 : tkq g n ((u_80 0)) ((u_80 1)) ((u_80 2)) ((u_80 3)) := (by assumption)
            have hsp7 : 0 ≤ 1 := (by first | assumption | omega)
            have hsp8 : 1 ≤ 1 := (by first | assumption | omega)
            exact W.zret (v := 1) hx hb hr rfl (fun t ht hW => ⟨⟨1, ixn [(u_80 0), (u_80 1), (u_80 2), (u_80 3), 0, d1, 1], rfl, ⟨rfl, ⟨hsp0, hsp1, hsp2, hsp3, hsp4, hsp5, hsp6, hsp7, hsp8⟩⟩, ⟨sup it1 (1 - hf) (it1 (1 - hf) + 1), sup op1 (40 * (1 - hf) + it1 (1 - hf)) 3, sup nu1 (40 * (1 - hf) + it1 (1 - hf)) 0, sup lk1 (opn (d1 - 1)) (40 * (1 - hf) + it1 (1 - hf)), sup opn (d1 - 1) (40 * (1 - hf) + it1 (1 - hf)), (upd vr1 (40 * (1 - hf) + it1 (1 - hf)) 0), hex0, hex1, hex2, hex3, hex4, hex5, hex6, hex7, hex8, by rw [ht]; exact hP9, hD9⟩⟩, hS.F ht⟩) hS.2.2 d_Model_behind_109
      · replace c_10 : d1 = 0 := (nI_eq (a := d1) (b := 0) (by first | exact Nat.lt_of_lt_of_le (by assumption) (by decide) | exact Nat.lt_of_le_of_lt (by assumption) (by decide) | omega) (by decide)).mp c_10
        refine lv_aload_n hx hb d_Model_behind_29 rfl (lv_at hl1 0 rfl) ?_
        refine lv_aload_n hx hb d_Model_behind_30 rfl (lv_at hl1 0 rfl) ?_
        refine va_get (D := D) (ci := 11) (v := .int (nI k1)) (C := R_Model) (T := F_Model) (N := 72) hx hb hts i_Model hown hK.1 hP 7 rfl rfl 6 (by decide) (hts _ wd_1042) (fun _ h9 => h9) rfl d_Model_behind_31 ?_
        refine lv_if_eq (tgt := 41) hx hb d_Model_behind_34 (by decide) (fun c_94 => ?_) (fun c_94 => ?_)
        · replace c_94 : k1 = 0 := (nI_eq (a := k1) (b := 0) (by first | exact Nat.lt_of_lt_of_le (by assumption) (by decide) | exact Nat.lt_of_le_of_lt (by assumption) (by decide) | omega) (by decide)).mp c_94
          refine lv_iconst (v := 0) hx hb d_Model_behind_41 (by decide) ?_
          refine va_put (D := D) (ci := 11) (v := .int 0) (ty := .boolean) (C := R_Model) (T := F_Model) (N := 72) hx hb hts i_Model t_Model t_Model_ok n_Model hown hK.1 hP hD hS 7 rfl rfl 10 (by decide) (hts _ wd_1046) (fun _ h9 => h9) rfl (by decide +kernel) rfl rfl (Nat.le_of_ble_eq_true rfl) d_Model_behind_42 (fun H_95 locs hP1 hD1 hS1 => ?_)
          clear hP hD hS
          have hS := hS1
          have hW7 : (fun w9 : va_W => va_P D classes w9 H_95 ∧ va_D A w9) [(m1, .inl (ax 0, 400, .inl (fun j => nI (g j)))), (m6, .inl (ax 0, 2, .inl (fun j => nI (it1 j)))), (m7, .inl (ax 0, 80, .inl (fun j => nI (op1 j)))), (m8, .inl (ax 0, 80, .inl (fun j => nI (nu1 j)))), (m16, .inl (ax 3, 80, .inl vr1)), (m18, .inl (ax 0, 80, .inl (fun j => nI (lk1 j)))), (m23, .inl (ax 0, 16, .inl (fun j => nI (opn j)))), (m0, .inr (11, [.int s_thrown, .int s_taped, .ref m1, .int (nI n), .int s_outSize, .ref m2, .int (nI k1), .int (nI v1), .int (nI b1), .int (nI e1), .int 0, .ref m3, .ref m4, .ref m5, .int s_isProgram, .int (nI hf), .ref m6, .ref m7, .ref m8, .ref m9, .ref m10, .ref m11, .ref m12, .ref m13, .ref m14, .ref m15, .ref m16, .ref m17, .ref m18, .ref m19, .ref m20, .int s_signs, .ref m21, .int s_stacked, .ref m22, .int s_name, .int s_shift, .int s_statements, .int s_ifs, .int s_whiles, .int s_variants, .int (nI d1), .ref m23, .int s_isMade, .int s_conditions, .ref m24, .ref m25, .ref m26, .ref m27, .int s_kept, .ref m28, .int s_tops, .ref m29, .int s_used, .ref m30, .ref m31, .int s_looked, .int s_rows, .int s_firstRow, .ref m32, .ref m33, .ref m34, .ref m35, .ref m36, .ref m37, .ref m38, .ref m39, .ref m40, .int s_isBroken, .ref m41, .int s_atoms, .ref m42]))] := ⟨hP1, hD1⟩
          obtain ⟨hP, hD⟩ := hW7
          clear hP1 hD1 hS1
          refine lv_iconst (v := 0) hx hb d_Model_behind_45 (by decide) ?_
          rw [← hQe]
          obtain ⟨hP9, hD9⟩ := xw_sub2 (wc := (fun (u : Nat → Nat) (xit : Nat → Nat) (xop : Nat → Nat) (xnu : Nat → Nat) (xlk : Nat → Nat) (xopn : Nat → Nat) (xvr : Nat → Int32) => [(m0, .inr (11, [.int s_thrown, .int s_taped, .ref m1, .int (nI n), .int s_outSize, .ref m2, .int (nI (u 2)), .int (nI (u 3)), .int (nI (u 0)), .int (nI (u 1)), .int (nI (u 4)), .ref m3, .ref m4, .ref m5, .int s_isProgram, .int (nI hf), .ref m6, .ref m7, .ref m8, .ref m9, .ref m10, .ref m11, .ref m12, .ref m13, .ref m14, .ref m15, .ref m16, .ref m17, .ref m18, .ref m19, .ref m20, .int s_signs, .ref m21, .int s_stacked, .ref m22, .int s_name, .int s_shift, .int s_statements, .int s_ifs, .int s_whiles, .int s_variants, .int (nI (u 5)), .ref m23, .int s_isMade, .int s_conditions, .ref m24, .ref m25, .ref m26, .ref m27, .int s_kept, .ref m28, .int s_tops, .ref m29, .int s_used, .ref m30, .ref m31, .int s_looked, .int s_rows, .int s_firstRow, .ref m32, .ref m33, .ref m34, .ref m35, .ref m36, .ref m37, .ref m38, .ref m39, .ref m40, .int s_isBroken, .ref m41, .int s_atoms, .ref m42])), (m1, .inl (ax 0, 400, .inl (fun j => nI (g j)))), (m6, .inl (ax 0, 2, .inl (fun j => nI (xit j)))), (m7, .inl (ax 0, 80, .inl (fun j => nI (xop j)))), (m8, .inl (ax 0, 80, .inl (fun j => nI (xnu j)))), (m16, .inl (ax 3, 80, .inl xvr)), (m18, .inl (ax 0, 80, .inl (fun j => nI (xlk j)))), (m23, .inl (ax 0, 16, .inl (fun j => nI (xopn j))))]) (ixn [b1, e1, k1, v1, 0, d1, 0]) it1 op1 nu1 lk1 opn vr1) hP hD [7, 0, 1, 2, 3, 4, 5, 6] (by decide) rfl
          have hex0 : frb (1 - hf) op op1 := (by first | assumption | exact q1.sup (by first | assumption | omega) (by first | assumption | omega))
          have hex1 : frb (1 - hf) lk lk1 := (by first | assumption | exact q2.sup (by first | assumption | omega) (by first | assumption | omega))
          have hex2 : frb (1 - hf) vr vr1 := (by first | assumption | exact q3.upd (by first | assumption | omega) (by first | assumption | omega))
          have hex3 : fr1 (1 - hf) it it1 := (by first | assumption | exact q4.sup)
          have hex4 : imp0 (0) ((pgm (1 - hf) (it1 (1 - hf)) (d1) sn fn wn PP op1 lk1 fi fs se ss tg gs opn tn vr1 pl ∧ (0 = 1 ∨ d1 = 0))) := (Or.inr ⟨hpg1, by omega⟩)
          have hex5 : imp1 (0) (pgY g n b (oki op nu tg gs fi fs se ss tn tm vr pl opn on) sn fn wn (itl op nu tg gs lk fi fs se ss tn tm vr pl (40 * (1 - hf)) (it (1 - hf))) (b1)) := (Or.inl rfl)
          have hex6 : imp0 (0) (pgV g n b (oki op nu tg gs fi fs se ss tn tm vr pl opn on) sn fn wn (itl op nu tg gs lk fi fs se ss tn tm vr pl (40 * (1 - hf)) (it (1 - hf))) (0) (b1) (oki op1 nu1 tg gs fi fs se ss tn tm vr1 pl opn (d1)) (itl op1 nu1 tg gs lk1 fi fs se ss tn tm vr1 pl (40 * (1 - hf)) (it1 (1 - hf)))) := (Or.inr (bh_0 hB g7 (oki_z (by first | assumption | omega)) (by first | assumption | omega)))
          have hex7 : imp0 (0) (vct (itl op1 nu1 tg gs lk1 fi fs se ss tn tm vr1 pl (40 * (1 - hf)) (it1 (1 - hf))) = vct (itl op nu tg gs lk fi fs se ss tn tm vr pl (40 * (1 - hf)) (it (1 - hf)))) := (Or.inr hW)
          have hex8 : frb (1 - hf) nu nu1 := (by first | assumption | exact q5.sup (by first | assumption | omega) (by first | assumption | omega))
          have hsp0 : b ≤ b1 := (by first | assumption | omega)
          have hsp1 : b1 ≤ e1 := (by first | assumption | omega)
          have hsp2 : e1 ≤ n := (by first | assumption | omega)
          have hsp3 : tk0 (k1) (b1) (e1) := (by assumption)
          have hsp4 : k1 < 10000 := (by first | assumption | omega)
          have hsp5 : v1 < 20000 := (by first | assumption | omega)
          have hsp6 : tkq g n (b1) (e1) (k1) (v1) := (by assumption)
          have hsp7 : 0 ≤ 1 := (by first | assumption | omega)
          have hsp8 : 0 ≤ 1 := (by first | assumption | omega)
          exact W.zret (v := 0) hx hb hr rfl (fun t ht hW => ⟨⟨0, ixn [b1, e1, k1, v1, 0, d1, 0], rfl, ⟨rfl, ⟨hsp0, hsp1, hsp2, hsp3, hsp4, hsp5, hsp6, hsp7, hsp8⟩⟩, ⟨it1, op1, nu1, lk1, opn, vr1, hex0, hex1, hex2, hex3, hex4, hex5, hex6, hex7, hex8, by rw [ht]; exact hP9, hD9⟩⟩, hS.F ht⟩) hS.2.2 d_Model_behind_46
        · replace c_94 : ¬ k1 = 0 := fun hq9 => c_94 ((nI_eq (a := k1) (b := 0) (by first | exact Nat.lt_of_lt_of_le (by assumption) (by decide) | exact Nat.lt_of_le_of_lt (by assumption) (by decide) | omega) (by decide)).mpr hq9)
          refine lv_iconst (v := 1) hx hb d_Model_behind_37 (by decide) ?_
          refine lv_goto (tgt := 42) hx hb d_Model_behind_38 (by decide) ?_
          refine va_put (D := D) (ci := 11) (v := .int 1) (ty := .boolean) (C := R_Model) (T := F_Model) (N := 72) hx hb hts i_Model t_Model t_Model_ok n_Model hown hK.1 hP hD hS 7 rfl rfl 10 (by decide) (hts _ wd_1046) (fun _ h9 => h9) rfl (by decide +kernel) rfl rfl (Nat.le_of_ble_eq_true rfl) d_Model_behind_42 (fun H_96 locs hP1 hD1 hS1 => ?_)
          clear hP hD hS
          have hS := hS1
          have hW7 : (fun w9 : va_W => va_P D classes w9 H_96 ∧ va_D A w9) [(m1, .inl (ax 0, 400, .inl (fun j => nI (g j)))), (m6, .inl (ax 0, 2, .inl (fun j => nI (it1 j)))), (m7, .inl (ax 0, 80, .inl (fun j => nI (op1 j)))), (m8, .inl (ax 0, 80, .inl (fun j => nI (nu1 j)))), (m16, .inl (ax 3, 80, .inl vr1)), (m18, .inl (ax 0, 80, .inl (fun j => nI (lk1 j)))), (m23, .inl (ax 0, 16, .inl (fun j => nI (opn j)))), (m0, .inr (11, [.int s_thrown, .int s_taped, .ref m1, .int (nI n), .int s_outSize, .ref m2, .int (nI k1), .int (nI v1), .int (nI b1), .int (nI e1), .int 1, .ref m3, .ref m4, .ref m5, .int s_isProgram, .int (nI hf), .ref m6, .ref m7, .ref m8, .ref m9, .ref m10, .ref m11, .ref m12, .ref m13, .ref m14, .ref m15, .ref m16, .ref m17, .ref m18, .ref m19, .ref m20, .int s_signs, .ref m21, .int s_stacked, .ref m22, .int s_name, .int s_shift, .int s_statements, .int s_ifs, .int s_whiles, .int s_variants, .int (nI d1), .ref m23, .int s_isMade, .int s_conditions, .ref m24, .ref m25, .ref m26, .ref m27, .int s_kept, .ref m28, .int s_tops, .ref m29, .int s_used, .ref m30, .ref m31, .int s_looked, .int s_rows, .int s_firstRow, .ref m32, .ref m33, .ref m34, .ref m35, .ref m36, .ref m37, .ref m38, .ref m39, .ref m40, .int s_isBroken, .ref m41, .int s_atoms, .ref m42]))] := ⟨hP1, hD1⟩
          obtain ⟨hP, hD⟩ := hW7
          clear hP1 hD1 hS1
          refine lv_iconst (v := 0) hx hb d_Model_behind_45 (by decide) ?_
          rw [← hQe]
          obtain ⟨hP9, hD9⟩ := xw_sub2 (wc := (fun (u : Nat → Nat) (xit : Nat → Nat) (xop : Nat → Nat) (xnu : Nat → Nat) (xlk : Nat → Nat) (xopn : Nat → Nat) (xvr : Nat → Int32) => [(m0, .inr (11, [.int s_thrown, .int s_taped, .ref m1, .int (nI n), .int s_outSize, .ref m2, .int (nI (u 2)), .int (nI (u 3)), .int (nI (u 0)), .int (nI (u 1)), .int (nI (u 4)), .ref m3, .ref m4, .ref m5, .int s_isProgram, .int (nI hf), .ref m6, .ref m7, .ref m8, .ref m9, .ref m10, .ref m11, .ref m12, .ref m13, .ref m14, .ref m15, .ref m16, .ref m17, .ref m18, .ref m19, .ref m20, .int s_signs, .ref m21, .int s_stacked, .ref m22, .int s_name, .int s_shift, .int s_statements, .int s_ifs, .int s_whiles, .int s_variants, .int (nI (u 5)), .ref m23, .int s_isMade, .int s_conditions, .ref m24, .ref m25, .ref m26, .ref m27, .int s_kept, .ref m28, .int s_tops, .ref m29, .int s_used, .ref m30, .ref m31, .int s_looked, .int s_rows, .int s_firstRow, .ref m32, .ref m33, .ref m34, .ref m35, .ref m36, .ref m37, .ref m38, .ref m39, .ref m40, .int s_isBroken, .ref m41, .int s_atoms, .ref m42])), (m1, .inl (ax 0, 400, .inl (fun j => nI (g j)))), (m6, .inl (ax 0, 2, .inl (fun j => nI (xit j)))), (m7, .inl (ax 0, 80, .inl (fun j => nI (xop j)))), (m8, .inl (ax 0, 80, .inl (fun j => nI (xnu j)))), (m16, .inl (ax 3, 80, .inl xvr)), (m18, .inl (ax 0, 80, .inl (fun j => nI (xlk j)))), (m23, .inl (ax 0, 16, .inl (fun j => nI (xopn j))))]) (ixn [b1, e1, k1, v1, 1, d1, 0]) it1 op1 nu1 lk1 opn vr1) hP hD [7, 0, 1, 2, 3, 4, 5, 6] (by decide) rfl
          have hex0 : frb (1 - hf) op op1 := (by first | assumption | exact q1.sup (by first | assumption | omega) (by first | assumption | omega))
          have hex1 : frb (1 - hf) lk lk1 := (by first | assumption | exact q2.sup (by first | assumption | omega) (by first | assumption | omega))
          have hex2 : frb (1 - hf) vr vr1 := (by first | assumption | exact q3.upd (by first | assumption | omega) (by first | assumption | omega))
          have hex3 : fr1 (1 - hf) it it1 := (by first | assumption | exact q4.sup)
          have hex4 : imp0 (1) ((pgm (1 - hf) (it1 (1 - hf)) (d1) sn fn wn PP op1 lk1 fi fs se ss tg gs opn tn vr1 pl ∧ (0 = 1 ∨ d1 = 0))) := (Or.inl rfl)
          have hex5 : imp1 (1) (pgY g n b (oki op nu tg gs fi fs se ss tn tm vr pl opn on) sn fn wn (itl op nu tg gs lk fi fs se ss tn tm vr pl (40 * (1 - hf)) (it (1 - hf))) (b1)) := (Or.inr (bh_x0 hB g7 (oki_z (by first | assumption | omega)) (by first | assumption | omega) (by first | assumption | omega)))
          have hex6 : imp0 (1) (pgV g n b (oki op nu tg gs fi fs se ss tn tm vr pl opn on) sn fn wn (itl op nu tg gs lk fi fs se ss tn tm vr pl (40 * (1 - hf)) (it (1 - hf))) (0) (b1) (oki op1 nu1 tg gs fi fs se ss tn tm vr1 pl opn (d1)) (itl op1 nu1 tg gs lk1 fi fs se ss tn tm vr1 pl (40 * (1 - hf)) (it1 (1 - hf)))) := (Or.inl rfl)
          have hex7 : imp0 (1) (vct (itl op1 nu1 tg gs lk1 fi fs se ss tn tm vr1 pl (40 * (1 - hf)) (it1 (1 - hf))) = vct (itl op nu tg gs lk fi fs se ss tn tm vr pl (40 * (1 - hf)) (it (1 - hf)))) := (Or.inl rfl)
          have hex8 : frb (1 - hf) nu nu1 := (by first | assumption | exact q5.sup (by first | assumption | omega) (by first | assumption | omega))
          have hsp0 : b ≤ b1 := (by first | assumption | omega)
          have hsp1 : b1 ≤ e1 := (by first | assumption | omega)
          have hsp2 : e1 ≤ n := (by first | assumption | omega)
          have hsp3 : tk0 (k1) (b1) (e1) := (by assumption)
          have hsp4 : k1 < 10000 := (by first | assumption | omega)
          have hsp5 : v1 < 20000 := (by first | assumption | omega)
          have hsp6 : tkq g n (b1) (e1) (k1) (v1) := (by assumption)
          have hsp7 : 1 ≤ 1 := (by first | assumption | omega)
          have hsp8 : 0 ≤ 1 := (by first | assumption | omega)
          exact W.zret (v := 0) hx hb hr rfl (fun t ht hW => ⟨⟨0, ixn [b1, e1, k1, v1, 1, d1, 0], rfl, ⟨rfl, ⟨hsp0, hsp1, hsp2, hsp3, hsp4, hsp5, hsp6, hsp7, hsp8⟩⟩, ⟨it1, op1, nu1, lk1, opn, vr1, hex0, hex1, hex2, hex3, hex4, hex5, hex6, hex7, hex8, by rw [ht]; exact hP9, hD9⟩⟩, hS.F ht⟩) hS.2.2 d_Model_behind_46
    · replace c_9 : (k1 = 200 + 59) := zb_y c_9
      have hlt_97 : b1 < e1 := tk0.lt (by assumption) (by first | assumption | omega)
      refine lv_aload_n hx hb d_Model_behind_16 rfl (lv_at hl1 0 rfl) ?_
      obtain ⟨hPc, hDc, hFc, hCs⟩ := xw_sub3 (wc := [(m0, .inr (11, [.int s_thrown, .int s_taped, .ref m1, .int (nI n), .int s_outSize, .ref m2, .int (nI k1), .int (nI v1), .int (nI b1), .int (nI e1), .int 0, .ref m3, .ref m4, .ref m5, .int s_isProgram, .int (nI hf), .ref m6, .ref m7, .ref m8, .ref m9, .ref m10, .ref m11, .ref m12, .ref m13, .ref m14, .ref m15, .ref m16, .ref m17, .ref m18, .ref m19, .ref m20, .int s_signs, .ref m21, .int s_stacked, .ref m22, .int s_name, .int s_shift, .int s_statements, .int s_ifs, .int s_whiles, .int s_variants, .int (nI d1), .ref m23, .int s_isMade, .int s_conditions, .ref m24, .ref m25, .ref m26, .ref m27, .int s_kept, .ref m28, .int s_tops, .ref m29, .int s_used, .ref m30, .ref m31, .int s_looked, .int s_rows, .int s_firstRow, .ref m32, .ref m33, .ref m34, .ref m35, .ref m36, .ref m37, .ref m38, .ref m39, .ref m40, .int s_isBroken, .ref m41, .int s_atoms, .ref m42])), (m1, .inl (ax 0, 400, .inl (fun j => nI (g j))))]) hP hD hS hA [7, 0] (by decide) rfl
      have hz := xz_of hN hS
      refine va_callv (va_runV (As := []) (rest := []) ⟨hx, hb, hml, hown, hts⟩ (c_M_next l D ax m0 m1 m2 m3 m4 m5 m6 m7 m8 m9 m10 m11 m12 m13 m14 m15 m16 m17 m18 m19 m20 m21 m22 m23 m24 m25 m26 m27 m28 m29 m30 m31 m32 m33 m34 m35 m36 m37 m38 m39 m40 m41 m42 s_thrown s_taped s_outSize (nI k1) (nI b1) 0 s_isProgram (nI hf) s_signs s_stacked s_name s_shift s_statements s_ifs s_whiles s_variants (nI d1) s_isMade s_conditions s_kept s_tops s_used s_looked s_rows s_firstRow s_isBroken s_atoms n e1 v1 g H_7.size hn (by first | assumption | omega) hg (by first | assumption | omega)) (xcV (n := 0) hts wd_1278 wd_15 wd_1275 wd_1277 ps_51 rfl rfl (by decide +kernel) ⟨Nat.le_of_ble_eq_true rfl, Nat.le_of_ble_eq_true rfl⟩) (xpV (ci := 11) (q0 := 0) (As := []) hPc hK hz hDc rfl rfl) rfl rfl hl1.1 rfl (lv_room (Nat.le_of_ble_eq_true rfl)) d_Model_behind_17 ⟨Nat.le_of_ble_eq_true rfl, Nat.le_of_ble_eq_true rfl⟩) hS (fun q _ h => hFc q h) hFc (fun u_98 t H_99 locs ht hvm hw hB hz1 hk1 hS1 => ?_)
      try dsimp only at hw
      obtain ⟨-, -, -, hs_104, hs_105, hs_106, hs_107, hs_108, hs_109, hs_110, hs_111⟩ := hw
      obtain ⟨hP1, hD1⟩ := hB
      rw [ht] at hP1
      have hjn := xw_join3 (wl := [(m6, .inl (ax 0, 2, .inl (fun j => nI (it1 j)))), (m7, .inl (ax 0, 80, .inl (fun j => nI (op1 j)))), (m8, .inl (ax 0, 80, .inl (fun j => nI (nu1 j)))), (m16, .inl (ax 3, 80, .inl vr1)), (m18, .inl (ax 0, 80, .inl (fun j => nI (lk1 j)))), (m23, .inl (ax 0, 16, .inl (fun j => nI (opn j)))), (m0, .inr (11, [.int s_thrown, .int s_taped, .ref m1, .int (nI n), .int s_outSize, .ref m2, .int (nI (u_98 2)), .int (nI (u_98 3)), .int (nI (u_98 0)), .int (nI (u_98 1)), .int 0, .ref m3, .ref m4, .ref m5, .int s_isProgram, .int (nI hf), .ref m6, .ref m7, .ref m8, .ref m9, .ref m10, .ref m11, .ref m12, .ref m13, .ref m14, .ref m15, .ref m16, .ref m17, .ref m18, .ref m19, .ref m20, .int s_signs, .ref m21, .int s_stacked, .ref m22, .int s_name, .int s_shift, .int s_statements, .int s_ifs, .int s_whiles, .int s_variants, .int (nI d1), .ref m23, .int s_isMade, .int s_conditions, .ref m24, .ref m25, .ref m26, .ref m27, .int s_kept, .ref m28, .int s_tops, .ref m29, .int s_used, .ref m30, .ref m31, .int s_looked, .int s_rows, .int s_firstRow, .ref m32, .ref m33, .ref m34, .ref m35, .ref m36, .ref m37, .ref m38, .ref m39, .ref m40, .int s_isBroken, .ref m41, .int s_atoms, .ref m42])), (m1, .inl (ax 0, 400, .inl (fun j => nI (g j))))]) hP hD [7, 0] [1, 2, 3, 4, 5, 6] hCs (by decide) (by decide) hk1 hFc hP1 hD1 rfl
      clear hP1 hD1
      clear hPc hDc hFc hCs hz hz1 hk1 ht hvm
      clear hP hD hS
      have hS := hS1
      obtain ⟨hP, hD⟩ := hjn
      clear hS1
      refine lv_iconst (v := 1) hx hb d_Model_behind_20 (by decide) ?_
      rw [← hQe]
      obtain ⟨hP9, hD9⟩ := xw_sub2 (wc := (fun (u : Nat → Nat) (xit : Nat → Nat) (xop : Nat → Nat) (xnu : Nat → Nat) (xlk : Nat → Nat) (xopn : Nat → Nat) (xvr : Nat → Int32) => [(m0, .inr (11, [.int s_thrown, .int s_taped, .ref m1, .int (nI n), .int s_outSize, .ref m2, .int (nI (u 2)), .int (nI (u 3)), .int (nI (u 0)), .int (nI (u 1)), .int (nI (u 4)), .ref m3, .ref m4, .ref m5, .int s_isProgram, .int (nI hf), .ref m6, .ref m7, .ref m8, .ref m9, .ref m10, .ref m11, .ref m12, .ref m13, .ref m14, .ref m15, .ref m16, .ref m17, .ref m18, .ref m19, .ref m20, .int s_signs, .ref m21, .int s_stacked, .ref m22, .int s_name, .int s_shift, .int s_statements, .int s_ifs, .int s_whiles, .int s_variants, .int (nI (u 5)), .ref m23, .int s_isMade, .int s_conditions, .ref m24, .ref m25, .ref m26, .ref m27, .int s_kept, .ref m28, .int s_tops, .ref m29, .int s_used, .ref m30, .ref m31, .int s_looked, .int s_rows, .int s_firstRow, .ref m32, .ref m33, .ref m34, .ref m35, .ref m36, .ref m37, .ref m38, .ref m39, .ref m40, .int s_isBroken, .ref m41, .int s_atoms, .ref m42])), (m1, .inl (ax 0, 400, .inl (fun j => nI (g j)))), (m6, .inl (ax 0, 2, .inl (fun j => nI (xit j)))), (m7, .inl (ax 0, 80, .inl (fun j => nI (xop j)))), (m8, .inl (ax 0, 80, .inl (fun j => nI (xnu j)))), (m16, .inl (ax 3, 80, .inl xvr)), (m18, .inl (ax 0, 80, .inl (fun j => nI (xlk j)))), (m23, .inl (ax 0, 16, .inl (fun j => nI (xopn j))))]) (ixn [(u_98 0), (u_98 1), (u_98 2), (u_98 3), 0, d1, 1]) it1 op1 nu1 lk1 opn vr1) hP hD [6, 7, 0, 1, 2, 3, 4, 5] (by decide) rfl
      have hex0 : frb (1 - hf) op op1 := (by first | assumption | exact q1.sup (by first | assumption | omega) (by first | assumption | omega))
      have hex1 : frb (1 - hf) lk lk1 := (by first | assumption | exact q2.sup (by first | assumption | omega) (by first | assumption | omega))
      have hex2 : frb (1 - hf) vr vr1 := (by first | assumption | exact q3.upd (by first | assumption | omega) (by first | assumption | omega))
      have hex3 : fr1 (1 - hf) it it1 := (by first | assumption | exact q4.sup)
      have hex4 : imp0 (0) ((pgm (1 - hf) (it1 (1 - hf)) (d1) sn fn wn PP op1 lk1 fi fs se ss tg gs opn tn vr1 pl ∧ (1 = 1 ∨ d1 = 0))) := (Or.inr ⟨hpg1, by omega⟩)
      have hex5 : imp1 (0) (pgY g n b (oki op nu tg gs fi fs se ss tn tm vr pl opn on) sn fn wn (itl op nu tg gs lk fi fs se ss tn tm vr pl (40 * (1 - hf)) (it (1 - hf))) ((u_98 0))) := (Or.inl rfl)
      have hex6 : imp0 (0) (pgV g n b (oki op nu tg gs fi fs se ss tn tm vr pl opn on) sn fn wn (itl op nu tg gs lk fi fs se ss tn tm vr pl (40 * (1 - hf)) (it (1 - hf))) (1) ((u_98 0)) (oki op1 nu1 tg gs fi fs se ss tn tm vr1 pl opn (d1)) (itl op1 nu1 tg gs lk1 fi fs se ss tn tm vr1 pl (40 * (1 - hf)) (it1 (1 - hf)))) := (Or.inr (bh_sm hB g7 (by first | assumption | omega) hs_104))
      have hex7 : imp0 (0) (vct (itl op1 nu1 tg gs lk1 fi fs se ss tn tm vr1 pl (40 * (1 - hf)) (it1 (1 - hf))) = vct (itl op nu tg gs lk fi fs se ss tn tm vr pl (40 * (1 - hf)) (it (1 - hf)))) := (Or.inr hW)
      have hex8 : frb (1 - hf) nu nu1 := (by first | assumption | exact q5.sup (by first | assumption | omega) (by first | assumption | omega))
      have hsp0 : b ≤ (u_98 0) := (by first | assumption | omega)
      have hsp1 : (u_98 0) ≤ (u_98 1) := (by first | assumption | omega)
      have hsp2 : (u_98 1) ≤ n := (by first | assumption | omega)
      have hsp3 : tk0 ((u_98 2)) ((u_98 0)) ((u_98 1)) := (by assumption)
      have hsp4 : (u_98 2) < 10000 := (by first | assumption | omega)
      have hsp5 : (u_98 3) < 20000 := (by first | assumption | omega)
      have hsp6 : tkq g n ((u_98 0)) ((u_98 1)) ((u_98 2)) ((u_98 3)) := (by assumption)
      have hsp7 : 0 ≤ 1 := (by first | assumption | omega)
      have hsp8 : 1 ≤ 1 := (by first | assumption | omega)
      exact W.zret (v := 1) hx hb hr rfl (fun t ht hW => ⟨⟨1, ixn [(u_98 0), (u_98 1), (u_98 2), (u_98 3), 0, d1, 1], rfl, ⟨rfl, ⟨hsp0, hsp1, hsp2, hsp3, hsp4, hsp5, hsp6, hsp7, hsp8⟩⟩, ⟨it1, op1, nu1, lk1, opn, vr1, hex0, hex1, hex2, hex3, hex4, hex5, hex6, hex7, hex8, by rw [ht]; exact hP9, hD9⟩⟩, hS.F ht⟩) hS.2.2 d_Model_behind_21
