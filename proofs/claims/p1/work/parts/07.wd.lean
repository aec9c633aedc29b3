theorem wd_0 : ((Jvm.Cond.initialized "TripleDeskLaw")) ∈ lw_gd := lw_gd_in (i := 0) (by decide +kernel) rfl
theorem wd_1 : ((Jvm.Cond.initialized "TripleDesk")) ∈ lw_gd := lw_gd_in (i := 1) (by decide +kernel) rfl
theorem wd_2 : ((Jvm.Cond.initialized "TripleDesk$Tokens")) ∈ lw_gd := lw_gd_in (i := 2) (by decide +kernel) rfl
theorem wd_3 : ((Jvm.Cond.initialized "TripleDesk$Reader")) ∈ lw_gd := lw_gd_in (i := 3) (by decide +kernel) rfl
theorem wd_4 : ((Jvm.Cond.initialized "TripleDesk$Maker")) ∈ lw_gd := lw_gd_in (i := 4) (by decide +kernel) rfl
theorem wd_5 : ((Jvm.Cond.initialized "TripleDesk$Nodes")) ∈ lw_gd := lw_gd_in (i := 5) (by decide +kernel) rfl
theorem wd_6 : ((Jvm.Cond.initialized "TripleDesk$Prover")) ∈ lw_gd := lw_gd_in (i := 6) (by decide +kernel) rfl
theorem wd_7 : ((Jvm.Cond.initialized "TripleDesk$Bounds")) ∈ lw_gd := lw_gd_in (i := 7) (by decide +kernel) rfl
theorem wd_8 : ((Jvm.Cond.initialized "java/util/Arrays")) ∈ lw_gd := lw_gd_in (i := 8) (by decide +kernel) rfl
theorem wd_9 : ((Jvm.Cond.initialized "TripleDesk$Findings")) ∈ lw_gd := lw_gd_in (i := 9) (by decide +kernel) rfl
theorem wd_10 : ((Jvm.Cond.initialized "TripleDesk$Paper")) ∈ lw_gd := lw_gd_in (i := 10) (by decide +kernel) rfl
theorem wd_11 : ((Jvm.Cond.initialized "TripleDesk$Runner")) ∈ lw_gd := lw_gd_in (i := 11) (by decide +kernel) rfl
theorem wd_12 : ((Jvm.Cond.initialized "TripleDesk$Listing")) ∈ lw_gd := lw_gd_in (i := 12) (by decide +kernel) rfl
theorem wd_15 : ((Jvm.Cond.initialized "TripleDeskModel")) ∈ lw_gd := lw_gd_in (i := 15) (by decide +kernel) rfl
theorem wd_23 : ((Jvm.Cond.initialized "java/lang/IllegalStateException")) ∈ lw_gd := lw_gd_in (i := 23) (by decide +kernel) rfl
theorem wd_24 : ((Jvm.Cond.initialized "java/lang/IndexOutOfBoundsException")) ∈ lw_gd := lw_gd_in (i := 24) (by decide +kernel) rfl
theorem wd_26 : ((Jvm.Cond.classLink "TripleDeskLaw" (8 : Nat) "TripleDesk")) ∈ lw_gd := lw_gd_in (i := 26) (by decide +kernel) rfl
theorem wd_27 : ((Jvm.Cond.instantiable "TripleDesk" (13 : Nat))) ∈ lw_gd := lw_gd_in (i := 27) (by decide +kernel) rfl
theorem wd_28 : ((Jvm.Cond.methodLink "TripleDeskLaw" (55 : Nat) ({ cls := "TripleDesk", name := "<init>", desc := "()V" } : Jvm.MethodName))) ∈ lw_gd := lw_gd_in (i := 28) (by decide +kernel) rfl
theorem wd_29 : ((Jvm.Cond.instanceMethod ({ cls := "TripleDesk", name := "<init>", desc := "()V" } : Jvm.MethodName))) ∈ lw_gd := lw_gd_in (i := 29) (by decide +kernel) rfl
theorem wd_30 : ((Jvm.Cond.code ({ cls := "TripleDesk", name := "<init>", desc := "()V" } : Jvm.MethodName) prog_1_method_1_code (1 : Nat) (Option.none : Option Jvm.ClassFile.FieldType))) ∈ lw_gd := lw_gd_in (i := 30) (by decide +kernel) rfl
theorem wd_31 : ((Jvm.Cond.methodLink "TripleDesk" (3 : Nat) ({ cls := "java/lang/Object", name := "<init>", desc := "()V" } : Jvm.MethodName))) ∈ lw_gd := lw_gd_in (i := 31) (by decide +kernel) rfl
theorem wd_32 : ((Jvm.Cond.instanceMethod ({ cls := "java/lang/Object", name := "<init>", desc := "()V" } : Jvm.MethodName))) ∈ lw_gd := lw_gd_in (i := 32) (by decide +kernel) rfl
theorem wd_34 : ((Jvm.Cond.classLink "TripleDesk" (9 : Nat) "TripleDesk$Tokens")) ∈ lw_gd := lw_gd_in (i := 34) (by decide +kernel) rfl
theorem wd_35 : ((Jvm.Cond.instantiable "TripleDesk$Tokens" (8 : Nat))) ∈ lw_gd := lw_gd_in (i := 35) (by decide +kernel) rfl
theorem wd_37 : ((Jvm.Cond.instanceMethod ({ cls := "TripleDesk$Tokens", name := "<init>", desc := "()V" } : Jvm.MethodName))) ∈ lw_gd := lw_gd_in (i := 37) (by decide +kernel) rfl
theorem wd_38 : ((Jvm.Cond.code ({ cls := "TripleDesk$Tokens", name := "<init>", desc := "()V" } : Jvm.MethodName) prog_11_method_1_code (1 : Nat) (Option.none : Option Jvm.ClassFile.FieldType))) ∈ lw_gd := lw_gd_in (i := 38) (by decide +kernel) rfl
theorem wd_39 : ((Jvm.Cond.methodLink "TripleDesk$Tokens" (3 : Nat) ({ cls := "java/lang/Object", name := "<init>", desc := "()V" } : Jvm.MethodName))) ∈ lw_gd := lw_gd_in (i := 39) (by decide +kernel) rfl
theorem wd_40 : ((Jvm.Cond.fieldLink "TripleDesk$Tokens" (9 : Nat) "TripleDesk$Tokens" "tape" "[B")) ∈ lw_gd := lw_gd_in (i := 40) (by decide +kernel) rfl
theorem wd_41 : ((Jvm.Cond.fieldLink "TripleDesk$Tokens" (15 : Nat) "TripleDesk$Tokens" "tokens" "[I")) ∈ lw_gd := lw_gd_in (i := 41) (by decide +kernel) rfl
theorem wd_42 : ((Jvm.Cond.fieldLink "TripleDesk$Tokens" (23 : Nat) "TripleDesk$Tokens" "size" "I")) ∈ lw_gd := lw_gd_in (i := 42) (by decide +kernel) rfl
theorem wd_43 : ((Jvm.Cond.fieldLink "TripleDesk$Tokens" (26 : Nat) "TripleDesk$Tokens" "ahead" "I")) ∈ lw_gd := lw_gd_in (i := 43) (by decide +kernel) rfl
theorem wd_44 : ((Jvm.Cond.fieldLink "TripleDesk$Tokens" (36 : Nat) "TripleDesk$Tokens" "at" "I")) ∈ lw_gd := lw_gd_in (i := 44) (by decide +kernel) rfl
theorem wd_45 : ((Jvm.Cond.fieldLink "TripleDesk$Tokens" (19 : Nat) "TripleDesk$Tokens" "fault" "I")) ∈ lw_gd := lw_gd_in (i := 45) (by decide +kernel) rfl
theorem wd_46 : ((Jvm.Cond.fieldLink "TripleDesk$Tokens" (42 : Nat) "TripleDesk$Tokens" "next" "I")) ∈ lw_gd := lw_gd_in (i := 46) (by decide +kernel) rfl
theorem wd_47 : ((Jvm.Cond.fieldLink "TripleDesk$Reader" (52 : Nat) "TripleDesk$Tokens" "next" "I")) ∈ lw_gd := lw_gd_in (i := 47) (by decide +kernel) rfl
theorem wd_48 : ((Jvm.Cond.fieldLink "TripleDesk$Tokens" (29 : Nat) "TripleDesk$Tokens" "amount" "I")) ∈ lw_gd := lw_gd_in (i := 48) (by decide +kernel) rfl
theorem wd_49 : ((Jvm.Cond.fieldLink "TripleDesk$Reader" (74 : Nat) "TripleDesk$Tokens" "amount" "I")) ∈ lw_gd := lw_gd_in (i := 49) (by decide +kernel) rfl
theorem wd_67 : ((Jvm.Cond.arrayClass Jvm.ClassFile.FieldType.byte)) ∈ lw_gd := lw_gd_in (i := 67) (by decide +kernel) rfl
theorem wd_68 : ((Jvm.Cond.arrayClass Jvm.ClassFile.FieldType.int)) ∈ lw_gd := lw_gd_in (i := 68) (by decide +kernel) rfl
theorem wd_69 : ((Jvm.Cond.classLink "TripleDesk" (16 : Nat) "TripleDesk$Reader")) ∈ lw_gd := lw_gd_in (i := 69) (by decide +kernel) rfl
theorem wd_70 : ((Jvm.Cond.instantiable "TripleDesk$Reader" (5 : Nat))) ∈ lw_gd := lw_gd_in (i := 70) (by decide +kernel) rfl
theorem wd_71 : ((Jvm.Cond.methodLink "TripleDesk" (18 : Nat) ({ cls := "TripleDesk$Reader", name := "<init>", desc := "(LTripleDesk$Tokens;)V" } : Jvm.MethodName))) ∈ lw_gd := lw_gd_in (i := 71) (by decide +kernel) rfl
theorem wd_72 : ((Jvm.Cond.instanceMethod ({ cls := "TripleDesk$Reader", name := "<init>", desc := "(LTripleDesk$Tokens;)V" } : Jvm.MethodName))) ∈ lw_gd := lw_gd_in (i := 72) (by decide +kernel) rfl
theorem wd_73 : ((Jvm.Cond.code ({ cls := "TripleDesk$Reader", name := "<init>", desc := "(LTripleDesk$Tokens;)V" } : Jvm.MethodName) prog_9_method_1_code (2 : Nat) (Option.none : Option Jvm.ClassFile.FieldType))) ∈ lw_gd := lw_gd_in (i := 73) (by decide +kernel) rfl
theorem wd_74 : ((Jvm.Cond.methodLink "TripleDesk$Reader" (3 : Nat) ({ cls := "java/lang/Object", name := "<init>", desc := "()V" } : Jvm.MethodName))) ∈ lw_gd := lw_gd_in (i := 74) (by decide +kernel) rfl
theorem wd_75 : ((Jvm.Cond.fieldLink "TripleDesk$Reader" (9 : Nat) "TripleDesk$Reader" "text" "LTripleDesk$Tokens;")) ∈ lw_gd := lw_gd_in (i := 75) (by decide +kernel) rfl
theorem wd_76 : ((Jvm.Cond.fieldLink "TripleDesk$Reader" (40 : Nat) "TripleDesk$Reader" "listing" "LTripleDesk$Listing;")) ∈ lw_gd := lw_gd_in (i := 76) (by decide +kernel) rfl
theorem wd_77 : ((Jvm.Cond.fieldLink "TripleDesk$Reader" (25 : Nat) "TripleDesk$Reader" "nodes" "LTripleDesk$Nodes;")) ∈ lw_gd := lw_gd_in (i := 77) (by decide +kernel) rfl
theorem wd_78 : ((Jvm.Cond.fieldLink "TripleDesk$Reader" (119 : Nat) "TripleDesk$Reader" "ghosts" "Z")) ∈ lw_gd := lw_gd_in (i := 78) (by decide +kernel) rfl
theorem wd_79 : ((Jvm.Cond.fieldLink "TripleDesk$Reader" (123 : Nat) "TripleDesk$Reader" "atoms" "I")) ∈ lw_gd := lw_gd_in (i := 79) (by decide +kernel) rfl
theorem wd_91 : ((Jvm.Cond.classLink "TripleDesk" (25 : Nat) "TripleDesk$Maker")) ∈ lw_gd := lw_gd_in (i := 91) (by decide +kernel) rfl
theorem wd_92 : ((Jvm.Cond.instantiable "TripleDesk$Maker" (5 : Nat))) ∈ lw_gd := lw_gd_in (i := 92) (by decide +kernel) rfl
theorem wd_94 : ((Jvm.Cond.instanceMethod ({ cls := "TripleDesk$Maker", name := "<init>", desc := "()V" } : Jvm.MethodName))) ∈ lw_gd := lw_gd_in (i := 94) (by decide +kernel) rfl
theorem wd_95 : ((Jvm.Cond.code ({ cls := "TripleDesk$Maker", name := "<init>", desc := "()V" } : Jvm.MethodName) prog_5_method_1_code (1 : Nat) (Option.none : Option Jvm.ClassFile.FieldType))) ∈ lw_gd := lw_gd_in (i := 95) (by decide +kernel) rfl
theorem wd_96 : ((Jvm.Cond.methodLink "TripleDesk$Maker" (3 : Nat) ({ cls := "java/lang/Object", name := "<init>", desc := "()V" } : Jvm.MethodName))) ∈ lw_gd := lw_gd_in (i := 96) (by decide +kernel) rfl
theorem wd_97 : ((Jvm.Cond.classLink "TripleDesk$Maker" (9 : Nat) "TripleDesk$Nodes")) ∈ lw_gd := lw_gd_in (i := 97) (by decide +kernel) rfl
theorem wd_98 : ((Jvm.Cond.instantiable "TripleDesk$Nodes" (4 : Nat))) ∈ lw_gd := lw_gd_in (i := 98) (by decide +kernel) rfl
theorem wd_100 : ((Jvm.Cond.instanceMethod ({ cls := "TripleDesk$Nodes", name := "<init>", desc := "()V" } : Jvm.MethodName))) ∈ lw_gd := lw_gd_in (i := 100) (by decide +kernel) rfl
theorem wd_101 : ((Jvm.Cond.code ({ cls := "TripleDesk$Nodes", name := "<init>", desc := "()V" } : Jvm.MethodName) prog_6_method_1_code (1 : Nat) (Option.none : Option Jvm.ClassFile.FieldType))) ∈ lw_gd := lw_gd_in (i := 101) (by decide +kernel) rfl
theorem wd_102 : ((Jvm.Cond.methodLink "TripleDesk$Nodes" (1 : Nat) ({ cls := "java/lang/Object", name := "<init>", desc := "()V" } : Jvm.MethodName))) ∈ lw_gd := lw_gd_in (i := 102) (by decide +kernel) rfl
theorem wd_103 : ((Jvm.Cond.fieldLink "TripleDesk$Nodes" (7 : Nat) "TripleDesk$Nodes" "op" "[B")) ∈ lw_gd := lw_gd_in (i := 103) (by decide +kernel) rfl
theorem wd_106 : ((Jvm.Cond.fieldLink "TripleDesk$Runner" (72 : Nat) "TripleDesk$Nodes" "op" "[B")) ∈ lw_gd := lw_gd_in (i := 106) (by decide +kernel) rfl
theorem wd_108 : ((Jvm.Cond.fieldLink "TripleDesk$Nodes" (13 : Nat) "TripleDesk$Nodes" "left" "[I")) ∈ lw_gd := lw_gd_in (i := 108) (by decide +kernel) rfl
theorem wd_111 : ((Jvm.Cond.fieldLink "TripleDesk$Runner" (64 : Nat) "TripleDesk$Nodes" "left" "[I")) ∈ lw_gd := lw_gd_in (i := 111) (by decide +kernel) rfl
theorem wd_113 : ((Jvm.Cond.fieldLink "TripleDesk$Nodes" (17 : Nat) "TripleDesk$Nodes" "right" "[I")) ∈ lw_gd := lw_gd_in (i := 113) (by decide +kernel) rfl
theorem wd_116 : ((Jvm.Cond.fieldLink "TripleDesk$Runner" (69 : Nat) "TripleDesk$Nodes" "right" "[I")) ∈ lw_gd := lw_gd_in (i := 116) (by decide +kernel) rfl
theorem wd_118 : ((Jvm.Cond.fieldLink "TripleDesk$Nodes" (20 : Nat) "TripleDesk$Nodes" "size" "I")) ∈ lw_gd := lw_gd_in (i := 118) (by decide +kernel) rfl
theorem wd_129 : ((Jvm.Cond.fieldLink "TripleDesk$Maker" (12 : Nat) "TripleDesk$Maker" "formula" "LTripleDesk$Nodes;")) ∈ lw_gd := lw_gd_in (i := 129) (by decide +kernel) rfl
theorem wd_131 : ((Jvm.Cond.fieldLink "TripleDesk$Maker" (18 : Nat) "TripleDesk$Maker" "stands" "[I")) ∈ lw_gd := lw_gd_in (i := 131) (by decide +kernel) rfl
theorem wd_134 : ((Jvm.Cond.fieldLink "TripleDesk$Maker" (22 : Nat) "TripleDesk$Maker" "made" "I")) ∈ lw_gd := lw_gd_in (i := 134) (by decide +kernel) rfl
theorem wd_146 : ((Jvm.Cond.classLink "TripleDesk" (32 : Nat) "TripleDesk$Prover")) ∈ lw_gd := lw_gd_in (i := 146) (by decide +kernel) rfl
theorem wd_147 : ((Jvm.Cond.instantiable "TripleDesk$Prover" (9 : Nat))) ∈ lw_gd := lw_gd_in (i := 147) (by decide +kernel) rfl
theorem wd_149 : ((Jvm.Cond.instanceMethod ({ cls := "TripleDesk$Prover", name := "<init>", desc := "()V" } : Jvm.MethodName))) ∈ lw_gd := lw_gd_in (i := 149) (by decide +kernel) rfl
theorem wd_150 : ((Jvm.Cond.code ({ cls := "TripleDesk$Prover", name := "<init>", desc := "()V" } : Jvm.MethodName) prog_8_method_1_code (1 : Nat) (Option.none : Option Jvm.ClassFile.FieldType))) ∈ lw_gd := lw_gd_in (i := 150) (by decide +kernel) rfl
theorem wd_151 : ((Jvm.Cond.methodLink "TripleDesk$Prover" (3 : Nat) ({ cls := "java/lang/Object", name := "<init>", desc := "()V" } : Jvm.MethodName))) ∈ lw_gd := lw_gd_in (i := 151) (by decide +kernel) rfl
theorem wd_152 : ((Jvm.Cond.classLink "TripleDesk$Prover" (9 : Nat) "TripleDesk$Bounds")) ∈ lw_gd := lw_gd_in (i := 152) (by decide +kernel) rfl
theorem wd_153 : ((Jvm.Cond.instantiable "TripleDesk$Bounds" (4 : Nat))) ∈ lw_gd := lw_gd_in (i := 153) (by decide +kernel) rfl
theorem wd_154 : ((Jvm.Cond.methodLink "TripleDesk$Prover" (11 : Nat) ({ cls := "TripleDesk$Bounds", name := "<init>", desc := "()V" } : Jvm.MethodName))) ∈ lw_gd := lw_gd_in (i := 154) (by decide +kernel) rfl
theorem wd_155 : ((Jvm.Cond.instanceMethod ({ cls := "TripleDesk$Bounds", name := "<init>", desc := "()V" } : Jvm.MethodName))) ∈ lw_gd := lw_gd_in (i := 155) (by decide +kernel) rfl
theorem wd_156 : ((Jvm.Cond.code ({ cls := "TripleDesk$Bounds", name := "<init>", desc := "()V" } : Jvm.MethodName) prog_2_method_1_code (1 : Nat) (Option.none : Option Jvm.ClassFile.FieldType))) ∈ lw_gd := lw_gd_in (i := 156) (by decide +kernel) rfl
theorem wd_157 : ((Jvm.Cond.methodLink "TripleDesk$Bounds" (3 : Nat) ({ cls := "java/lang/Object", name := "<init>", desc := "()V" } : Jvm.MethodName))) ∈ lw_gd := lw_gd_in (i := 157) (by decide +kernel) rfl
theorem wd_158 : ((Jvm.Cond.constant "TripleDesk$Bounds" (21 : Nat) (268435456 : Int32))) ∈ lw_gd := lw_gd_in (i := 158) (by decide +kernel) rfl
theorem wd_159 : ((Jvm.Cond.methodLink "TripleDesk$Bounds" (22 : Nat) ({ cls := "java/util/Arrays", name := "fill", desc := "([II)V" } : Jvm.MethodName))) ∈ lw_gd := lw_gd_in (i := 159) (by decide +kernel) rfl
theorem wd_160 : ((Jvm.Cond.static ({ cls := "java/util/Arrays", name := "fill", desc := "([II)V" } : Jvm.MethodName))) ∈ lw_gd := lw_gd_in (i := 160) (by decide +kernel) rfl
theorem wd_161 : ((Jvm.Cond.code ({ cls := "java/util/Arrays", name := "fill", desc := "([II)V" } : Jvm.MethodName) prog_26_method_103_code (4 : Nat) (Option.none : Option Jvm.ClassFile.FieldType))) ∈ lw_gd := lw_gd_in (i := 161) (by decide +kernel) rfl
theorem wd_162 : ((Jvm.Cond.fieldLink "TripleDesk$Bounds" (9 : Nat) "TripleDesk$Bounds" "level" "[I")) ∈ lw_gd := lw_gd_in (i := 162) (by decide +kernel) rfl
theorem wd_163 : ((Jvm.Cond.fieldLink "TripleDesk$Bounds" (15 : Nat) "TripleDesk$Bounds" "most" "[I")) ∈ lw_gd := lw_gd_in (i := 163) (by decide +kernel) rfl
theorem wd_164 : ((Jvm.Cond.fieldLink "TripleDesk$Bounds" (18 : Nat) "TripleDesk$Bounds" "bound" "[I")) ∈ lw_gd := lw_gd_in (i := 164) (by decide +kernel) rfl
theorem wd_175 : ((Jvm.Cond.fieldLink "TripleDesk$Prover" (12 : Nat) "TripleDesk$Prover" "bounds" "LTripleDesk$Bounds;")) ∈ lw_gd := lw_gd_in (i := 175) (by decide +kernel) rfl
theorem wd_184 : ((Jvm.Cond.fieldLink "TripleDesk$Prover" (18 : Nat) "TripleDesk$Prover" "rowsOf" "[S")) ∈ lw_gd := lw_gd_in (i := 184) (by decide +kernel) rfl
theorem wd_185 : ((Jvm.Cond.fieldLink "TripleDesk$Prover" (22 : Nat) "TripleDesk$Prover" "demand" "[I")) ∈ lw_gd := lw_gd_in (i := 185) (by decide +kernel) rfl
theorem wd_186 : ((Jvm.Cond.fieldLink "TripleDesk$Prover" (26 : Nat) "TripleDesk$Prover" "index" "[I")) ∈ lw_gd := lw_gd_in (i := 186) (by decide +kernel) rfl
theorem wd_207 : ((Jvm.Cond.arrayClass Jvm.ClassFile.FieldType.short)) ∈ lw_gd := lw_gd_in (i := 207) (by decide +kernel) rfl
theorem wd_208 : ((Jvm.Cond.classLink "TripleDesk" (39 : Nat) "TripleDesk$Findings")) ∈ lw_gd := lw_gd_in (i := 208) (by decide +kernel) rfl
theorem wd_209 : ((Jvm.Cond.instantiable "TripleDesk$Findings" (4 : Nat))) ∈ lw_gd := lw_gd_in (i := 209) (by decide +kernel) rfl
theorem wd_211 : ((Jvm.Cond.instanceMethod ({ cls := "TripleDesk$Findings", name := "<init>", desc := "()V" } : Jvm.MethodName))) ∈ lw_gd := lw_gd_in (i := 211) (by decide +kernel) rfl
theorem wd_212 : ((Jvm.Cond.code ({ cls := "TripleDesk$Findings", name := "<init>", desc := "()V" } : Jvm.MethodName) prog_3_method_1_code (1 : Nat) (Option.none : Option Jvm.ClassFile.FieldType))) ∈ lw_gd := lw_gd_in (i := 212) (by decide +kernel) rfl
theorem wd_213 : ((Jvm.Cond.methodLink "TripleDesk$Findings" (3 : Nat) ({ cls := "java/lang/Object", name := "<init>", desc := "()V" } : Jvm.MethodName))) ∈ lw_gd := lw_gd_in (i := 213) (by decide +kernel) rfl
theorem wd_214 : ((Jvm.Cond.fieldLink "TripleDesk$Findings" (9 : Nat) "TripleDesk$Findings" "rows" "[S")) ∈ lw_gd := lw_gd_in (i := 214) (by decide +kernel) rfl
theorem wd_216 : ((Jvm.Cond.fieldLink "TripleDesk$Findings" (15 : Nat) "TripleDesk$Findings" "atoms" "[S")) ∈ lw_gd := lw_gd_in (i := 216) (by decide +kernel) rfl
theorem wd_218 : ((Jvm.Cond.fieldLink "TripleDesk$Findings" (18 : Nat) "TripleDesk$Findings" "first" "[S")) ∈ lw_gd := lw_gd_in (i := 218) (by decide +kernel) rfl
theorem wd_220 : ((Jvm.Cond.fieldLink "TripleDesk$Findings" (21 : Nat) "TripleDesk$Findings" "numbers" "[I")) ∈ lw_gd := lw_gd_in (i := 220) (by decide +kernel) rfl
theorem wd_230 : ((Jvm.Cond.classLink "TripleDesk" (46 : Nat) "TripleDesk$Paper")) ∈ lw_gd := lw_gd_in (i := 230) (by decide +kernel) rfl
theorem wd_231 : ((Jvm.Cond.instantiable "TripleDesk$Paper" (2 : Nat))) ∈ lw_gd := lw_gd_in (i := 231) (by decide +kernel) rfl
theorem wd_233 : ((Jvm.Cond.instanceMethod ({ cls := "TripleDesk$Paper", name := "<init>", desc := "()V" } : Jvm.MethodName))) ∈ lw_gd := lw_gd_in (i := 233) (by decide +kernel) rfl
theorem wd_234 : ((Jvm.Cond.code ({ cls := "TripleDesk$Paper", name := "<init>", desc := "()V" } : Jvm.MethodName) prog_7_method_1_code (1 : Nat) (Option.none : Option Jvm.ClassFile.FieldType))) ∈ lw_gd := lw_gd_in (i := 234) (by decide +kernel) rfl
theorem wd_235 : ((Jvm.Cond.methodLink "TripleDesk$Paper" (3 : Nat) ({ cls := "java/lang/Object", name := "<init>", desc := "()V" } : Jvm.MethodName))) ∈ lw_gd := lw_gd_in (i := 235) (by decide +kernel) rfl
theorem wd_236 : ((Jvm.Cond.fieldLink "TripleDesk$Paper" (9 : Nat) "TripleDesk$Paper" "bytes" "[B")) ∈ lw_gd := lw_gd_in (i := 236) (by decide +kernel) rfl
theorem wd_239 : ((Jvm.Cond.fieldLink "TripleDesk" (164 : Nat) "TripleDesk$Paper" "size" "I")) ∈ lw_gd := lw_gd_in (i := 239) (by decide +kernel) rfl
theorem wd_245 : ((Jvm.Cond.classLink "TripleDesk" (53 : Nat) "TripleDesk$Runner")) ∈ lw_gd := lw_gd_in (i := 245) (by decide +kernel) rfl
theorem wd_246 : ((Jvm.Cond.instantiable "TripleDesk$Runner" (1 : Nat))) ∈ lw_gd := lw_gd_in (i := 246) (by decide +kernel) rfl
theorem wd_248 : ((Jvm.Cond.instanceMethod ({ cls := "TripleDesk$Runner", name := "<init>", desc := "()V" } : Jvm.MethodName))) ∈ lw_gd := lw_gd_in (i := 248) (by decide +kernel) rfl
theorem wd_249 : ((Jvm.Cond.code ({ cls := "TripleDesk$Runner", name := "<init>", desc := "()V" } : Jvm.MethodName) prog_10_method_1_code (1 : Nat) (Option.none : Option Jvm.ClassFile.FieldType))) ∈ lw_gd := lw_gd_in (i := 249) (by decide +kernel) rfl
theorem wd_250 : ((Jvm.Cond.methodLink "TripleDesk$Runner" (3 : Nat) ({ cls := "java/lang/Object", name := "<init>", desc := "()V" } : Jvm.MethodName))) ∈ lw_gd := lw_gd_in (i := 250) (by decide +kernel) rfl
theorem wd_251 : ((Jvm.Cond.fieldLink "TripleDesk$Runner" (9 : Nat) "TripleDesk$Runner" "values" "[J")) ∈ lw_gd := lw_gd_in (i := 251) (by decide +kernel) rfl
theorem wd_252 : ((Jvm.Cond.fieldLink "TripleDesk" (173 : Nat) "TripleDesk$Runner" "values" "[J")) ∈ lw_gd := lw_gd_in (i := 252) (by decide +kernel) rfl
theorem wd_256 : ((Jvm.Cond.arrayClass Jvm.ClassFile.FieldType.long)) ∈ lw_gd := lw_gd_in (i := 256) (by decide +kernel) rfl
theorem wd_257 : ((Jvm.Cond.classLink "TripleDesk" (60 : Nat) "TripleDesk$Nodes")) ∈ lw_gd := lw_gd_in (i := 257) (by decide +kernel) rfl
theorem wd_259 : ((Jvm.Cond.classLink "TripleDesk" (73 : Nat) "TripleDesk$Listing")) ∈ lw_gd := lw_gd_in (i := 259) (by decide +kernel) rfl
theorem wd_260 : ((Jvm.Cond.instantiable "TripleDesk$Listing" (17 : Nat))) ∈ lw_gd := lw_gd_in (i := 260) (by decide +kernel) rfl
theorem wd_262 : ((Jvm.Cond.instanceMethod ({ cls := "TripleDesk$Listing", name := "<init>", desc := "()V" } : Jvm.MethodName))) ∈ lw_gd := lw_gd_in (i := 262) (by decide +kernel) rfl
theorem wd_263 : ((Jvm.Cond.code ({ cls := "TripleDesk$Listing", name := "<init>", desc := "()V" } : Jvm.MethodName) prog_4_method_1_code (1 : Nat) (Option.none : Option Jvm.ClassFile.FieldType))) ∈ lw_gd := lw_gd_in (i := 263) (by decide +kernel) rfl
theorem wd_264 : ((Jvm.Cond.methodLink "TripleDesk$Listing" (3 : Nat) ({ cls := "java/lang/Object", name := "<init>", desc := "()V" } : Jvm.MethodName))) ∈ lw_gd := lw_gd_in (i := 264) (by decide +kernel) rfl
theorem wd_265 : ((Jvm.Cond.classLink "TripleDesk$Listing" (9 : Nat) "TripleDesk$Nodes")) ∈ lw_gd := lw_gd_in (i := 265) (by decide +kernel) rfl
theorem wd_267 : ((Jvm.Cond.fieldLink "TripleDesk$Listing" (12 : Nat) "TripleDesk$Listing" "nodes" "LTripleDesk$Nodes;")) ∈ lw_gd := lw_gd_in (i := 267) (by decide +kernel) rfl
theorem wd_268 : ((Jvm.Cond.fieldLink "TripleDesk$Reader" (44 : Nat) "TripleDesk$Listing" "nodes" "LTripleDesk$Nodes;")) ∈ lw_gd := lw_gd_in (i := 268) (by decide +kernel) rfl
theorem wd_271 : ((Jvm.Cond.fieldLink "TripleDesk$Listing" (18 : Nat) "TripleDesk$Listing" "kind" "[B")) ∈ lw_gd := lw_gd_in (i := 271) (by decide +kernel) rfl
theorem wd_274 : ((Jvm.Cond.fieldLink "TripleDesk$Listing" (22 : Nat) "TripleDesk$Listing" "owner" "[B")) ∈ lw_gd := lw_gd_in (i := 274) (by decide +kernel) rfl
theorem wd_275 : ((Jvm.Cond.fieldLink "TripleDesk$Listing" (25 : Nat) "TripleDesk$Listing" "sibling" "[B")) ∈ lw_gd := lw_gd_in (i := 275) (by decide +kernel) rfl
theorem wd_277 : ((Jvm.Cond.fieldLink "TripleDesk$Listing" (28 : Nat) "TripleDesk$Listing" "first" "[B")) ∈ lw_gd := lw_gd_in (i := 277) (by decide +kernel) rfl
theorem wd_281 : ((Jvm.Cond.fieldLink "TripleDesk$Listing" (31 : Nat) "TripleDesk$Listing" "second" "[B")) ∈ lw_gd := lw_gd_in (i := 281) (by decide +kernel) rfl
theorem wd_285 : ((Jvm.Cond.fieldLink "TripleDesk$Listing" (34 : Nat) "TripleDesk$Listing" "test" "[S")) ∈ lw_gd := lw_gd_in (i := 285) (by decide +kernel) rfl
theorem wd_289 : ((Jvm.Cond.fieldLink "TripleDesk$Listing" (38 : Nat) "TripleDesk$Listing" "kept" "[S")) ∈ lw_gd := lw_gd_in (i := 289) (by decide +kernel) rfl
theorem wd_292 : ((Jvm.Cond.fieldLink "TripleDesk$Listing" (41 : Nat) "TripleDesk$Listing" "term" "[I")) ∈ lw_gd := lw_gd_in (i := 292) (by decide +kernel) rfl
theorem wd_296 : ((Jvm.Cond.fieldLink "TripleDesk$Listing" (45 : Nat) "TripleDesk$Listing" "name" "[B")) ∈ lw_gd := lw_gd_in (i := 296) (by decide +kernel) rfl
theorem wd_300 : ((Jvm.Cond.fieldLink "TripleDesk$Listing" (48 : Nat) "TripleDesk$Listing" "claimKind" "[B")) ∈ lw_gd := lw_gd_in (i := 300) (by decide +kernel) rfl
theorem wd_303 : ((Jvm.Cond.fieldLink "TripleDesk$Listing" (51 : Nat) "TripleDesk$Listing" "claimOf" "[B")) ∈ lw_gd := lw_gd_in (i := 303) (by decide +kernel) rfl
theorem wd_306 : ((Jvm.Cond.fieldLink "TripleDesk$Listing" (70 : Nat) "TripleDesk$Listing" "claims" "I")) ∈ lw_gd := lw_gd_in (i := 306) (by decide +kernel) rfl
theorem wd_308 : ((Jvm.Cond.fieldLink "TripleDesk$Listing" (57 : Nat) "TripleDesk$Listing" "size" "I")) ∈ lw_gd := lw_gd_in (i := 308) (by decide +kernel) rfl
theorem wd_309 : ((Jvm.Cond.fieldLink "TripleDesk$Listing" (61 : Nat) "TripleDesk$Listing" "branches" "I")) ∈ lw_gd := lw_gd_in (i := 309) (by decide +kernel) rfl
theorem wd_310 : ((Jvm.Cond.fieldLink "TripleDesk$Listing" (64 : Nat) "TripleDesk$Listing" "loops" "I")) ∈ lw_gd := lw_gd_in (i := 310) (by decide +kernel) rfl
theorem wd_311 : ((Jvm.Cond.fieldLink "TripleDesk$Listing" (67 : Nat) "TripleDesk$Listing" "variants" "I")) ∈ lw_gd := lw_gd_in (i := 311) (by decide +kernel) rfl
theorem wd_347 : ((Jvm.Cond.methodLink "TripleDesk" (83 : Nat) ({ cls := "TripleDesk$Nodes", name := "add", desc := "(III)I" } : Jvm.MethodName))) ∈ lw_gd := lw_gd_in (i := 347) (by decide +kernel) rfl
theorem wd_348 : ((Jvm.Cond.instanceMethod ({ cls := "TripleDesk$Nodes", name := "add", desc := "(III)I" } : Jvm.MethodName))) ∈ lw_gd := lw_gd_in (i := 348) (by decide +kernel) rfl
theorem wd_349 : ((Jvm.Cond.selects "TripleDesk$Nodes" ({ cls := "TripleDesk$Nodes", name := "add", desc := "(III)I" } : Jvm.MethodName) ({ cls := "TripleDesk$Nodes", name := "add", desc := "(III)I" } : Jvm.MethodName))) ∈ lw_gd := lw_gd_in (i := 349) (by decide +kernel) rfl
theorem wd_350 : ((Jvm.Cond.code ({ cls := "TripleDesk$Nodes", name := "add", desc := "(III)I" } : Jvm.MethodName) prog_6_method_4_code (4 : Nat) (Option.some Jvm.ClassFile.FieldType.int))) ∈ lw_gd := lw_gd_in (i := 350) (by decide +kernel) rfl
theorem wd_375 : ((Jvm.Cond.fieldLink "TripleDesk" (12 : Nat) "TripleDesk" "tokens" "LTripleDesk$Tokens;")) ∈ lw_gd := lw_gd_in (i := 375) (by decide +kernel) rfl
theorem wd_376 : ((Jvm.Cond.fieldLink "TripleDesk" (21 : Nat) "TripleDesk" "reader" "LTripleDesk$Reader;")) ∈ lw_gd := lw_gd_in (i := 376) (by decide +kernel) rfl
theorem wd_377 : ((Jvm.Cond.fieldLink "TripleDesk" (28 : Nat) "TripleDesk" "maker" "LTripleDesk$Maker;")) ∈ lw_gd := lw_gd_in (i := 377) (by decide +kernel) rfl
theorem wd_378 : ((Jvm.Cond.fieldLink "TripleDesk" (35 : Nat) "TripleDesk" "prover" "LTripleDesk$Prover;")) ∈ lw_gd := lw_gd_in (i := 378) (by decide +kernel) rfl
theorem wd_379 : ((Jvm.Cond.fieldLink "TripleDesk" (42 : Nat) "TripleDesk" "findings" "LTripleDesk$Findings;")) ∈ lw_gd := lw_gd_in (i := 379) (by decide +kernel) rfl
theorem wd_380 : ((Jvm.Cond.fieldLink "TripleDesk" (49 : Nat) "TripleDesk" "paper" "LTripleDesk$Paper;")) ∈ lw_gd := lw_gd_in (i := 380) (by decide +kernel) rfl
theorem wd_381 : ((Jvm.Cond.fieldLink "TripleDesk" (56 : Nat) "TripleDesk" "runner" "LTripleDesk$Runner;")) ∈ lw_gd := lw_gd_in (i := 381) (by decide +kernel) rfl
theorem wd_382 : ((Jvm.Cond.fieldLink "TripleDesk" (63 : Nat) "TripleDesk" "before" "LTripleDesk$Nodes;")) ∈ lw_gd := lw_gd_in (i := 382) (by decide +kernel) rfl
theorem wd_383 : ((Jvm.Cond.fieldLink "TripleDesk" (67 : Nat) "TripleDesk" "after" "LTripleDesk$Nodes;")) ∈ lw_gd := lw_gd_in (i := 383) (by decide +kernel) rfl
theorem wd_384 : ((Jvm.Cond.fieldLink "TripleDesk" (70 : Nat) "TripleDesk" "spareNodes" "LTripleDesk$Nodes;")) ∈ lw_gd := lw_gd_in (i := 384) (by decide +kernel) rfl
theorem wd_385 : ((Jvm.Cond.fieldLink "TripleDesk" (76 : Nat) "TripleDesk" "listing" "LTripleDesk$Listing;")) ∈ lw_gd := lw_gd_in (i := 385) (by decide +kernel) rfl
theorem wd_386 : ((Jvm.Cond.fieldLink "TripleDesk" (80 : Nat) "TripleDesk" "spareListing" "LTripleDesk$Listing;")) ∈ lw_gd := lw_gd_in (i := 386) (by decide +kernel) rfl
theorem wd_387 : ((Jvm.Cond.fieldLink "TripleDesk" (102 : Nat) "TripleDesk" "loaded" "Z")) ∈ lw_gd := lw_gd_in (i := 387) (by decide +kernel) rfl
theorem wd_415 : ((Jvm.Cond.methodLink "TripleDeskLaw" (61 : Nat) ({ cls := "TripleDesk", name := "type", desc := "(JI)Z" } : Jvm.MethodName))) ∈ lw_gd := lw_gd_in (i := 415) (by decide +kernel) rfl
theorem wd_416 : ((Jvm.Cond.instanceMethod ({ cls := "TripleDesk", name := "type", desc := "(JI)Z" } : Jvm.MethodName))) ∈ lw_gd := lw_gd_in (i := 416) (by decide +kernel) rfl
theorem wd_417 : ((Jvm.Cond.selects "TripleDesk" ({ cls := "TripleDesk", name := "type", desc := "(JI)Z" } : Jvm.MethodName) ({ cls := "TripleDesk", name := "type", desc := "(JI)Z" } : Jvm.MethodName))) ∈ lw_gd := lw_gd_in (i := 417) (by decide +kernel) rfl
theorem wd_418 : ((Jvm.Cond.code ({ cls := "TripleDesk", name := "type", desc := "(JI)Z" } : Jvm.MethodName) prog_1_method_2_code (4 : Nat) (Option.some Jvm.ClassFile.FieldType.boolean))) ∈ lw_gd := lw_gd_in (i := 418) (by decide +kernel) rfl
theorem wd_419 : ((Jvm.Cond.methodLink "TripleDesk" (87 : Nat) ({ cls := "TripleDesk$Tokens", name := "append", desc := "(JI)Z" } : Jvm.MethodName))) ∈ lw_gd := lw_gd_in (i := 419) (by decide +kernel) rfl
theorem wd_420 : ((Jvm.Cond.instanceMethod ({ cls := "TripleDesk$Tokens", name := "append", desc := "(JI)Z" } : Jvm.MethodName))) ∈ lw_gd := lw_gd_in (i := 420) (by decide +kernel) rfl
theorem wd_421 : ((Jvm.Cond.selects "TripleDesk$Tokens" ({ cls := "TripleDesk$Tokens", name := "append", desc := "(JI)Z" } : Jvm.MethodName) ({ cls := "TripleDesk$Tokens", name := "append", desc := "(JI)Z" } : Jvm.MethodName))) ∈ lw_gd := lw_gd_in (i := 421) (by decide +kernel) rfl
theorem wd_422 : ((Jvm.Cond.code ({ cls := "TripleDesk$Tokens", name := "append", desc := "(JI)Z" } : Jvm.MethodName) prog_11_method_2_code (5 : Nat) (Option.some Jvm.ClassFile.FieldType.boolean))) ∈ lw_gd := lw_gd_in (i := 422) (by decide +kernel) rfl
theorem wd_423 : ((Jvm.Cond.methodLink "TripleDeskLaw" (66 : Nat) ({ cls := "TripleDesk", name := "pre", desc := "()I" } : Jvm.MethodName))) ∈ lw_gd := lw_gd_in (i := 423) (by decide +kernel) rfl
theorem wd_424 : ((Jvm.Cond.instanceMethod ({ cls := "TripleDesk", name := "pre", desc := "()I" } : Jvm.MethodName))) ∈ lw_gd := lw_gd_in (i := 424) (by decide +kernel) rfl
theorem wd_425 : ((Jvm.Cond.selects "TripleDesk" ({ cls := "TripleDesk", name := "pre", desc := "()I" } : Jvm.MethodName) ({ cls := "TripleDesk", name := "pre", desc := "()I" } : Jvm.MethodName))) ∈ lw_gd := lw_gd_in (i := 425) (by decide +kernel) rfl
theorem wd_426 : ((Jvm.Cond.code ({ cls := "TripleDesk", name := "pre", desc := "()I" } : Jvm.MethodName) prog_1_method_3_code (3 : Nat) (Option.some Jvm.ClassFile.FieldType.int))) ∈ lw_gd := lw_gd_in (i := 426) (by decide +kernel) rfl
theorem wd_427 : ((Jvm.Cond.methodLink "TripleDesk" (91 : Nat) ({ cls := "TripleDesk$Reader", name := "takeCondition", desc := "(LTripleDesk$Nodes;)I" } : Jvm.MethodName))) ∈ lw_gd := lw_gd_in (i := 427) (by decide +kernel) rfl
theorem wd_428 : ((Jvm.Cond.instanceMethod ({ cls := "TripleDesk$Reader", name := "takeCondition", desc := "(LTripleDesk$Nodes;)I" } : Jvm.MethodName))) ∈ lw_gd := lw_gd_in (i := 428) (by decide +kernel) rfl
theorem wd_429 : ((Jvm.Cond.selects "TripleDesk$Reader" ({ cls := "TripleDesk$Reader", name := "takeCondition", desc := "(LTripleDesk$Nodes;)I" } : Jvm.MethodName) ({ cls := "TripleDesk$Reader", name := "takeCondition", desc := "(LTripleDesk$Nodes;)I" } : Jvm.MethodName))) ∈ lw_gd := lw_gd_in (i := 429) (by decide +kernel) rfl
theorem wd_430 : ((Jvm.Cond.code ({ cls := "TripleDesk$Reader", name := "takeCondition", desc := "(LTripleDesk$Nodes;)I" } : Jvm.MethodName) prog_9_method_2_code (2 : Nat) (Option.some Jvm.ClassFile.FieldType.int))) ∈ lw_gd := lw_gd_in (i := 430) (by decide +kernel) rfl
theorem wd_431 : ((Jvm.Cond.methodLink "TripleDesk$Reader" (15 : Nat) ({ cls := "TripleDesk$Tokens", name := "takeTape", desc := "()V" } : Jvm.MethodName))) ∈ lw_gd := lw_gd_in (i := 431) (by decide +kernel) rfl
theorem wd_432 : ((Jvm.Cond.instanceMethod ({ cls := "TripleDesk$Tokens", name := "takeTape", desc := "()V" } : Jvm.MethodName))) ∈ lw_gd := lw_gd_in (i := 432) (by decide +kernel) rfl
theorem wd_433 : ((Jvm.Cond.selects "TripleDesk$Tokens" ({ cls := "TripleDesk$Tokens", name := "takeTape", desc := "()V" } : Jvm.MethodName) ({ cls := "TripleDesk$Tokens", name := "takeTape", desc := "()V" } : Jvm.MethodName))) ∈ lw_gd := lw_gd_in (i := 433) (by decide +kernel) rfl
theorem wd_434 : ((Jvm.Cond.code ({ cls := "TripleDesk$Tokens", name := "takeTape", desc := "()V" } : Jvm.MethodName) prog_11_method_3_code (5 : Nat) (Option.none : Option Jvm.ClassFile.FieldType))) ∈ lw_gd := lw_gd_in (i := 434) (by decide +kernel) rfl
theorem wd_528 : ((Jvm.Cond.methodLink "TripleDesk$Tokens" (39 : Nat) ({ cls := "TripleDesk$Tokens", name := "pass", desc := "()V" } : Jvm.MethodName))) ∈ lw_gd := lw_gd_in (i := 528) (by decide +kernel) rfl
theorem wd_529 : ((Jvm.Cond.instanceMethod ({ cls := "TripleDesk$Tokens", name := "pass", desc := "()V" } : Jvm.MethodName))) ∈ lw_gd := lw_gd_in (i := 529) (by decide +kernel) rfl
theorem wd_530 : ((Jvm.Cond.selects "TripleDesk$Tokens" ({ cls := "TripleDesk$Tokens", name := "pass", desc := "()V" } : Jvm.MethodName) ({ cls := "TripleDesk$Tokens", name := "pass", desc := "()V" } : Jvm.MethodName))) ∈ lw_gd := lw_gd_in (i := 530) (by decide +kernel) rfl
theorem wd_531 : ((Jvm.Cond.code ({ cls := "TripleDesk$Tokens", name := "pass", desc := "()V" } : Jvm.MethodName) prog_11_method_7_code (1 : Nat) (Option.none : Option Jvm.ClassFile.FieldType))) ∈ lw_gd := lw_gd_in (i := 531) (by decide +kernel) rfl
theorem wd_532 : ((Jvm.Cond.methodLink "TripleDesk$Reader" (20 : Nat) ({ cls := "TripleDesk$Nodes", name := "clear", desc := "()V" } : Jvm.MethodName))) ∈ lw_gd := lw_gd_in (i := 532) (by decide +kernel) rfl
theorem wd_533 : ((Jvm.Cond.instanceMethod ({ cls := "TripleDesk$Nodes", name := "clear", desc := "()V" } : Jvm.MethodName))) ∈ lw_gd := lw_gd_in (i := 533) (by decide +kernel) rfl
theorem wd_534 : ((Jvm.Cond.selects "TripleDesk$Nodes" ({ cls := "TripleDesk$Nodes", name := "clear", desc := "()V" } : Jvm.MethodName) ({ cls := "TripleDesk$Nodes", name := "clear", desc := "()V" } : Jvm.MethodName))) ∈ lw_gd := lw_gd_in (i := 534) (by decide +kernel) rfl
theorem wd_535 : ((Jvm.Cond.code ({ cls := "TripleDesk$Nodes", name := "clear", desc := "()V" } : Jvm.MethodName) prog_6_method_2_code (1 : Nat) (Option.none : Option Jvm.ClassFile.FieldType))) ∈ lw_gd := lw_gd_in (i := 535) (by decide +kernel) rfl
theorem wd_536 : ((Jvm.Cond.methodLink "TripleDesk$Reader" (29 : Nat) ({ cls := "TripleDesk$Reader", name := "condition", desc := "(Z)I" } : Jvm.MethodName))) ∈ lw_gd := lw_gd_in (i := 536) (by decide +kernel) rfl
theorem wd_538 : ((Jvm.Cond.instanceMethod ({ cls := "TripleDesk$Reader", name := "condition", desc := "(Z)I" } : Jvm.MethodName))) ∈ lw_gd := lw_gd_in (i := 538) (by decide +kernel) rfl
theorem wd_539 : ((Jvm.Cond.code ({ cls := "TripleDesk$Reader", name := "condition", desc := "(Z)I" } : Jvm.MethodName) prog_9_method_9_code (2 : Nat) (Option.some Jvm.ClassFile.FieldType.int))) ∈ lw_gd := lw_gd_in (i := 539) (by decide +kernel) rfl
theorem wd_540 : ((Jvm.Cond.methodLink "TripleDesk$Reader" (126 : Nat) ({ cls := "TripleDesk$Reader", name := "ors", desc := "(I)I" } : Jvm.MethodName))) ∈ lw_gd := lw_gd_in (i := 540) (by decide +kernel) rfl
theorem wd_542 : ((Jvm.Cond.instanceMethod ({ cls := "TripleDesk$Reader", name := "ors", desc := "(I)I" } : Jvm.MethodName))) ∈ lw_gd := lw_gd_in (i := 542) (by decide +kernel) rfl
theorem wd_543 : ((Jvm.Cond.code ({ cls := "TripleDesk$Reader", name := "ors", desc := "(I)I" } : Jvm.MethodName) prog_9_method_10_code (4 : Nat) (Option.some Jvm.ClassFile.FieldType.int))) ∈ lw_gd := lw_gd_in (i := 543) (by decide +kernel) rfl
theorem wd_544 : ((Jvm.Cond.methodLink "TripleDesk$Reader" (129 : Nat) ({ cls := "TripleDesk$Reader", name := "ands", desc := "(I)I" } : Jvm.MethodName))) ∈ lw_gd := lw_gd_in (i := 544) (by decide +kernel) rfl
theorem wd_546 : ((Jvm.Cond.instanceMethod ({ cls := "TripleDesk$Reader", name := "ands", desc := "(I)I" } : Jvm.MethodName))) ∈ lw_gd := lw_gd_in (i := 546) (by decide +kernel) rfl
theorem wd_547 : ((Jvm.Cond.code ({ cls := "TripleDesk$Reader", name := "ands", desc := "(I)I" } : Jvm.MethodName) prog_9_method_11_code (4 : Nat) (Option.some Jvm.ClassFile.FieldType.int))) ∈ lw_gd := lw_gd_in (i := 547) (by decide +kernel) rfl
theorem wd_548 : ((Jvm.Cond.methodLink "TripleDesk$Reader" (135 : Nat) ({ cls := "TripleDesk$Reader", name := "part", desc := "(I)I" } : Jvm.MethodName))) ∈ lw_gd := lw_gd_in (i := 548) (by decide +kernel) rfl
theorem wd_550 : ((Jvm.Cond.instanceMethod ({ cls := "TripleDesk$Reader", name := "part", desc := "(I)I" } : Jvm.MethodName))) ∈ lw_gd := lw_gd_in (i := 550) (by decide +kernel) rfl
theorem wd_551 : ((Jvm.Cond.code ({ cls := "TripleDesk$Reader", name := "part", desc := "(I)I" } : Jvm.MethodName) prog_9_method_12_code (4 : Nat) (Option.some Jvm.ClassFile.FieldType.int))) ∈ lw_gd := lw_gd_in (i := 551) (by decide +kernel) rfl
theorem wd_552 : ((Jvm.Cond.methodLink "TripleDesk$Reader" (138 : Nat) ({ cls := "TripleDesk$Reader", name := "atom", desc := "()I" } : Jvm.MethodName))) ∈ lw_gd := lw_gd_in (i := 552) (by decide +kernel) rfl
theorem wd_554 : ((Jvm.Cond.instanceMethod ({ cls := "TripleDesk$Reader", name := "atom", desc := "()I" } : Jvm.MethodName))) ∈ lw_gd := lw_gd_in (i := 554) (by decide +kernel) rfl
theorem wd_555 : ((Jvm.Cond.code ({ cls := "TripleDesk$Reader", name := "atom", desc := "()I" } : Jvm.MethodName) prog_9_method_13_code (3 : Nat) (Option.some Jvm.ClassFile.FieldType.int))) ∈ lw_gd := lw_gd_in (i := 555) (by decide +kernel) rfl
theorem wd_556 : ((Jvm.Cond.methodLink "TripleDesk$Reader" (67 : Nat) ({ cls := "TripleDesk$Tokens", name := "refuse", desc := "()V" } : Jvm.MethodName))) ∈ lw_gd := lw_gd_in (i := 556) (by decide +kernel) rfl
theorem wd_557 : ((Jvm.Cond.instanceMethod ({ cls := "TripleDesk$Tokens", name := "refuse", desc := "()V" } : Jvm.MethodName))) ∈ lw_gd := lw_gd_in (i := 557) (by decide +kernel) rfl
theorem wd_558 : ((Jvm.Cond.selects "TripleDesk$Tokens" ({ cls := "TripleDesk$Tokens", name := "refuse", desc := "()V" } : Jvm.MethodName) ({ cls := "TripleDesk$Tokens", name := "refuse", desc := "()V" } : Jvm.MethodName))) ∈ lw_gd := lw_gd_in (i := 558) (by decide +kernel) rfl
theorem wd_559 : ((Jvm.Cond.code ({ cls := "TripleDesk$Tokens", name := "refuse", desc := "()V" } : Jvm.MethodName) prog_11_method_6_code (1 : Nat) (Option.none : Option Jvm.ClassFile.FieldType))) ∈ lw_gd := lw_gd_in (i := 559) (by decide +kernel) rfl
theorem wd_560 : ((Jvm.Cond.methodLink "TripleDesk$Reader" (105 : Nat) ({ cls := "TripleDesk$Reader", name := "term", desc := "(Z)I" } : Jvm.MethodName))) ∈ lw_gd := lw_gd_in (i := 560) (by decide +kernel) rfl
theorem wd_562 : ((Jvm.Cond.instanceMethod ({ cls := "TripleDesk$Reader", name := "term", desc := "(Z)I" } : Jvm.MethodName))) ∈ lw_gd := lw_gd_in (i := 562) (by decide +kernel) rfl
theorem wd_563 : ((Jvm.Cond.code ({ cls := "TripleDesk$Reader", name := "term", desc := "(Z)I" } : Jvm.MethodName) prog_9_method_14_code (5 : Nat) (Option.some Jvm.ClassFile.FieldType.int))) ∈ lw_gd := lw_gd_in (i := 563) (by decide +kernel) rfl
theorem wd_564 : ((Jvm.Cond.methodLink "TripleDesk$Reader" (56 : Nat) ({ cls := "TripleDesk$Tokens", name := "pass", desc := "()V" } : Jvm.MethodName))) ∈ lw_gd := lw_gd_in (i := 564) (by decide +kernel) rfl
theorem wd_565 : ((Jvm.Cond.methodLink "TripleDesk$Reader" (141 : Nat) ({ cls := "TripleDesk$Reader", name := "packed", desc := "(II)I" } : Jvm.MethodName))) ∈ lw_gd := lw_gd_in (i := 565) (by decide +kernel) rfl
theorem wd_566 : ((Jvm.Cond.static ({ cls := "TripleDesk$Reader", name := "packed", desc := "(II)I" } : Jvm.MethodName))) ∈ lw_gd := lw_gd_in (i := 566) (by decide +kernel) rfl
theorem wd_567 : ((Jvm.Cond.code ({ cls := "TripleDesk$Reader", name := "packed", desc := "(II)I" } : Jvm.MethodName) prog_9_method_15_code (2 : Nat) (Option.some Jvm.ClassFile.FieldType.int))) ∈ lw_gd := lw_gd_in (i := 567) (by decide +kernel) rfl
theorem wd_568 : ((Jvm.Cond.methodLink "TripleDesk$Reader" (95 : Nat) ({ cls := "TripleDesk$Tokens", name := "need", desc := "(I)V" } : Jvm.MethodName))) ∈ lw_gd := lw_gd_in (i := 568) (by decide +kernel) rfl
theorem wd_569 : ((Jvm.Cond.instanceMethod ({ cls := "TripleDesk$Tokens", name := "need", desc := "(I)V" } : Jvm.MethodName))) ∈ lw_gd := lw_gd_in (i := 569) (by decide +kernel) rfl
theorem wd_570 : ((Jvm.Cond.selects "TripleDesk$Tokens" ({ cls := "TripleDesk$Tokens", name := "need", desc := "(I)V" } : Jvm.MethodName) ({ cls := "TripleDesk$Tokens", name := "need", desc := "(I)V" } : Jvm.MethodName))) ∈ lw_gd := lw_gd_in (i := 570) (by decide +kernel) rfl
theorem wd_571 : ((Jvm.Cond.code ({ cls := "TripleDesk$Tokens", name := "need", desc := "(I)V" } : Jvm.MethodName) prog_11_method_5_code (2 : Nat) (Option.none : Option Jvm.ClassFile.FieldType))) ∈ lw_gd := lw_gd_in (i := 571) (by decide +kernel) rfl
theorem wd_572 : ((Jvm.Cond.methodLink "TripleDesk$Tokens" (45 : Nat) ({ cls := "TripleDesk$Tokens", name := "refuse", desc := "()V" } : Jvm.MethodName))) ∈ lw_gd := lw_gd_in (i := 572) (by decide +kernel) rfl
theorem wd_573 : ((Jvm.Cond.methodLink "TripleDesk$Reader" (132 : Nat) ({ cls := "TripleDesk$Nodes", name := "add", desc := "(III)I" } : Jvm.MethodName))) ∈ lw_gd := lw_gd_in (i := 573) (by decide +kernel) rfl
theorem wd_574 : ((Jvm.Cond.methodLink "TripleDesk$Reader" (33 : Nat) ({ cls := "TripleDesk$Tokens", name := "answer", desc := "()I" } : Jvm.MethodName))) ∈ lw_gd := lw_gd_in (i := 574) (by decide +kernel) rfl
theorem wd_575 : ((Jvm.Cond.instanceMethod ({ cls := "TripleDesk$Tokens", name := "answer", desc := "()I" } : Jvm.MethodName))) ∈ lw_gd := lw_gd_in (i := 575) (by decide +kernel) rfl
theorem wd_576 : ((Jvm.Cond.selects "TripleDesk$Tokens" ({ cls := "TripleDesk$Tokens", name := "answer", desc := "()I" } : Jvm.MethodName) ({ cls := "TripleDesk$Tokens", name := "answer", desc := "()I" } : Jvm.MethodName))) ∈ lw_gd := lw_gd_in (i := 576) (by decide +kernel) rfl
theorem wd_577 : ((Jvm.Cond.code ({ cls := "TripleDesk$Tokens", name := "answer", desc := "()I" } : Jvm.MethodName) prog_11_method_4_code (1 : Nat) (Option.some Jvm.ClassFile.FieldType.int))) ∈ lw_gd := lw_gd_in (i := 577) (by decide +kernel) rfl
theorem wd_593 : ((Jvm.Cond.methodLink "TripleDeskLaw" (70 : Nat) ({ cls := "TripleDesk", name := "post", desc := "()I" } : Jvm.MethodName))) ∈ lw_gd := lw_gd_in (i := 593) (by decide +kernel) rfl
theorem wd_594 : ((Jvm.Cond.instanceMethod ({ cls := "TripleDesk", name := "post", desc := "()I" } : Jvm.MethodName))) ∈ lw_gd := lw_gd_in (i := 594) (by decide +kernel) rfl
theorem wd_595 : ((Jvm.Cond.selects "TripleDesk" ({ cls := "TripleDesk", name := "post", desc := "()I" } : Jvm.MethodName) ({ cls := "TripleDesk", name := "post", desc := "()I" } : Jvm.MethodName))) ∈ lw_gd := lw_gd_in (i := 595) (by decide +kernel) rfl
theorem wd_596 : ((Jvm.Cond.code ({ cls := "TripleDesk", name := "post", desc := "()I" } : Jvm.MethodName) prog_1_method_4_code (3 : Nat) (Option.some Jvm.ClassFile.FieldType.int))) ∈ lw_gd := lw_gd_in (i := 596) (by decide +kernel) rfl
theorem wd_597 : ((Jvm.Cond.methodLink "TripleDeskLaw" (74 : Nat) ({ cls := "TripleDesk", name := "program", desc := "()I" } : Jvm.MethodName))) ∈ lw_gd := lw_gd_in (i := 597) (by decide +kernel) rfl
theorem wd_598 : ((Jvm.Cond.instanceMethod ({ cls := "TripleDesk", name := "program", desc := "()I" } : Jvm.MethodName))) ∈ lw_gd := lw_gd_in (i := 598) (by decide +kernel) rfl
theorem wd_599 : ((Jvm.Cond.selects "TripleDesk" ({ cls := "TripleDesk", name := "program", desc := "()I" } : Jvm.MethodName) ({ cls := "TripleDesk", name := "program", desc := "()I" } : Jvm.MethodName))) ∈ lw_gd := lw_gd_in (i := 599) (by decide +kernel) rfl
theorem wd_600 : ((Jvm.Cond.code ({ cls := "TripleDesk", name := "program", desc := "()I" } : Jvm.MethodName) prog_1_method_5_code (3 : Nat) (Option.some Jvm.ClassFile.FieldType.int))) ∈ lw_gd := lw_gd_in (i := 600) (by decide +kernel) rfl
theorem wd_601 : ((Jvm.Cond.methodLink "TripleDesk" (98 : Nat) ({ cls := "TripleDesk$Reader", name := "takeProgram", desc := "(LTripleDesk$Listing;)I" } : Jvm.MethodName))) ∈ lw_gd := lw_gd_in (i := 601) (by decide +kernel) rfl
theorem wd_602 : ((Jvm.Cond.instanceMethod ({ cls := "TripleDesk$Reader", name := "takeProgram", desc := "(LTripleDesk$Listing;)I" } : Jvm.MethodName))) ∈ lw_gd := lw_gd_in (i := 602) (by decide +kernel) rfl
theorem wd_603 : ((Jvm.Cond.selects "TripleDesk$Reader" ({ cls := "TripleDesk$Reader", name := "takeProgram", desc := "(LTripleDesk$Listing;)I" } : Jvm.MethodName) ({ cls := "TripleDesk$Reader", name := "takeProgram", desc := "(LTripleDesk$Listing;)I" } : Jvm.MethodName))) ∈ lw_gd := lw_gd_in (i := 603) (by decide +kernel) rfl
theorem wd_604 : ((Jvm.Cond.code ({ cls := "TripleDesk$Reader", name := "takeProgram", desc := "(LTripleDesk$Listing;)I" } : Jvm.MethodName) prog_9_method_3_code (2 : Nat) (Option.some Jvm.ClassFile.FieldType.int))) ∈ lw_gd := lw_gd_in (i := 604) (by decide +kernel) rfl
theorem wd_605 : ((Jvm.Cond.methodLink "TripleDesk$Reader" (37 : Nat) ({ cls := "TripleDesk$Listing", name := "clear", desc := "()V" } : Jvm.MethodName))) ∈ lw_gd := lw_gd_in (i := 605) (by decide +kernel) rfl
theorem wd_606 : ((Jvm.Cond.instanceMethod ({ cls := "TripleDesk$Listing", name := "clear", desc := "()V" } : Jvm.MethodName))) ∈ lw_gd := lw_gd_in (i := 606) (by decide +kernel) rfl
theorem wd_607 : ((Jvm.Cond.selects "TripleDesk$Listing" ({ cls := "TripleDesk$Listing", name := "clear", desc := "()V" } : Jvm.MethodName) ({ cls := "TripleDesk$Listing", name := "clear", desc := "()V" } : Jvm.MethodName))) ∈ lw_gd := lw_gd_in (i := 607) (by decide +kernel) rfl
theorem wd_608 : ((Jvm.Cond.code ({ cls := "TripleDesk$Listing", name := "clear", desc := "()V" } : Jvm.MethodName) prog_4_method_2_code (1 : Nat) (Option.none : Option Jvm.ClassFile.FieldType))) ∈ lw_gd := lw_gd_in (i := 608) (by decide +kernel) rfl
theorem wd_609 : ((Jvm.Cond.methodLink "TripleDesk$Listing" (54 : Nat) ({ cls := "TripleDesk$Nodes", name := "clear", desc := "()V" } : Jvm.MethodName))) ∈ lw_gd := lw_gd_in (i := 609) (by decide +kernel) rfl
theorem wd_610 : ((Jvm.Cond.methodLink "TripleDesk$Listing" (73 : Nat) ({ cls := "TripleDesk$Listing", name := "addClaim", desc := "(II)V" } : Jvm.MethodName))) ∈ lw_gd := lw_gd_in (i := 610) (by decide +kernel) rfl
theorem wd_611 : ((Jvm.Cond.instanceMethod ({ cls := "TripleDesk$Listing", name := "addClaim", desc := "(II)V" } : Jvm.MethodName))) ∈ lw_gd := lw_gd_in (i := 611) (by decide +kernel) rfl
theorem wd_612 : ((Jvm.Cond.selects "TripleDesk$Listing" ({ cls := "TripleDesk$Listing", name := "addClaim", desc := "(II)V" } : Jvm.MethodName) ({ cls := "TripleDesk$Listing", name := "addClaim", desc := "(II)V" } : Jvm.MethodName))) ∈ lw_gd := lw_gd_in (i := 612) (by decide +kernel) rfl
theorem wd_613 : ((Jvm.Cond.code ({ cls := "TripleDesk$Listing", name := "addClaim", desc := "(II)V" } : Jvm.MethodName) prog_4_method_6_code (3 : Nat) (Option.none : Option Jvm.ClassFile.FieldType))) ∈ lw_gd := lw_gd_in (i := 613) (by decide +kernel) rfl
theorem wd_614 : ((Jvm.Cond.methodLink "TripleDesk$Reader" (45 : Nat) ({ cls := "TripleDesk$Reader", name := "statements", desc := "(I)I" } : Jvm.MethodName))) ∈ lw_gd := lw_gd_in (i := 614) (by decide +kernel) rfl
theorem wd_616 : ((Jvm.Cond.instanceMethod ({ cls := "TripleDesk$Reader", name := "statements", desc := "(I)I" } : Jvm.MethodName))) ∈ lw_gd := lw_gd_in (i := 616) (by decide +kernel) rfl
theorem wd_617 : ((Jvm.Cond.code ({ cls := "TripleDesk$Reader", name := "statements", desc := "(I)I" } : Jvm.MethodName) prog_9_method_4_code (6 : Nat) (Option.some Jvm.ClassFile.FieldType.int))) ∈ lw_gd := lw_gd_in (i := 617) (by decide +kernel) rfl
theorem wd_618 : ((Jvm.Cond.methodLink "TripleDesk$Reader" (49 : Nat) ({ cls := "TripleDesk$Reader", name := "statement", desc := "(I)I" } : Jvm.MethodName))) ∈ lw_gd := lw_gd_in (i := 618) (by decide +kernel) rfl
theorem wd_620 : ((Jvm.Cond.instanceMethod ({ cls := "TripleDesk$Reader", name := "statement", desc := "(I)I" } : Jvm.MethodName))) ∈ lw_gd := lw_gd_in (i := 620) (by decide +kernel) rfl
theorem wd_621 : ((Jvm.Cond.code ({ cls := "TripleDesk$Reader", name := "statement", desc := "(I)I" } : Jvm.MethodName) prog_9_method_5_code (5 : Nat) (Option.some Jvm.ClassFile.FieldType.int))) ∈ lw_gd := lw_gd_in (i := 621) (by decide +kernel) rfl
theorem wd_622 : ((Jvm.Cond.methodLink "TripleDesk$Reader" (63 : Nat) ({ cls := "TripleDesk$Listing", name := "admits", desc := "(I)Z" } : Jvm.MethodName))) ∈ lw_gd := lw_gd_in (i := 622) (by decide +kernel) rfl
theorem wd_623 : ((Jvm.Cond.instanceMethod ({ cls := "TripleDesk$Listing", name := "admits", desc := "(I)Z" } : Jvm.MethodName))) ∈ lw_gd := lw_gd_in (i := 623) (by decide +kernel) rfl
theorem wd_624 : ((Jvm.Cond.selects "TripleDesk$Listing" ({ cls := "TripleDesk$Listing", name := "admits", desc := "(I)Z" } : Jvm.MethodName) ({ cls := "TripleDesk$Listing", name := "admits", desc := "(I)Z" } : Jvm.MethodName))) ∈ lw_gd := lw_gd_in (i := 624) (by decide +kernel) rfl
theorem wd_625 : ((Jvm.Cond.code ({ cls := "TripleDesk$Listing", name := "admits", desc := "(I)Z" } : Jvm.MethodName) prog_4_method_3_code (2 : Nat) (Option.some Jvm.ClassFile.FieldType.boolean))) ∈ lw_gd := lw_gd_in (i := 625) (by decide +kernel) rfl
theorem wd_654 : ((Jvm.Cond.methodLink "TripleDeskLaw" (78 : Nat) ({ cls := "TripleDeskLaw", name := "conditions", desc := "(LTripleDesk;[J)I" } : Jvm.MethodName))) ∈ lw_gd := lw_gd_in (i := 654) (by decide +kernel) rfl
theorem wd_655 : ((Jvm.Cond.static ({ cls := "TripleDeskLaw", name := "conditions", desc := "(LTripleDesk;[J)I" } : Jvm.MethodName))) ∈ lw_gd := lw_gd_in (i := 655) (by decide +kernel) rfl
theorem wd_656 : ((Jvm.Cond.codeWith ({ cls := "TripleDeskLaw", name := "conditions", desc := "(LTripleDesk;[J)I" } : Jvm.MethodName) method_3_code (3 : Nat) (Option.some Jvm.ClassFile.FieldType.int) [((0 : Nat), (8 : Nat), (11 : Nat), (13 : Nat))])) ∈ lw_gd := lw_gd_in (i := 656) (by decide +kernel) rfl
theorem wd_657 : ((Jvm.Cond.classLink "TripleDeskLaw" (13 : Nat) "java/lang/IllegalStateException")) ∈ lw_gd := lw_gd_in (i := 657) (by decide +kernel) rfl
theorem wd_658 : ((Jvm.Cond.methodLink "TripleDeskLaw" (7 : Nat) ({ cls := "TripleDesk", name := "conditions", desc := "()I" } : Jvm.MethodName))) ∈ lw_gd := lw_gd_in (i := 658) (by decide +kernel) rfl
theorem wd_659 : ((Jvm.Cond.instanceMethod ({ cls := "TripleDesk", name := "conditions", desc := "()I" } : Jvm.MethodName))) ∈ lw_gd := lw_gd_in (i := 659) (by decide +kernel) rfl
theorem wd_660 : ((Jvm.Cond.selects "TripleDesk" ({ cls := "TripleDesk", name := "conditions", desc := "()I" } : Jvm.MethodName) ({ cls := "TripleDesk", name := "conditions", desc := "()I" } : Jvm.MethodName))) ∈ lw_gd := lw_gd_in (i := 660) (by decide +kernel) rfl
theorem wd_661 : ((Jvm.Cond.code ({ cls := "TripleDesk", name := "conditions", desc := "()I" } : Jvm.MethodName) prog_1_method_6_code (1 : Nat) (Option.some Jvm.ClassFile.FieldType.int))) ∈ lw_gd := lw_gd_in (i := 661) (by decide +kernel) rfl
theorem wd_662 : ((Jvm.Cond.methodLink "TripleDesk" (109 : Nat) ({ cls := "TripleDesk", name := "needProgram", desc := "()V" } : Jvm.MethodName))) ∈ lw_gd := lw_gd_in (i := 662) (by decide +kernel) rfl
theorem wd_664 : ((Jvm.Cond.instanceMethod ({ cls := "TripleDesk", name := "needProgram", desc := "()V" } : Jvm.MethodName))) ∈ lw_gd := lw_gd_in (i := 664) (by decide +kernel) rfl
theorem wd_665 : ((Jvm.Cond.code ({ cls := "TripleDesk", name := "needProgram", desc := "()V" } : Jvm.MethodName) prog_1_method_17_code (1 : Nat) (Option.none : Option Jvm.ClassFile.FieldType))) ∈ lw_gd := lw_gd_in (i := 665) (by decide +kernel) rfl
theorem wd_666 : ((Jvm.Cond.classLink "TripleDesk" (147 : Nat) "java/lang/IllegalStateException")) ∈ lw_gd := lw_gd_in (i := 666) (by decide +kernel) rfl
theorem wd_729 : ((Jvm.Cond.methodLink "TripleDeskLaw" (87 : Nat) ({ cls := "TripleDeskLaw", name := "about", desc := "(LTripleDesk;II[J)I" } : Jvm.MethodName))) ∈ lw_gd := lw_gd_in (i := 729) (by decide +kernel) rfl
theorem wd_730 : ((Jvm.Cond.static ({ cls := "TripleDeskLaw", name := "about", desc := "(LTripleDesk;II[J)I" } : Jvm.MethodName))) ∈ lw_gd := lw_gd_in (i := 730) (by decide +kernel) rfl
theorem wd_731 : ((Jvm.Cond.codeWith ({ cls := "TripleDeskLaw", name := "about", desc := "(LTripleDesk;II[J)I" } : Jvm.MethodName) method_4_code (5 : Nat) (Option.some Jvm.ClassFile.FieldType.int) [((0 : Nat), (10 : Nat), (13 : Nat), (13 : Nat)), ((0 : Nat), (10 : Nat), (17 : Nat), (19 : Nat))])) ∈ lw_gd := lw_gd_in (i := 731) (by decide +kernel) rfl
theorem wd_732 : ((Jvm.Cond.classLink "TripleDeskLaw" (19 : Nat) "java/lang/IndexOutOfBoundsException")) ∈ lw_gd := lw_gd_in (i := 732) (by decide +kernel) rfl
theorem wd_733 : ((Jvm.Cond.methodLink "TripleDeskLaw" (15 : Nat) ({ cls := "TripleDesk", name := "about", desc := "(II)I" } : Jvm.MethodName))) ∈ lw_gd := lw_gd_in (i := 733) (by decide +kernel) rfl
theorem wd_734 : ((Jvm.Cond.instanceMethod ({ cls := "TripleDesk", name := "about", desc := "(II)I" } : Jvm.MethodName))) ∈ lw_gd := lw_gd_in (i := 734) (by decide +kernel) rfl
theorem wd_735 : ((Jvm.Cond.selects "TripleDesk" ({ cls := "TripleDesk", name := "about", desc := "(II)I" } : Jvm.MethodName) ({ cls := "TripleDesk", name := "about", desc := "(II)I" } : Jvm.MethodName))) ∈ lw_gd := lw_gd_in (i := 735) (by decide +kernel) rfl
theorem wd_736 : ((Jvm.Cond.code ({ cls := "TripleDesk", name := "about", desc := "(II)I" } : Jvm.MethodName) prog_1_method_7_code (3 : Nat) (Option.some Jvm.ClassFile.FieldType.int))) ∈ lw_gd := lw_gd_in (i := 736) (by decide +kernel) rfl
theorem wd_737 : ((Jvm.Cond.methodLink "TripleDesk" (116 : Nat) ({ cls := "TripleDesk", name := "needClaim", desc := "(I)V" } : Jvm.MethodName))) ∈ lw_gd := lw_gd_in (i := 737) (by decide +kernel) rfl
theorem wd_739 : ((Jvm.Cond.instanceMethod ({ cls := "TripleDesk", name := "needClaim", desc := "(I)V" } : Jvm.MethodName))) ∈ lw_gd := lw_gd_in (i := 739) (by decide +kernel) rfl
theorem wd_740 : ((Jvm.Cond.code ({ cls := "TripleDesk", name := "needClaim", desc := "(I)V" } : Jvm.MethodName) prog_1_method_18_code (2 : Nat) (Option.none : Option Jvm.ClassFile.FieldType))) ∈ lw_gd := lw_gd_in (i := 740) (by decide +kernel) rfl
theorem wd_741 : ((Jvm.Cond.classLink "TripleDesk" (140 : Nat) "java/lang/IndexOutOfBoundsException")) ∈ lw_gd := lw_gd_in (i := 741) (by decide +kernel) rfl
theorem wd_770 : ((Jvm.Cond.instanceMethod ({ cls := "TripleDesk$Nodes", name := "root", desc := "()I" } : Jvm.MethodName))) ∈ lw_gd := lw_gd_in (i := 770) (by decide +kernel) rfl
theorem wd_771 : ((Jvm.Cond.selects "TripleDesk$Nodes" ({ cls := "TripleDesk$Nodes", name := "root", desc := "()I" } : Jvm.MethodName) ({ cls := "TripleDesk$Nodes", name := "root", desc := "()I" } : Jvm.MethodName))) ∈ lw_gd := lw_gd_in (i := 771) (by decide +kernel) rfl
theorem wd_772 : ((Jvm.Cond.code ({ cls := "TripleDesk$Nodes", name := "root", desc := "()I" } : Jvm.MethodName) prog_6_method_3_code (1 : Nat) (Option.some Jvm.ClassFile.FieldType.int))) ∈ lw_gd := lw_gd_in (i := 772) (by decide +kernel) rfl
theorem wd_882 : ((Jvm.Cond.methodLink "TripleDeskLaw" (91 : Nat) ({ cls := "TripleDeskLaw", name := "valid", desc := "(LTripleDesk;I[J)I" } : Jvm.MethodName))) ∈ lw_gd := lw_gd_in (i := 882) (by decide +kernel) rfl
theorem wd_883 : ((Jvm.Cond.static ({ cls := "TripleDeskLaw", name := "valid", desc := "(LTripleDesk;I[J)I" } : Jvm.MethodName))) ∈ lw_gd := lw_gd_in (i := 883) (by decide +kernel) rfl
theorem wd_884 : ((Jvm.Cond.codeWith ({ cls := "TripleDeskLaw", name := "valid", desc := "(LTripleDesk;I[J)I" } : Jvm.MethodName) method_5_code (4 : Nat) (Option.some Jvm.ClassFile.FieldType.int) [((0 : Nat), (9 : Nat), (12 : Nat), (13 : Nat)), ((0 : Nat), (9 : Nat), (15 : Nat), (19 : Nat))])) ∈ lw_gd := lw_gd_in (i := 884) (by decide +kernel) rfl
theorem wd_885 : ((Jvm.Cond.methodLink "TripleDeskLaw" (21 : Nat) ({ cls := "TripleDesk", name := "valid", desc := "(I)I" } : Jvm.MethodName))) ∈ lw_gd := lw_gd_in (i := 885) (by decide +kernel) rfl
theorem wd_886 : ((Jvm.Cond.instanceMethod ({ cls := "TripleDesk", name := "valid", desc := "(I)I" } : Jvm.MethodName))) ∈ lw_gd := lw_gd_in (i := 886) (by decide +kernel) rfl
theorem wd_887 : ((Jvm.Cond.selects "TripleDesk" ({ cls := "TripleDesk", name := "valid", desc := "(I)I" } : Jvm.MethodName) ({ cls := "TripleDesk", name := "valid", desc := "(I)I" } : Jvm.MethodName))) ∈ lw_gd := lw_gd_in (i := 887) (by decide +kernel) rfl
theorem wd_888 : ((Jvm.Cond.code ({ cls := "TripleDesk", name := "valid", desc := "(I)I" } : Jvm.MethodName) prog_1_method_8_code (2 : Nat) (Option.some Jvm.ClassFile.FieldType.int))) ∈ lw_gd := lw_gd_in (i := 888) (by decide +kernel) rfl
theorem wd_893 : ((Jvm.Cond.methodLink "TripleDeskLaw" (95 : Nat) ({ cls := "TripleDeskLaw", name := "proved", desc := "(LTripleDesk;[J)I" } : Jvm.MethodName))) ∈ lw_gd := lw_gd_in (i := 893) (by decide +kernel) rfl
theorem wd_894 : ((Jvm.Cond.static ({ cls := "TripleDeskLaw", name := "proved", desc := "(LTripleDesk;[J)I" } : Jvm.MethodName))) ∈ lw_gd := lw_gd_in (i := 894) (by decide +kernel) rfl
theorem wd_895 : ((Jvm.Cond.codeWith ({ cls := "TripleDeskLaw", name := "proved", desc := "(LTripleDesk;[J)I" } : Jvm.MethodName) method_6_code (3 : Nat) (Option.some Jvm.ClassFile.FieldType.int) [((0 : Nat), (15 : Nat), (18 : Nat), (13 : Nat))])) ∈ lw_gd := lw_gd_in (i := 895) (by decide +kernel) rfl
theorem wd_896 : ((Jvm.Cond.methodLink "TripleDeskLaw" (25 : Nat) ({ cls := "TripleDesk", name := "proved", desc := "()Z" } : Jvm.MethodName))) ∈ lw_gd := lw_gd_in (i := 896) (by decide +kernel) rfl
theorem wd_897 : ((Jvm.Cond.instanceMethod ({ cls := "TripleDesk", name := "proved", desc := "()Z" } : Jvm.MethodName))) ∈ lw_gd := lw_gd_in (i := 897) (by decide +kernel) rfl
theorem wd_898 : ((Jvm.Cond.selects "TripleDesk" ({ cls := "TripleDesk", name := "proved", desc := "()Z" } : Jvm.MethodName) ({ cls := "TripleDesk", name := "proved", desc := "()Z" } : Jvm.MethodName))) ∈ lw_gd := lw_gd_in (i := 898) (by decide +kernel) rfl
theorem wd_899 : ((Jvm.Cond.code ({ cls := "TripleDesk", name := "proved", desc := "()Z" } : Jvm.MethodName) prog_1_method_9_code (3 : Nat) (Option.some Jvm.ClassFile.FieldType.boolean))) ∈ lw_gd := lw_gd_in (i := 899) (by decide +kernel) rfl
theorem wd_900 : ((Jvm.Cond.methodLink "TripleDeskLaw" (98 : Nat) ({ cls := "TripleDeskLaw", name := "counter", desc := "(LTripleDesk;II[J)I" } : Jvm.MethodName))) ∈ lw_gd := lw_gd_in (i := 900) (by decide +kernel) rfl
theorem wd_901 : ((Jvm.Cond.static ({ cls := "TripleDeskLaw", name := "counter", desc := "(LTripleDesk;II[J)I" } : Jvm.MethodName))) ∈ lw_gd := lw_gd_in (i := 901) (by decide +kernel) rfl
theorem wd_902 : ((Jvm.Cond.codeWith ({ cls := "TripleDeskLaw", name := "counter", desc := "(LTripleDesk;II[J)I" } : Jvm.MethodName) method_7_code (5 : Nat) (Option.some Jvm.ClassFile.FieldType.int) [((0 : Nat), (10 : Nat), (13 : Nat), (13 : Nat)), ((0 : Nat), (10 : Nat), (17 : Nat), (19 : Nat))])) ∈ lw_gd := lw_gd_in (i := 902) (by decide +kernel) rfl
theorem wd_903 : ((Jvm.Cond.methodLink "TripleDeskLaw" (29 : Nat) ({ cls := "TripleDesk", name := "counter", desc := "(II)I" } : Jvm.MethodName))) ∈ lw_gd := lw_gd_in (i := 903) (by decide +kernel) rfl
theorem wd_904 : ((Jvm.Cond.instanceMethod ({ cls := "TripleDesk", name := "counter", desc := "(II)I" } : Jvm.MethodName))) ∈ lw_gd := lw_gd_in (i := 904) (by decide +kernel) rfl
theorem wd_905 : ((Jvm.Cond.selects "TripleDesk" ({ cls := "TripleDesk", name := "counter", desc := "(II)I" } : Jvm.MethodName) ({ cls := "TripleDesk", name := "counter", desc := "(II)I" } : Jvm.MethodName))) ∈ lw_gd := lw_gd_in (i := 905) (by decide +kernel) rfl
theorem wd_906 : ((Jvm.Cond.code ({ cls := "TripleDesk", name := "counter", desc := "(II)I" } : Jvm.MethodName) prog_1_method_10_code (3 : Nat) (Option.some Jvm.ClassFile.FieldType.int))) ∈ lw_gd := lw_gd_in (i := 906) (by decide +kernel) rfl
theorem wd_911 : ((Jvm.Cond.methodLink "TripleDeskLaw" (101 : Nat) ({ cls := "TripleDeskLaw", name := "say", desc := "(LTripleDesk;I[J)I" } : Jvm.MethodName))) ∈ lw_gd := lw_gd_in (i := 911) (by decide +kernel) rfl
theorem wd_912 : ((Jvm.Cond.static ({ cls := "TripleDeskLaw", name := "say", desc := "(LTripleDesk;I[J)I" } : Jvm.MethodName))) ∈ lw_gd := lw_gd_in (i := 912) (by decide +kernel) rfl
theorem wd_913 : ((Jvm.Cond.codeWith ({ cls := "TripleDeskLaw", name := "say", desc := "(LTripleDesk;I[J)I" } : Jvm.MethodName) method_8_code (4 : Nat) (Option.some Jvm.ClassFile.FieldType.int) [((0 : Nat), (9 : Nat), (12 : Nat), (13 : Nat)), ((0 : Nat), (9 : Nat), (15 : Nat), (19 : Nat))])) ∈ lw_gd := lw_gd_in (i := 913) (by decide +kernel) rfl
theorem wd_914 : ((Jvm.Cond.methodLink "TripleDeskLaw" (32 : Nat) ({ cls := "TripleDesk", name := "say", desc := "(I)I" } : Jvm.MethodName))) ∈ lw_gd := lw_gd_in (i := 914) (by decide +kernel) rfl
theorem wd_915 : ((Jvm.Cond.instanceMethod ({ cls := "TripleDesk", name := "say", desc := "(I)I" } : Jvm.MethodName))) ∈ lw_gd := lw_gd_in (i := 915) (by decide +kernel) rfl
theorem wd_916 : ((Jvm.Cond.selects "TripleDesk" ({ cls := "TripleDesk", name := "say", desc := "(I)I" } : Jvm.MethodName) ({ cls := "TripleDesk", name := "say", desc := "(I)I" } : Jvm.MethodName))) ∈ lw_gd := lw_gd_in (i := 916) (by decide +kernel) rfl
theorem wd_917 : ((Jvm.Cond.code ({ cls := "TripleDesk", name := "say", desc := "(I)I" } : Jvm.MethodName) prog_1_method_11_code (2 : Nat) (Option.some Jvm.ClassFile.FieldType.int))) ∈ lw_gd := lw_gd_in (i := 917) (by decide +kernel) rfl
theorem wd_948 : ((Jvm.Cond.methodLink "TripleDeskLaw" (104 : Nat) ({ cls := "TripleDeskLaw", name := "out", desc := "(LTripleDesk;I[J)I" } : Jvm.MethodName))) ∈ lw_gd := lw_gd_in (i := 948) (by decide +kernel) rfl
theorem wd_949 : ((Jvm.Cond.static ({ cls := "TripleDeskLaw", name := "out", desc := "(LTripleDesk;I[J)I" } : Jvm.MethodName))) ∈ lw_gd := lw_gd_in (i := 949) (by decide +kernel) rfl
theorem wd_950 : ((Jvm.Cond.codeWith ({ cls := "TripleDeskLaw", name := "out", desc := "(LTripleDesk;I[J)I" } : Jvm.MethodName) method_9_code (4 : Nat) (Option.some Jvm.ClassFile.FieldType.int) [((0 : Nat), (9 : Nat), (12 : Nat), (19 : Nat))])) ∈ lw_gd := lw_gd_in (i := 950) (by decide +kernel) rfl
theorem wd_951 : ((Jvm.Cond.methodLink "TripleDeskLaw" (35 : Nat) ({ cls := "TripleDesk", name := "out", desc := "(I)I" } : Jvm.MethodName))) ∈ lw_gd := lw_gd_in (i := 951) (by decide +kernel) rfl
theorem wd_952 : ((Jvm.Cond.instanceMethod ({ cls := "TripleDesk", name := "out", desc := "(I)I" } : Jvm.MethodName))) ∈ lw_gd := lw_gd_in (i := 952) (by decide +kernel) rfl
theorem wd_953 : ((Jvm.Cond.selects "TripleDesk" ({ cls := "TripleDesk", name := "out", desc := "(I)I" } : Jvm.MethodName) ({ cls := "TripleDesk", name := "out", desc := "(I)I" } : Jvm.MethodName))) ∈ lw_gd := lw_gd_in (i := 953) (by decide +kernel) rfl
theorem wd_954 : ((Jvm.Cond.code ({ cls := "TripleDesk", name := "out", desc := "(I)I" } : Jvm.MethodName) prog_1_method_12_code (2 : Nat) (Option.some Jvm.ClassFile.FieldType.int))) ∈ lw_gd := lw_gd_in (i := 954) (by decide +kernel) rfl
theorem wd_955 : ((Jvm.Cond.methodLink "TripleDeskLaw" (107 : Nat) ({ cls := "TripleDeskLaw", name := "start", desc := "(LTripleDesk;II)I" } : Jvm.MethodName))) ∈ lw_gd := lw_gd_in (i := 955) (by decide +kernel) rfl
theorem wd_956 : ((Jvm.Cond.static ({ cls := "TripleDeskLaw", name := "start", desc := "(LTripleDesk;II)I" } : Jvm.MethodName))) ∈ lw_gd := lw_gd_in (i := 956) (by decide +kernel) rfl
theorem wd_957 : ((Jvm.Cond.codeWith ({ cls := "TripleDeskLaw", name := "start", desc := "(LTripleDesk;II)I" } : Jvm.MethodName) method_10_code (4 : Nat) (Option.some Jvm.ClassFile.FieldType.int) [((0 : Nat), (6 : Nat), (9 : Nat), (19 : Nat))])) ∈ lw_gd := lw_gd_in (i := 957) (by decide +kernel) rfl
theorem wd_958 : ((Jvm.Cond.methodLink "TripleDeskLaw" (38 : Nat) ({ cls := "TripleDesk", name := "start", desc := "(II)V" } : Jvm.MethodName))) ∈ lw_gd := lw_gd_in (i := 958) (by decide +kernel) rfl
theorem wd_959 : ((Jvm.Cond.instanceMethod ({ cls := "TripleDesk", name := "start", desc := "(II)V" } : Jvm.MethodName))) ∈ lw_gd := lw_gd_in (i := 959) (by decide +kernel) rfl
theorem wd_960 : ((Jvm.Cond.selects "TripleDesk" ({ cls := "TripleDesk", name := "start", desc := "(II)V" } : Jvm.MethodName) ({ cls := "TripleDesk", name := "start", desc := "(II)V" } : Jvm.MethodName))) ∈ lw_gd := lw_gd_in (i := 960) (by decide +kernel) rfl
theorem wd_961 : ((Jvm.Cond.code ({ cls := "TripleDesk", name := "start", desc := "(II)V" } : Jvm.MethodName) prog_1_method_13_code (3 : Nat) (Option.none : Option Jvm.ClassFile.FieldType))) ∈ lw_gd := lw_gd_in (i := 961) (by decide +kernel) rfl
theorem wd_962 : ((Jvm.Cond.methodLink "TripleDesk" (170 : Nat) ({ cls := "TripleDesk", name := "needVariable", desc := "(I)V" } : Jvm.MethodName))) ∈ lw_gd := lw_gd_in (i := 962) (by decide +kernel) rfl
theorem wd_964 : ((Jvm.Cond.instanceMethod ({ cls := "TripleDesk", name := "needVariable", desc := "(I)V" } : Jvm.MethodName))) ∈ lw_gd := lw_gd_in (i := 964) (by decide +kernel) rfl
theorem wd_965 : ((Jvm.Cond.code ({ cls := "TripleDesk", name := "needVariable", desc := "(I)V" } : Jvm.MethodName) prog_1_method_19_code (2 : Nat) (Option.none : Option Jvm.ClassFile.FieldType))) ∈ lw_gd := lw_gd_in (i := 965) (by decide +kernel) rfl
theorem wd_966 : ((Jvm.Cond.methodLink "TripleDeskLaw" (111 : Nat) ({ cls := "TripleDeskLaw", name := "run", desc := "(LTripleDesk;I[J)I" } : Jvm.MethodName))) ∈ lw_gd := lw_gd_in (i := 966) (by decide +kernel) rfl
theorem wd_967 : ((Jvm.Cond.static ({ cls := "TripleDeskLaw", name := "run", desc := "(LTripleDesk;I[J)I" } : Jvm.MethodName))) ∈ lw_gd := lw_gd_in (i := 967) (by decide +kernel) rfl
theorem wd_968 : ((Jvm.Cond.codeWith ({ cls := "TripleDeskLaw", name := "run", desc := "(LTripleDesk;I[J)I" } : Jvm.MethodName) method_11_code (4 : Nat) (Option.some Jvm.ClassFile.FieldType.int) [((0 : Nat), (9 : Nat), (12 : Nat), (13 : Nat)), ((0 : Nat), (9 : Nat), (15 : Nat), (45 : Nat))])) ∈ lw_gd := lw_gd_in (i := 968) (by decide +kernel) rfl
theorem wd_970 : ((Jvm.Cond.methodLink "TripleDeskLaw" (42 : Nat) ({ cls := "TripleDesk", name := "run", desc := "(I)I" } : Jvm.MethodName))) ∈ lw_gd := lw_gd_in (i := 970) (by decide +kernel) rfl
theorem wd_971 : ((Jvm.Cond.instanceMethod ({ cls := "TripleDesk", name := "run", desc := "(I)I" } : Jvm.MethodName))) ∈ lw_gd := lw_gd_in (i := 971) (by decide +kernel) rfl
theorem wd_972 : ((Jvm.Cond.selects "TripleDesk" ({ cls := "TripleDesk", name := "run", desc := "(I)I" } : Jvm.MethodName) ({ cls := "TripleDesk", name := "run", desc := "(I)I" } : Jvm.MethodName))) ∈ lw_gd := lw_gd_in (i := 972) (by decide +kernel) rfl
theorem wd_973 : ((Jvm.Cond.code ({ cls := "TripleDesk", name := "run", desc := "(I)I" } : Jvm.MethodName) prog_1_method_14_code (2 : Nat) (Option.some Jvm.ClassFile.FieldType.int))) ∈ lw_gd := lw_gd_in (i := 973) (by decide +kernel) rfl
theorem wd_997 : ((Jvm.Cond.methodLink "TripleDesk$Runner" (38 : Nat) ({ cls := "TripleDesk$Runner", name := "amount", desc := "(I)J" } : Jvm.MethodName))) ∈ lw_gd := lw_gd_in (i := 997) (by decide +kernel) rfl
theorem wd_999 : ((Jvm.Cond.instanceMethod ({ cls := "TripleDesk$Runner", name := "amount", desc := "(I)J" } : Jvm.MethodName))) ∈ lw_gd := lw_gd_in (i := 999) (by decide +kernel) rfl
theorem wd_1000 : ((Jvm.Cond.code ({ cls := "TripleDesk$Runner", name := "amount", desc := "(I)J" } : Jvm.MethodName) prog_10_method_7_code (5 : Nat) (Option.some Jvm.ClassFile.FieldType.long))) ∈ lw_gd := lw_gd_in (i := 1000) (by decide +kernel) rfl
theorem wd_1003 : ((Jvm.Cond.instanceMethod ({ cls := "TripleDesk$Runner", name := "truth", desc := "(LTripleDesk$Nodes;I)Z" } : Jvm.MethodName))) ∈ lw_gd := lw_gd_in (i := 1003) (by decide +kernel) rfl
theorem wd_1004 : ((Jvm.Cond.selects "TripleDesk$Runner" ({ cls := "TripleDesk$Runner", name := "truth", desc := "(LTripleDesk$Nodes;I)Z" } : Jvm.MethodName) ({ cls := "TripleDesk$Runner", name := "truth", desc := "(LTripleDesk$Nodes;I)Z" } : Jvm.MethodName))) ∈ lw_gd := lw_gd_in (i := 1004) (by decide +kernel) rfl
theorem wd_1005 : ((Jvm.Cond.code ({ cls := "TripleDesk$Runner", name := "truth", desc := "(LTripleDesk$Nodes;I)Z" } : Jvm.MethodName) prog_10_method_5_code (5 : Nat) (Option.some Jvm.ClassFile.FieldType.boolean))) ∈ lw_gd := lw_gd_in (i := 1005) (by decide +kernel) rfl
theorem wd_1006 : ((Jvm.Cond.methodLink "TripleDesk$Runner" (75 : Nat) ({ cls := "TripleDesk$Runner", name := "compare", desc := "(IJJ)Z" } : Jvm.MethodName))) ∈ lw_gd := lw_gd_in (i := 1006) (by decide +kernel) rfl
theorem wd_1007 : ((Jvm.Cond.static ({ cls := "TripleDesk$Runner", name := "compare", desc := "(IJJ)Z" } : Jvm.MethodName))) ∈ lw_gd := lw_gd_in (i := 1007) (by decide +kernel) rfl
theorem wd_1008 : ((Jvm.Cond.code ({ cls := "TripleDesk$Runner", name := "compare", desc := "(IJJ)Z" } : Jvm.MethodName) prog_10_method_6_code (5 : Nat) (Option.some Jvm.ClassFile.FieldType.boolean))) ∈ lw_gd := lw_gd_in (i := 1008) (by decide +kernel) rfl
theorem wd_1009 : ((Jvm.Cond.methodLink "TripleDeskLaw" (114 : Nat) ({ cls := "TripleDeskLaw", name := "value", desc := "(LTripleDesk;I[J)I" } : Jvm.MethodName))) ∈ lw_gd := lw_gd_in (i := 1009) (by decide +kernel) rfl
theorem wd_1010 : ((Jvm.Cond.static ({ cls := "TripleDeskLaw", name := "value", desc := "(LTripleDesk;I[J)I" } : Jvm.MethodName))) ∈ lw_gd := lw_gd_in (i := 1010) (by decide +kernel) rfl
theorem wd_1011 : ((Jvm.Cond.codeWith ({ cls := "TripleDeskLaw", name := "value", desc := "(LTripleDesk;I[J)I" } : Jvm.MethodName) method_12_code (4 : Nat) (Option.some Jvm.ClassFile.FieldType.int) [((0 : Nat), (8 : Nat), (11 : Nat), (19 : Nat))])) ∈ lw_gd := lw_gd_in (i := 1011) (by decide +kernel) rfl
theorem wd_1012 : ((Jvm.Cond.methodLink "TripleDeskLaw" (47 : Nat) ({ cls := "TripleDesk", name := "value", desc := "(I)J" } : Jvm.MethodName))) ∈ lw_gd := lw_gd_in (i := 1012) (by decide +kernel) rfl
theorem wd_1013 : ((Jvm.Cond.instanceMethod ({ cls := "TripleDesk", name := "value", desc := "(I)J" } : Jvm.MethodName))) ∈ lw_gd := lw_gd_in (i := 1013) (by decide +kernel) rfl
theorem wd_1014 : ((Jvm.Cond.selects "TripleDesk" ({ cls := "TripleDesk", name := "value", desc := "(I)J" } : Jvm.MethodName) ({ cls := "TripleDesk", name := "value", desc := "(I)J" } : Jvm.MethodName))) ∈ lw_gd := lw_gd_in (i := 1014) (by decide +kernel) rfl
theorem wd_1015 : ((Jvm.Cond.code ({ cls := "TripleDesk", name := "value", desc := "(I)J" } : Jvm.MethodName) prog_1_method_15_code (2 : Nat) (Option.some Jvm.ClassFile.FieldType.long))) ∈ lw_gd := lw_gd_in (i := 1015) (by decide +kernel) rfl
theorem wd_1016 : ((Jvm.Cond.methodLink "TripleDeskLaw" (117 : Nat) ({ cls := "TripleDeskLaw", name := "holds", desc := "(LTripleDesk;I[J)I" } : Jvm.MethodName))) ∈ lw_gd := lw_gd_in (i := 1016) (by decide +kernel) rfl
theorem wd_1017 : ((Jvm.Cond.static ({ cls := "TripleDeskLaw", name := "holds", desc := "(LTripleDesk;I[J)I" } : Jvm.MethodName))) ∈ lw_gd := lw_gd_in (i := 1017) (by decide +kernel) rfl
theorem wd_1018 : ((Jvm.Cond.codeWith ({ cls := "TripleDeskLaw", name := "holds", desc := "(LTripleDesk;I[J)I" } : Jvm.MethodName) method_13_code (4 : Nat) (Option.some Jvm.ClassFile.FieldType.int) [((0 : Nat), (16 : Nat), (19 : Nat), (19 : Nat))])) ∈ lw_gd := lw_gd_in (i := 1018) (by decide +kernel) rfl
theorem wd_1019 : ((Jvm.Cond.methodLink "TripleDeskLaw" (51 : Nat) ({ cls := "TripleDesk", name := "holds", desc := "(I)Z" } : Jvm.MethodName))) ∈ lw_gd := lw_gd_in (i := 1019) (by decide +kernel) rfl
theorem wd_1020 : ((Jvm.Cond.instanceMethod ({ cls := "TripleDesk", name := "holds", desc := "(I)Z" } : Jvm.MethodName))) ∈ lw_gd := lw_gd_in (i := 1020) (by decide +kernel) rfl
theorem wd_1021 : ((Jvm.Cond.selects "TripleDesk" ({ cls := "TripleDesk", name := "holds", desc := "(I)Z" } : Jvm.MethodName) ({ cls := "TripleDesk", name := "holds", desc := "(I)Z" } : Jvm.MethodName))) ∈ lw_gd := lw_gd_in (i := 1021) (by decide +kernel) rfl
theorem wd_1022 : ((Jvm.Cond.code ({ cls := "TripleDesk", name := "holds", desc := "(I)Z" } : Jvm.MethodName) prog_1_method_16_code (3 : Nat) (Option.some Jvm.ClassFile.FieldType.boolean))) ∈ lw_gd := lw_gd_in (i := 1022) (by decide +kernel) rfl
theorem wd_1023 : ((Jvm.Cond.methodLink "TripleDesk" (184 : Nat) ({ cls := "TripleDesk$Nodes", name := "root", desc := "()I" } : Jvm.MethodName))) ∈ lw_gd := lw_gd_in (i := 1023) (by decide +kernel) rfl
theorem wd_1024 : ((Jvm.Cond.methodLink "TripleDesk" (188 : Nat) ({ cls := "TripleDesk$Runner", name := "truth", desc := "(LTripleDesk$Nodes;I)Z" } : Jvm.MethodName))) ∈ lw_gd := lw_gd_in (i := 1024) (by decide +kernel) rfl
theorem wd_1025 : ((Jvm.Cond.classLink "TripleDeskLaw" (56 : Nat) "TripleDeskModel")) ∈ lw_gd := lw_gd_in (i := 1025) (by decide +kernel) rfl
theorem wd_1026 : ((Jvm.Cond.instantiable "TripleDeskModel" (72 : Nat))) ∈ lw_gd := lw_gd_in (i := 1026) (by decide +kernel) rfl
theorem wd_1027 : ((Jvm.Cond.methodLink "TripleDeskLaw" (58 : Nat) ({ cls := "TripleDeskModel", name := "<init>", desc := "()V" } : Jvm.MethodName))) ∈ lw_gd := lw_gd_in (i := 1027) (by decide +kernel) rfl
theorem wd_1028 : ((Jvm.Cond.instanceMethod ({ cls := "TripleDeskModel", name := "<init>", desc := "()V" } : Jvm.MethodName))) ∈ lw_gd := lw_gd_in (i := 1028) (by decide +kernel) rfl
theorem wd_1029 : ((Jvm.Cond.code ({ cls := "TripleDeskModel", name := "<init>", desc := "()V" } : Jvm.MethodName) prog_13_method_1_code (2 : Nat) (Option.none : Option Jvm.ClassFile.FieldType))) ∈ lw_gd := lw_gd_in (i := 1029) (by decide +kernel) rfl
theorem wd_1030 : ((Jvm.Cond.methodLink "TripleDeskModel" (1 : Nat) ({ cls := "java/lang/Object", name := "<init>", desc := "()V" } : Jvm.MethodName))) ∈ lw_gd := lw_gd_in (i := 1030) (by decide +kernel) rfl
theorem wd_1031 : ((Jvm.Cond.constant "TripleDeskModel" (13 : Nat) (200000 : Int32))) ∈ lw_gd := lw_gd_in (i := 1031) (by decide +kernel) rfl
theorem wd_1032 : ((Jvm.Cond.constant "TripleDeskModel" (93 : Nat) (180000 : Int32))) ∈ lw_gd := lw_gd_in (i := 1032) (by decide +kernel) rfl
theorem wd_1033 : ((Jvm.Cond.methodLink "TripleDeskModel" (144 : Nat) ({ cls := "TripleDeskModel", name := "putAtom", desc := "([IIIIIII)V" } : Jvm.MethodName))) ∈ lw_gd := lw_gd_in (i := 1033) (by decide +kernel) rfl
theorem wd_1034 : ((Jvm.Cond.static ({ cls := "TripleDeskModel", name := "putAtom", desc := "([IIIIIII)V" } : Jvm.MethodName))) ∈ lw_gd := lw_gd_in (i := 1034) (by decide +kernel) rfl
theorem wd_1035 : ((Jvm.Cond.code ({ cls := "TripleDeskModel", name := "putAtom", desc := "([IIIIIII)V" } : Jvm.MethodName) prog_13_method_3_code (7 : Nat) (Option.none : Option Jvm.ClassFile.FieldType))) ∈ lw_gd := lw_gd_in (i := 1035) (by decide +kernel) rfl
theorem wd_1036 : ((Jvm.Cond.fieldLink "TripleDeskModel" (148 : Nat) "TripleDeskModel" "thrown" "I")) ∈ lw_gd := lw_gd_in (i := 1036) (by decide +kernel) rfl
theorem wd_1037 : ((Jvm.Cond.fieldLink "TripleDeskModel" (151 : Nat) "TripleDeskModel" "taped" "I")) ∈ lw_gd := lw_gd_in (i := 1037) (by decide +kernel) rfl
theorem wd_1038 : ((Jvm.Cond.fieldLink "TripleDeskModel" (7 : Nat) "TripleDeskModel" "tape" "[I")) ∈ lw_gd := lw_gd_in (i := 1038) (by decide +kernel) rfl
theorem wd_1039 : ((Jvm.Cond.fieldLink "TripleDeskModel" (156 : Nat) "TripleDeskModel" "size" "I")) ∈ lw_gd := lw_gd_in (i := 1039) (by decide +kernel) rfl
theorem wd_1040 : ((Jvm.Cond.fieldLink "TripleDeskModel" (452 : Nat) "TripleDeskModel" "outSize" "I")) ∈ lw_gd := lw_gd_in (i := 1040) (by decide +kernel) rfl
theorem wd_1041 : ((Jvm.Cond.fieldLink "TripleDeskModel" (14 : Nat) "TripleDeskModel" "out" "[I")) ∈ lw_gd := lw_gd_in (i := 1041) (by decide +kernel) rfl
theorem wd_1042 : ((Jvm.Cond.fieldLink "TripleDeskModel" (178 : Nat) "TripleDeskModel" "kind" "I")) ∈ lw_gd := lw_gd_in (i := 1042) (by decide +kernel) rfl
theorem wd_1043 : ((Jvm.Cond.fieldLink "TripleDeskModel" (181 : Nat) "TripleDeskModel" "value" "I")) ∈ lw_gd := lw_gd_in (i := 1043) (by decide +kernel) rfl
theorem wd_1044 : ((Jvm.Cond.fieldLink "TripleDeskModel" (175 : Nat) "TripleDeskModel" "begin" "I")) ∈ lw_gd := lw_gd_in (i := 1044) (by decide +kernel) rfl
theorem wd_1045 : ((Jvm.Cond.fieldLink "TripleDeskModel" (164 : Nat) "TripleDeskModel" "end" "I")) ∈ lw_gd := lw_gd_in (i := 1045) (by decide +kernel) rfl
theorem wd_1046 : ((Jvm.Cond.fieldLink "TripleDeskModel" (199 : Nat) "TripleDeskModel" "failed" "Z")) ∈ lw_gd := lw_gd_in (i := 1046) (by decide +kernel) rfl
theorem wd_1047 : ((Jvm.Cond.fieldLink "TripleDeskModel" (17 : Nat) "TripleDeskModel" "text" "[I")) ∈ lw_gd := lw_gd_in (i := 1047) (by decide +kernel) rfl
theorem wd_1048 : ((Jvm.Cond.fieldLink "TripleDeskModel" (20 : Nat) "TripleDeskModel" "textSize" "[I")) ∈ lw_gd := lw_gd_in (i := 1048) (by decide +kernel) rfl
theorem wd_1049 : ((Jvm.Cond.fieldLink "TripleDeskModel" (23 : Nat) "TripleDeskModel" "now" "[I")) ∈ lw_gd := lw_gd_in (i := 1049) (by decide +kernel) rfl
theorem wd_1050 : ((Jvm.Cond.fieldLink "TripleDeskModel" (317 : Nat) "TripleDeskModel" "isProgram" "Z")) ∈ lw_gd := lw_gd_in (i := 1050) (by decide +kernel) rfl
theorem wd_1051 : ((Jvm.Cond.fieldLink "TripleDeskModel" (272 : Nat) "TripleDeskModel" "half" "I")) ∈ lw_gd := lw_gd_in (i := 1051) (by decide +kernel) rfl
theorem wd_1052 : ((Jvm.Cond.fieldLink "TripleDeskModel" (26 : Nat) "TripleDeskModel" "items" "[I")) ∈ lw_gd := lw_gd_in (i := 1052) (by decide +kernel) rfl
theorem wd_1053 : ((Jvm.Cond.fieldLink "TripleDeskModel" (29 : Nat) "TripleDeskModel" "op" "[I")) ∈ lw_gd := lw_gd_in (i := 1053) (by decide +kernel) rfl
theorem wd_1054 : ((Jvm.Cond.fieldLink "TripleDeskModel" (32 : Nat) "TripleDeskModel" "number" "[I")) ∈ lw_gd := lw_gd_in (i := 1054) (by decide +kernel) rfl
theorem wd_1055 : ((Jvm.Cond.fieldLink "TripleDeskModel" (35 : Nat) "TripleDeskModel" "target" "[I")) ∈ lw_gd := lw_gd_in (i := 1055) (by decide +kernel) rfl
theorem wd_1056 : ((Jvm.Cond.fieldLink "TripleDeskModel" (38 : Nat) "TripleDeskModel" "termName" "[I")) ∈ lw_gd := lw_gd_in (i := 1056) (by decide +kernel) rfl
theorem wd_1057 : ((Jvm.Cond.fieldLink "TripleDeskModel" (41 : Nat) "TripleDeskModel" "termNumber" "[I")) ∈ lw_gd := lw_gd_in (i := 1057) (by decide +kernel) rfl
theorem wd_1058 : ((Jvm.Cond.fieldLink "TripleDeskModel" (44 : Nat) "TripleDeskModel" "first" "[I")) ∈ lw_gd := lw_gd_in (i := 1058) (by decide +kernel) rfl
theorem wd_1059 : ((Jvm.Cond.fieldLink "TripleDeskModel" (47 : Nat) "TripleDeskModel" "firstSize" "[I")) ∈ lw_gd := lw_gd_in (i := 1059) (by decide +kernel) rfl
theorem wd_1060 : ((Jvm.Cond.fieldLink "TripleDeskModel" (50 : Nat) "TripleDeskModel" "second" "[I")) ∈ lw_gd := lw_gd_in (i := 1060) (by decide +kernel) rfl
theorem wd_1061 : ((Jvm.Cond.fieldLink "TripleDeskModel" (53 : Nat) "TripleDeskModel" "secondSize" "[I")) ∈ lw_gd := lw_gd_in (i := 1061) (by decide +kernel) rfl
theorem wd_1062 : ((Jvm.Cond.fieldLink "TripleDeskModel" (56 : Nat) "TripleDeskModel" "hasVariant" "[Z")) ∈ lw_gd := lw_gd_in (i := 1062) (by decide +kernel) rfl
theorem wd_1063 : ((Jvm.Cond.fieldLink "TripleDeskModel" (60 : Nat) "TripleDeskModel" "ghost" "[I")) ∈ lw_gd := lw_gd_in (i := 1063) (by decide +kernel) rfl
theorem wd_1064 : ((Jvm.Cond.fieldLink "TripleDeskModel" (63 : Nat) "TripleDeskModel" "link" "[I")) ∈ lw_gd := lw_gd_in (i := 1064) (by decide +kernel) rfl
theorem wd_1065 : ((Jvm.Cond.fieldLink "TripleDeskModel" (66 : Nat) "TripleDeskModel" "pool" "[I")) ∈ lw_gd := lw_gd_in (i := 1065) (by decide +kernel) rfl
theorem wd_1066 : ((Jvm.Cond.fieldLink "TripleDeskModel" (69 : Nat) "TripleDeskModel" "pooled" "[I")) ∈ lw_gd := lw_gd_in (i := 1066) (by decide +kernel) rfl
theorem wd_1067 : ((Jvm.Cond.fieldLink "TripleDeskModel" (226 : Nat) "TripleDeskModel" "signs" "I")) ∈ lw_gd := lw_gd_in (i := 1067) (by decide +kernel) rfl
theorem wd_1068 : ((Jvm.Cond.fieldLink "TripleDeskModel" (72 : Nat) "TripleDeskModel" "sign" "[I")) ∈ lw_gd := lw_gd_in (i := 1068) (by decide +kernel) rfl
theorem wd_1069 : ((Jvm.Cond.fieldLink "TripleDeskModel" (229 : Nat) "TripleDeskModel" "stacked" "I")) ∈ lw_gd := lw_gd_in (i := 1069) (by decide +kernel) rfl
theorem wd_1070 : ((Jvm.Cond.fieldLink "TripleDeskModel" (75 : Nat) "TripleDeskModel" "stack" "[I")) ∈ lw_gd := lw_gd_in (i := 1070) (by decide +kernel) rfl
theorem wd_1071 : ((Jvm.Cond.fieldLink "TripleDeskModel" (206 : Nat) "TripleDeskModel" "name" "I")) ∈ lw_gd := lw_gd_in (i := 1071) (by decide +kernel) rfl
theorem wd_1072 : ((Jvm.Cond.fieldLink "TripleDeskModel" (209 : Nat) "TripleDeskModel" "shift" "I")) ∈ lw_gd := lw_gd_in (i := 1072) (by decide +kernel) rfl
theorem wd_1073 : ((Jvm.Cond.fieldLink "TripleDeskModel" (291 : Nat) "TripleDeskModel" "statements" "I")) ∈ lw_gd := lw_gd_in (i := 1073) (by decide +kernel) rfl
theorem wd_1074 : ((Jvm.Cond.fieldLink "TripleDeskModel" (294 : Nat) "TripleDeskModel" "ifs" "I")) ∈ lw_gd := lw_gd_in (i := 1074) (by decide +kernel) rfl
theorem wd_1075 : ((Jvm.Cond.fieldLink "TripleDeskModel" (297 : Nat) "TripleDeskModel" "whiles" "I")) ∈ lw_gd := lw_gd_in (i := 1075) (by decide +kernel) rfl
theorem wd_1076 : ((Jvm.Cond.fieldLink "TripleDeskModel" (285 : Nat) "TripleDeskModel" "variants" "I")) ∈ lw_gd := lw_gd_in (i := 1076) (by decide +kernel) rfl
theorem wd_1077 : ((Jvm.Cond.fieldLink "TripleDeskModel" (288 : Nat) "TripleDeskModel" "open" "I")) ∈ lw_gd := lw_gd_in (i := 1077) (by decide +kernel) rfl
theorem wd_1078 : ((Jvm.Cond.fieldLink "TripleDeskModel" (78 : Nat) "TripleDeskModel" "opened" "[I")) ∈ lw_gd := lw_gd_in (i := 1078) (by decide +kernel) rfl
theorem wd_1081 : ((Jvm.Cond.fieldLink "TripleDeskModel" (81 : Nat) "TripleDeskModel" "conditionKind" "[I")) ∈ lw_gd := lw_gd_in (i := 1081) (by decide +kernel) rfl
theorem wd_1082 : ((Jvm.Cond.fieldLink "TripleDeskModel" (84 : Nat) "TripleDeskModel" "conditionNumber" "[I")) ∈ lw_gd := lw_gd_in (i := 1082) (by decide +kernel) rfl
theorem wd_1083 : ((Jvm.Cond.fieldLink "TripleDeskModel" (87 : Nat) "TripleDeskModel" "conditionAt" "[I")) ∈ lw_gd := lw_gd_in (i := 1083) (by decide +kernel) rfl
theorem wd_1084 : ((Jvm.Cond.fieldLink "TripleDeskModel" (90 : Nat) "TripleDeskModel" "conditionSize" "[I")) ∈ lw_gd := lw_gd_in (i := 1084) (by decide +kernel) rfl
theorem wd_1086 : ((Jvm.Cond.fieldLink "TripleDeskModel" (94 : Nat) "TripleDeskModel" "keep" "[I")) ∈ lw_gd := lw_gd_in (i := 1086) (by decide +kernel) rfl
theorem wd_1088 : ((Jvm.Cond.fieldLink "TripleDeskModel" (97 : Nat) "TripleDeskModel" "top" "[I")) ∈ lw_gd := lw_gd_in (i := 1088) (by decide +kernel) rfl
theorem wd_1090 : ((Jvm.Cond.fieldLink "TripleDeskModel" (100 : Nat) "TripleDeskModel" "work" "[I")) ∈ lw_gd := lw_gd_in (i := 1090) (by decide +kernel) rfl
theorem wd_1091 : ((Jvm.Cond.fieldLink "TripleDeskModel" (103 : Nat) "TripleDeskModel" "aside" "[I")) ∈ lw_gd := lw_gd_in (i := 1091) (by decide +kernel) rfl
theorem wd_1092 : ((Jvm.Cond.fieldLink "TripleDeskModel" (106 : Nat) "TripleDeskModel" "looked" "I")) ∈ lw_gd := lw_gd_in (i := 1092) (by decide +kernel) rfl
theorem wd_1095 : ((Jvm.Cond.fieldLink "TripleDeskModel" (110 : Nat) "TripleDeskModel" "sizeOf" "[I")) ∈ lw_gd := lw_gd_in (i := 1095) (by decide +kernel) rfl
theorem wd_1096 : ((Jvm.Cond.fieldLink "TripleDeskModel" (113 : Nat) "TripleDeskModel" "whenTrue" "[I")) ∈ lw_gd := lw_gd_in (i := 1096) (by decide +kernel) rfl
theorem wd_1097 : ((Jvm.Cond.fieldLink "TripleDeskModel" (116 : Nat) "TripleDeskModel" "whenFalse" "[I")) ∈ lw_gd := lw_gd_in (i := 1097) (by decide +kernel) rfl
theorem wd_1098 : ((Jvm.Cond.fieldLink "TripleDeskModel" (119 : Nat) "TripleDeskModel" "path" "[I")) ∈ lw_gd := lw_gd_in (i := 1098) (by decide +kernel) rfl
theorem wd_1099 : ((Jvm.Cond.fieldLink "TripleDeskModel" (122 : Nat) "TripleDeskModel" "pathRow" "[I")) ∈ lw_gd := lw_gd_in (i := 1099) (by decide +kernel) rfl
theorem wd_1100 : ((Jvm.Cond.fieldLink "TripleDeskModel" (125 : Nat) "TripleDeskModel" "pathTrue" "[Z")) ∈ lw_gd := lw_gd_in (i := 1100) (by decide +kernel) rfl
theorem wd_1101 : ((Jvm.Cond.fieldLink "TripleDeskModel" (128 : Nat) "TripleDeskModel" "bound" "[I")) ∈ lw_gd := lw_gd_in (i := 1101) (by decide +kernel) rfl
theorem wd_1102 : ((Jvm.Cond.fieldLink "TripleDeskModel" (131 : Nat) "TripleDeskModel" "isBound" "[Z")) ∈ lw_gd := lw_gd_in (i := 1102) (by decide +kernel) rfl
theorem wd_1103 : ((Jvm.Cond.fieldLink "TripleDeskModel" (134 : Nat) "TripleDeskModel" "at" "[I")) ∈ lw_gd := lw_gd_in (i := 1103) (by decide +kernel) rfl
theorem wd_1105 : ((Jvm.Cond.fieldLink "TripleDeskModel" (137 : Nat) "TripleDeskModel" "values" "[J")) ∈ lw_gd := lw_gd_in (i := 1105) (by decide +kernel) rfl
theorem wd_1106 : ((Jvm.Cond.fieldLink "TripleDeskModel" (238 : Nat) "TripleDeskModel" "atoms" "I")) ∈ lw_gd := lw_gd_in (i := 1106) (by decide +kernel) rfl
theorem wd_1107 : ((Jvm.Cond.fieldLink "TripleDeskModel" (141 : Nat) "TripleDeskModel" "truth" "[Z")) ∈ lw_gd := lw_gd_in (i := 1107) (by decide +kernel) rfl
theorem wd_1253 : ((Jvm.Cond.arrayClass Jvm.ClassFile.FieldType.boolean)) ∈ lw_gd := lw_gd_in (i := 1253) (by decide +kernel) rfl
theorem wd_1254 : ((Jvm.Cond.methodLink "TripleDeskLaw" (84 : Nat) ({ cls := "TripleDeskModel", name := "thrown", desc := "()I" } : Jvm.MethodName))) ∈ lw_gd := lw_gd_in (i := 1254) (by decide +kernel) rfl
theorem wd_1255 : ((Jvm.Cond.instanceMethod ({ cls := "TripleDeskModel", name := "thrown", desc := "()I" } : Jvm.MethodName))) ∈ lw_gd := lw_gd_in (i := 1255) (by decide +kernel) rfl
theorem wd_1256 : ((Jvm.Cond.selects "TripleDeskModel" ({ cls := "TripleDeskModel", name := "thrown", desc := "()I" } : Jvm.MethodName) ({ cls := "TripleDeskModel", name := "thrown", desc := "()I" } : Jvm.MethodName))) ∈ lw_gd := lw_gd_in (i := 1256) (by decide +kernel) rfl
theorem wd_1257 : ((Jvm.Cond.code ({ cls := "TripleDeskModel", name := "thrown", desc := "()I" } : Jvm.MethodName) prog_13_method_2_code (1 : Nat) (Option.some Jvm.ClassFile.FieldType.int))) ∈ lw_gd := lw_gd_in (i := 1257) (by decide +kernel) rfl
theorem wd_1258 : ((Jvm.Cond.methodLink "TripleDeskLaw" (65 : Nat) ({ cls := "TripleDeskModel", name := "type", desc := "(JI)Z" } : Jvm.MethodName))) ∈ lw_gd := lw_gd_in (i := 1258) (by decide +kernel) rfl
theorem wd_1259 : ((Jvm.Cond.instanceMethod ({ cls := "TripleDeskModel", name := "type", desc := "(JI)Z" } : Jvm.MethodName))) ∈ lw_gd := lw_gd_in (i := 1259) (by decide +kernel) rfl
theorem wd_1260 : ((Jvm.Cond.selects "TripleDeskModel" ({ cls := "TripleDeskModel", name := "type", desc := "(JI)Z" } : Jvm.MethodName) ({ cls := "TripleDeskModel", name := "type", desc := "(JI)Z" } : Jvm.MethodName))) ∈ lw_gd := lw_gd_in (i := 1260) (by decide +kernel) rfl
theorem wd_1261 : ((Jvm.Cond.code ({ cls := "TripleDeskModel", name := "type", desc := "(JI)Z" } : Jvm.MethodName) prog_13_method_4_code (5 : Nat) (Option.some Jvm.ClassFile.FieldType.boolean))) ∈ lw_gd := lw_gd_in (i := 1261) (by decide +kernel) rfl
theorem wd_1262 : ((Jvm.Cond.constantLong "TripleDeskModel" (154 : Nat) (255 : Int64))) ∈ lw_gd := lw_gd_in (i := 1262) (by decide +kernel) rfl
theorem wd_1263 : ((Jvm.Cond.methodLink "TripleDeskLaw" (69 : Nat) ({ cls := "TripleDeskModel", name := "pre", desc := "()I" } : Jvm.MethodName))) ∈ lw_gd := lw_gd_in (i := 1263) (by decide +kernel) rfl
theorem wd_1264 : ((Jvm.Cond.instanceMethod ({ cls := "TripleDeskModel", name := "pre", desc := "()I" } : Jvm.MethodName))) ∈ lw_gd := lw_gd_in (i := 1264) (by decide +kernel) rfl
theorem wd_1265 : ((Jvm.Cond.selects "TripleDeskModel" ({ cls := "TripleDeskModel", name := "pre", desc := "()I" } : Jvm.MethodName) ({ cls := "TripleDeskModel", name := "pre", desc := "()I" } : Jvm.MethodName))) ∈ lw_gd := lw_gd_in (i := 1265) (by decide +kernel) rfl
theorem wd_1266 : ((Jvm.Cond.code ({ cls := "TripleDeskModel", name := "pre", desc := "()I" } : Jvm.MethodName) prog_13_method_28_code (1 : Nat) (Option.some Jvm.ClassFile.FieldType.int))) ∈ lw_gd := lw_gd_in (i := 1266) (by decide +kernel) rfl
theorem wd_1267 : ((Jvm.Cond.methodLink "TripleDeskModel" (269 : Nat) ({ cls := "TripleDeskModel", name := "readText", desc := "(I)I" } : Jvm.MethodName))) ∈ lw_gd := lw_gd_in (i := 1267) (by decide +kernel) rfl
theorem wd_1269 : ((Jvm.Cond.instanceMethod ({ cls := "TripleDeskModel", name := "readText", desc := "(I)I" } : Jvm.MethodName))) ∈ lw_gd := lw_gd_in (i := 1269) (by decide +kernel) rfl
theorem wd_1270 : ((Jvm.Cond.code ({ cls := "TripleDeskModel", name := "readText", desc := "(I)I" } : Jvm.MethodName) prog_13_method_27_code (4 : Nat) (Option.some Jvm.ClassFile.FieldType.int))) ∈ lw_gd := lw_gd_in (i := 1270) (by decide +kernel) rfl
theorem wd_1271 : ((Jvm.Cond.methodLink "TripleDeskModel" (257 : Nat) ({ cls := "TripleDeskModel", name := "startReading", desc := "()V" } : Jvm.MethodName))) ∈ lw_gd := lw_gd_in (i := 1271) (by decide +kernel) rfl
theorem wd_1273 : ((Jvm.Cond.instanceMethod ({ cls := "TripleDeskModel", name := "startReading", desc := "()V" } : Jvm.MethodName))) ∈ lw_gd := lw_gd_in (i := 1273) (by decide +kernel) rfl
theorem wd_1274 : ((Jvm.Cond.code ({ cls := "TripleDeskModel", name := "startReading", desc := "()V" } : Jvm.MethodName) prog_13_method_14_code (1 : Nat) (Option.none : Option Jvm.ClassFile.FieldType))) ∈ lw_gd := lw_gd_in (i := 1274) (by decide +kernel) rfl
theorem wd_1275 : ((Jvm.Cond.methodLink "TripleDeskModel" (203 : Nat) ({ cls := "TripleDeskModel", name := "next", desc := "()V" } : Jvm.MethodName))) ∈ lw_gd := lw_gd_in (i := 1275) (by decide +kernel) rfl
theorem wd_1277 : ((Jvm.Cond.instanceMethod ({ cls := "TripleDeskModel", name := "next", desc := "()V" } : Jvm.MethodName))) ∈ lw_gd := lw_gd_in (i := 1277) (by decide +kernel) rfl
theorem wd_1278 : ((Jvm.Cond.code ({ cls := "TripleDeskModel", name := "next", desc := "()V" } : Jvm.MethodName) prog_13_method_12_code (3 : Nat) (Option.none : Option Jvm.ClassFile.FieldType))) ∈ lw_gd := lw_gd_in (i := 1278) (by decide +kernel) rfl
theorem wd_1279 : ((Jvm.Cond.methodLink "TripleDeskModel" (167 : Nat) ({ cls := "TripleDeskModel", name := "byteAt", desc := "(I)I" } : Jvm.MethodName))) ∈ lw_gd := lw_gd_in (i := 1279) (by decide +kernel) rfl
theorem wd_1281 : ((Jvm.Cond.instanceMethod ({ cls := "TripleDeskModel", name := "byteAt", desc := "(I)I" } : Jvm.MethodName))) ∈ lw_gd := lw_gd_in (i := 1281) (by decide +kernel) rfl
theorem wd_1282 : ((Jvm.Cond.code ({ cls := "TripleDeskModel", name := "byteAt", desc := "(I)I" } : Jvm.MethodName) prog_13_method_7_code (2 : Nat) (Option.some Jvm.ClassFile.FieldType.int))) ∈ lw_gd := lw_gd_in (i := 1282) (by decide +kernel) rfl
theorem wd_1308 : ((Jvm.Cond.methodLink "TripleDeskModel" (260 : Nat) ({ cls := "TripleDeskModel", name := "condition", desc := "(Z)V" } : Jvm.MethodName))) ∈ lw_gd := lw_gd_in (i := 1308) (by decide +kernel) rfl
theorem wd_1310 : ((Jvm.Cond.instanceMethod ({ cls := "TripleDeskModel", name := "condition", desc := "(Z)V" } : Jvm.MethodName))) ∈ lw_gd := lw_gd_in (i := 1310) (by decide +kernel) rfl
theorem wd_1311 : ((Jvm.Cond.code ({ cls := "TripleDeskModel", name := "condition", desc := "(Z)V" } : Jvm.MethodName) prog_13_method_25_code (4 : Nat) (Option.none : Option Jvm.ClassFile.FieldType))) ∈ lw_gd := lw_gd_in (i := 1311) (by decide +kernel) rfl
theorem wd_1312 : ((Jvm.Cond.methodLink "TripleDeskModel" (247 : Nat) ({ cls := "TripleDeskModel", name := "part", desc := "(Z)V" } : Jvm.MethodName))) ∈ lw_gd := lw_gd_in (i := 1312) (by decide +kernel) rfl
theorem wd_1314 : ((Jvm.Cond.instanceMethod ({ cls := "TripleDeskModel", name := "part", desc := "(Z)V" } : Jvm.MethodName))) ∈ lw_gd := lw_gd_in (i := 1314) (by decide +kernel) rfl
theorem wd_1315 : ((Jvm.Cond.code ({ cls := "TripleDeskModel", name := "part", desc := "(Z)V" } : Jvm.MethodName) prog_13_method_24_code (2 : Nat) (Option.none : Option Jvm.ClassFile.FieldType))) ∈ lw_gd := lw_gd_in (i := 1315) (by decide +kernel) rfl
theorem wd_1316 : ((Jvm.Cond.methodLink "TripleDeskModel" (212 : Nat) ({ cls := "TripleDeskModel", name := "is", desc := "(I)Z" } : Jvm.MethodName))) ∈ lw_gd := lw_gd_in (i := 1316) (by decide +kernel) rfl
theorem wd_1318 : ((Jvm.Cond.instanceMethod ({ cls := "TripleDeskModel", name := "is", desc := "(I)Z" } : Jvm.MethodName))) ∈ lw_gd := lw_gd_in (i := 1318) (by decide +kernel) rfl
theorem wd_1319 : ((Jvm.Cond.code ({ cls := "TripleDeskModel", name := "is", desc := "(I)Z" } : Jvm.MethodName) prog_13_method_13_code (2 : Nat) (Option.some Jvm.ClassFile.FieldType.boolean))) ∈ lw_gd := lw_gd_in (i := 1319) (by decide +kernel) rfl
theorem wd_1324 : ((Jvm.Cond.methodLink "TripleDeskModel" (241 : Nat) ({ cls := "TripleDeskModel", name := "atom", desc := "(Z)V" } : Jvm.MethodName))) ∈ lw_gd := lw_gd_in (i := 1324) (by decide +kernel) rfl
theorem wd_1326 : ((Jvm.Cond.instanceMethod ({ cls := "TripleDeskModel", name := "atom", desc := "(Z)V" } : Jvm.MethodName))) ∈ lw_gd := lw_gd_in (i := 1326) (by decide +kernel) rfl
theorem wd_1327 : ((Jvm.Cond.code ({ cls := "TripleDeskModel", name := "atom", desc := "(Z)V" } : Jvm.MethodName) prog_13_method_18_code (5 : Nat) (Option.none : Option Jvm.ClassFile.FieldType))) ∈ lw_gd := lw_gd_in (i := 1327) (by decide +kernel) rfl
theorem wd_1328 : ((Jvm.Cond.methodLink "TripleDeskModel" (219 : Nat) ({ cls := "TripleDeskModel", name := "term", desc := "(Z)V" } : Jvm.MethodName))) ∈ lw_gd := lw_gd_in (i := 1328) (by decide +kernel) rfl
theorem wd_1330 : ((Jvm.Cond.instanceMethod ({ cls := "TripleDeskModel", name := "term", desc := "(Z)V" } : Jvm.MethodName))) ∈ lw_gd := lw_gd_in (i := 1330) (by decide +kernel) rfl
theorem wd_1331 : ((Jvm.Cond.code ({ cls := "TripleDeskModel", name := "term", desc := "(Z)V" } : Jvm.MethodName) prog_13_method_16_code (3 : Nat) (Option.none : Option Jvm.ClassFile.FieldType))) ∈ lw_gd := lw_gd_in (i := 1331) (by decide +kernel) rfl
theorem wd_1332 : ((Jvm.Cond.methodLink "TripleDeskModel" (215 : Nat) ({ cls := "TripleDeskModel", name := "must", desc := "(Z)V" } : Jvm.MethodName))) ∈ lw_gd := lw_gd_in (i := 1332) (by decide +kernel) rfl
theorem wd_1334 : ((Jvm.Cond.instanceMethod ({ cls := "TripleDeskModel", name := "must", desc := "(Z)V" } : Jvm.MethodName))) ∈ lw_gd := lw_gd_in (i := 1334) (by decide +kernel) rfl
theorem wd_1335 : ((Jvm.Cond.code ({ cls := "TripleDeskModel", name := "must", desc := "(Z)V" } : Jvm.MethodName) prog_13_method_15_code (2 : Nat) (Option.none : Option Jvm.ClassFile.FieldType))) ∈ lw_gd := lw_gd_in (i := 1335) (by decide +kernel) rfl
theorem wd_1340 : ((Jvm.Cond.methodLink "TripleDeskModel" (244 : Nat) ({ cls := "TripleDeskModel", name := "emitNots", desc := "()V" } : Jvm.MethodName))) ∈ lw_gd := lw_gd_in (i := 1340) (by decide +kernel) rfl
theorem wd_1342 : ((Jvm.Cond.instanceMethod ({ cls := "TripleDeskModel", name := "emitNots", desc := "()V" } : Jvm.MethodName))) ∈ lw_gd := lw_gd_in (i := 1342) (by decide +kernel) rfl
theorem wd_1343 : ((Jvm.Cond.code ({ cls := "TripleDeskModel", name := "emitNots", desc := "()V" } : Jvm.MethodName) prog_13_method_20_code (1 : Nat) (Option.none : Option Jvm.ClassFile.FieldType))) ∈ lw_gd := lw_gd_in (i := 1343) (by decide +kernel) rfl
theorem wd_1356 : ((Jvm.Cond.methodLink "TripleDeskModel" (266 : Nat) ({ cls := "TripleDeskModel", name := "fault", desc := "()I" } : Jvm.MethodName))) ∈ lw_gd := lw_gd_in (i := 1356) (by decide +kernel) rfl
theorem wd_1358 : ((Jvm.Cond.instanceMethod ({ cls := "TripleDeskModel", name := "fault", desc := "()I" } : Jvm.MethodName))) ∈ lw_gd := lw_gd_in (i := 1358) (by decide +kernel) rfl
theorem wd_1359 : ((Jvm.Cond.code ({ cls := "TripleDeskModel", name := "fault", desc := "()I" } : Jvm.MethodName) prog_13_method_26_code (1 : Nat) (Option.some Jvm.ClassFile.FieldType.int))) ∈ lw_gd := lw_gd_in (i := 1359) (by decide +kernel) rfl
theorem wd_1360 : ((Jvm.Cond.methodLink "TripleDeskLaw" (73 : Nat) ({ cls := "TripleDeskModel", name := "post", desc := "()I" } : Jvm.MethodName))) ∈ lw_gd := lw_gd_in (i := 1360) (by decide +kernel) rfl
theorem wd_1361 : ((Jvm.Cond.instanceMethod ({ cls := "TripleDeskModel", name := "post", desc := "()I" } : Jvm.MethodName))) ∈ lw_gd := lw_gd_in (i := 1361) (by decide +kernel) rfl
theorem wd_1362 : ((Jvm.Cond.selects "TripleDeskModel" ({ cls := "TripleDeskModel", name := "post", desc := "()I" } : Jvm.MethodName) ({ cls := "TripleDeskModel", name := "post", desc := "()I" } : Jvm.MethodName))) ∈ lw_gd := lw_gd_in (i := 1362) (by decide +kernel) rfl
theorem wd_1363 : ((Jvm.Cond.code ({ cls := "TripleDeskModel", name := "post", desc := "()I" } : Jvm.MethodName) prog_13_method_29_code (1 : Nat) (Option.some Jvm.ClassFile.FieldType.int))) ∈ lw_gd := lw_gd_in (i := 1363) (by decide +kernel) rfl
theorem wd_1364 : ((Jvm.Cond.methodLink "TripleDeskLaw" (77 : Nat) ({ cls := "TripleDeskModel", name := "program", desc := "()I" } : Jvm.MethodName))) ∈ lw_gd := lw_gd_in (i := 1364) (by decide +kernel) rfl
theorem wd_1365 : ((Jvm.Cond.instanceMethod ({ cls := "TripleDeskModel", name := "program", desc := "()I" } : Jvm.MethodName))) ∈ lw_gd := lw_gd_in (i := 1365) (by decide +kernel) rfl
theorem wd_1366 : ((Jvm.Cond.selects "TripleDeskModel" ({ cls := "TripleDeskModel", name := "program", desc := "()I" } : Jvm.MethodName) ({ cls := "TripleDeskModel", name := "program", desc := "()I" } : Jvm.MethodName))) ∈ lw_gd := lw_gd_in (i := 1366) (by decide +kernel) rfl
theorem wd_1367 : ((Jvm.Cond.code ({ cls := "TripleDeskModel", name := "program", desc := "()I" } : Jvm.MethodName) prog_13_method_38_code (4 : Nat) (Option.some Jvm.ClassFile.FieldType.int))) ∈ lw_gd := lw_gd_in (i := 1367) (by decide +kernel) rfl
theorem wd_1368 : ((Jvm.Cond.methodLink "TripleDeskModel" (311 : Nat) ({ cls := "TripleDeskModel", name := "statement", desc := "()Z" } : Jvm.MethodName))) ∈ lw_gd := lw_gd_in (i := 1368) (by decide +kernel) rfl
theorem wd_1370 : ((Jvm.Cond.instanceMethod ({ cls := "TripleDeskModel", name := "statement", desc := "()Z" } : Jvm.MethodName))) ∈ lw_gd := lw_gd_in (i := 1370) (by decide +kernel) rfl
theorem wd_1371 : ((Jvm.Cond.code ({ cls := "TripleDeskModel", name := "statement", desc := "()Z" } : Jvm.MethodName) prog_13_method_36_code (4 : Nat) (Option.some Jvm.ClassFile.FieldType.boolean))) ∈ lw_gd := lw_gd_in (i := 1371) (by decide +kernel) rfl
theorem wd_1400 : ((Jvm.Cond.methodLink "TripleDeskLaw" (83 : Nat) ({ cls := "TripleDeskModel", name := "conditions", desc := "()I" } : Jvm.MethodName))) ∈ lw_gd := lw_gd_in (i := 1400) (by decide +kernel) rfl
theorem wd_1401 : ((Jvm.Cond.instanceMethod ({ cls := "TripleDeskModel", name := "conditions", desc := "()I" } : Jvm.MethodName))) ∈ lw_gd := lw_gd_in (i := 1401) (by decide +kernel) rfl
theorem wd_1402 : ((Jvm.Cond.selects "TripleDeskModel" ({ cls := "TripleDeskModel", name := "conditions", desc := "()I" } : Jvm.MethodName) ({ cls := "TripleDeskModel", name := "conditions", desc := "()I" } : Jvm.MethodName))) ∈ lw_gd := lw_gd_in (i := 1402) (by decide +kernel) rfl
theorem wd_1403 : ((Jvm.Cond.code ({ cls := "TripleDeskModel", name := "conditions", desc := "()I" } : Jvm.MethodName) prog_13_method_73_code (1 : Nat) (Option.some Jvm.ClassFile.FieldType.int))) ∈ lw_gd := lw_gd_in (i := 1403) (by decide +kernel) rfl
theorem wd_1404 : ((Jvm.Cond.methodLink "TripleDeskModel" (440 : Nat) ({ cls := "TripleDeskModel", name := "isReady", desc := "()Z" } : Jvm.MethodName))) ∈ lw_gd := lw_gd_in (i := 1404) (by decide +kernel) rfl
theorem wd_1406 : ((Jvm.Cond.instanceMethod ({ cls := "TripleDeskModel", name := "isReady", desc := "()Z" } : Jvm.MethodName))) ∈ lw_gd := lw_gd_in (i := 1406) (by decide +kernel) rfl
theorem wd_1407 : ((Jvm.Cond.code ({ cls := "TripleDeskModel", name := "isReady", desc := "()Z" } : Jvm.MethodName) prog_13_method_72_code (1 : Nat) (Option.some Jvm.ClassFile.FieldType.boolean))) ∈ lw_gd := lw_gd_in (i := 1407) (by decide +kernel) rfl
theorem wd_1491 : ((Jvm.Cond.methodLink "TripleDeskLaw" (90 : Nat) ({ cls := "TripleDeskModel", name := "about", desc := "(II)I" } : Jvm.MethodName))) ∈ lw_gd := lw_gd_in (i := 1491) (by decide +kernel) rfl
theorem wd_1492 : ((Jvm.Cond.instanceMethod ({ cls := "TripleDeskModel", name := "about", desc := "(II)I" } : Jvm.MethodName))) ∈ lw_gd := lw_gd_in (i := 1492) (by decide +kernel) rfl
theorem wd_1493 : ((Jvm.Cond.selects "TripleDeskModel" ({ cls := "TripleDeskModel", name := "about", desc := "(II)I" } : Jvm.MethodName) ({ cls := "TripleDeskModel", name := "about", desc := "(II)I" } : Jvm.MethodName))) ∈ lw_gd := lw_gd_in (i := 1493) (by decide +kernel) rfl
theorem wd_1494 : ((Jvm.Cond.code ({ cls := "TripleDeskModel", name := "about", desc := "(II)I" } : Jvm.MethodName) prog_13_method_75_code (3 : Nat) (Option.some Jvm.ClassFile.FieldType.int))) ∈ lw_gd := lw_gd_in (i := 1494) (by decide +kernel) rfl
theorem wd_1537 : ((Jvm.Cond.methodLink "TripleDeskLaw" (94 : Nat) ({ cls := "TripleDeskModel", name := "valid", desc := "(I)I" } : Jvm.MethodName))) ∈ lw_gd := lw_gd_in (i := 1537) (by decide +kernel) rfl
theorem wd_1538 : ((Jvm.Cond.instanceMethod ({ cls := "TripleDeskModel", name := "valid", desc := "(I)I" } : Jvm.MethodName))) ∈ lw_gd := lw_gd_in (i := 1538) (by decide +kernel) rfl
theorem wd_1539 : ((Jvm.Cond.selects "TripleDeskModel" ({ cls := "TripleDeskModel", name := "valid", desc := "(I)I" } : Jvm.MethodName) ({ cls := "TripleDeskModel", name := "valid", desc := "(I)I" } : Jvm.MethodName))) ∈ lw_gd := lw_gd_in (i := 1539) (by decide +kernel) rfl
theorem wd_1540 : ((Jvm.Cond.code ({ cls := "TripleDeskModel", name := "valid", desc := "(I)I" } : Jvm.MethodName) prog_13_method_76_code (2 : Nat) (Option.some Jvm.ClassFile.FieldType.int))) ∈ lw_gd := lw_gd_in (i := 1540) (by decide +kernel) rfl
theorem wd_1545 : ((Jvm.Cond.methodLink "TripleDeskLaw" (97 : Nat) ({ cls := "TripleDeskModel", name := "proved", desc := "()Z" } : Jvm.MethodName))) ∈ lw_gd := lw_gd_in (i := 1545) (by decide +kernel) rfl
theorem wd_1546 : ((Jvm.Cond.instanceMethod ({ cls := "TripleDeskModel", name := "proved", desc := "()Z" } : Jvm.MethodName))) ∈ lw_gd := lw_gd_in (i := 1546) (by decide +kernel) rfl
theorem wd_1547 : ((Jvm.Cond.selects "TripleDeskModel" ({ cls := "TripleDeskModel", name := "proved", desc := "()Z" } : Jvm.MethodName) ({ cls := "TripleDeskModel", name := "proved", desc := "()Z" } : Jvm.MethodName))) ∈ lw_gd := lw_gd_in (i := 1547) (by decide +kernel) rfl
theorem wd_1548 : ((Jvm.Cond.code ({ cls := "TripleDeskModel", name := "proved", desc := "()Z" } : Jvm.MethodName) prog_13_method_77_code (3 : Nat) (Option.some Jvm.ClassFile.FieldType.boolean))) ∈ lw_gd := lw_gd_in (i := 1548) (by decide +kernel) rfl
theorem wd_1549 : ((Jvm.Cond.methodLink "TripleDeskLaw" (100 : Nat) ({ cls := "TripleDeskModel", name := "counter", desc := "(II)I" } : Jvm.MethodName))) ∈ lw_gd := lw_gd_in (i := 1549) (by decide +kernel) rfl
theorem wd_1550 : ((Jvm.Cond.instanceMethod ({ cls := "TripleDeskModel", name := "counter", desc := "(II)I" } : Jvm.MethodName))) ∈ lw_gd := lw_gd_in (i := 1550) (by decide +kernel) rfl
theorem wd_1551 : ((Jvm.Cond.selects "TripleDeskModel" ({ cls := "TripleDeskModel", name := "counter", desc := "(II)I" } : Jvm.MethodName) ({ cls := "TripleDeskModel", name := "counter", desc := "(II)I" } : Jvm.MethodName))) ∈ lw_gd := lw_gd_in (i := 1551) (by decide +kernel) rfl
theorem wd_1552 : ((Jvm.Cond.code ({ cls := "TripleDeskModel", name := "counter", desc := "(II)I" } : Jvm.MethodName) prog_13_method_78_code (6 : Nat) (Option.some Jvm.ClassFile.FieldType.int))) ∈ lw_gd := lw_gd_in (i := 1552) (by decide +kernel) rfl
theorem wd_1553 : ((Jvm.Cond.methodLink "TripleDeskLaw" (103 : Nat) ({ cls := "TripleDeskModel", name := "say", desc := "(I)I" } : Jvm.MethodName))) ∈ lw_gd := lw_gd_in (i := 1553) (by decide +kernel) rfl
theorem wd_1554 : ((Jvm.Cond.instanceMethod ({ cls := "TripleDeskModel", name := "say", desc := "(I)I" } : Jvm.MethodName))) ∈ lw_gd := lw_gd_in (i := 1554) (by decide +kernel) rfl
theorem wd_1555 : ((Jvm.Cond.selects "TripleDeskModel" ({ cls := "TripleDeskModel", name := "say", desc := "(I)I" } : Jvm.MethodName) ({ cls := "TripleDeskModel", name := "say", desc := "(I)I" } : Jvm.MethodName))) ∈ lw_gd := lw_gd_in (i := 1555) (by decide +kernel) rfl
theorem wd_1556 : ((Jvm.Cond.code ({ cls := "TripleDeskModel", name := "say", desc := "(I)I" } : Jvm.MethodName) prog_13_method_83_code (6 : Nat) (Option.some Jvm.ClassFile.FieldType.int))) ∈ lw_gd := lw_gd_in (i := 1556) (by decide +kernel) rfl
theorem wd_1573 : ((Jvm.Cond.methodLink "TripleDeskLaw" (106 : Nat) ({ cls := "TripleDeskModel", name := "out", desc := "(I)I" } : Jvm.MethodName))) ∈ lw_gd := lw_gd_in (i := 1573) (by decide +kernel) rfl
theorem wd_1574 : ((Jvm.Cond.instanceMethod ({ cls := "TripleDeskModel", name := "out", desc := "(I)I" } : Jvm.MethodName))) ∈ lw_gd := lw_gd_in (i := 1574) (by decide +kernel) rfl
theorem wd_1575 : ((Jvm.Cond.selects "TripleDeskModel" ({ cls := "TripleDeskModel", name := "out", desc := "(I)I" } : Jvm.MethodName) ({ cls := "TripleDeskModel", name := "out", desc := "(I)I" } : Jvm.MethodName))) ∈ lw_gd := lw_gd_in (i := 1575) (by decide +kernel) rfl
theorem wd_1576 : ((Jvm.Cond.code ({ cls := "TripleDeskModel", name := "out", desc := "(I)I" } : Jvm.MethodName) prog_13_method_84_code (2 : Nat) (Option.some Jvm.ClassFile.FieldType.int))) ∈ lw_gd := lw_gd_in (i := 1576) (by decide +kernel) rfl
theorem wd_1577 : ((Jvm.Cond.methodLink "TripleDeskLaw" (110 : Nat) ({ cls := "TripleDeskModel", name := "start", desc := "(II)V" } : Jvm.MethodName))) ∈ lw_gd := lw_gd_in (i := 1577) (by decide +kernel) rfl
theorem wd_1578 : ((Jvm.Cond.instanceMethod ({ cls := "TripleDeskModel", name := "start", desc := "(II)V" } : Jvm.MethodName))) ∈ lw_gd := lw_gd_in (i := 1578) (by decide +kernel) rfl
theorem wd_1579 : ((Jvm.Cond.selects "TripleDeskModel" ({ cls := "TripleDeskModel", name := "start", desc := "(II)V" } : Jvm.MethodName) ({ cls := "TripleDeskModel", name := "start", desc := "(II)V" } : Jvm.MethodName))) ∈ lw_gd := lw_gd_in (i := 1579) (by decide +kernel) rfl
theorem wd_1580 : ((Jvm.Cond.code ({ cls := "TripleDeskModel", name := "start", desc := "(II)V" } : Jvm.MethodName) prog_13_method_88_code (3 : Nat) (Option.none : Option Jvm.ClassFile.FieldType))) ∈ lw_gd := lw_gd_in (i := 1580) (by decide +kernel) rfl
theorem wd_1581 : ((Jvm.Cond.methodLink "TripleDeskLaw" (113 : Nat) ({ cls := "TripleDeskModel", name := "run", desc := "(I)I" } : Jvm.MethodName))) ∈ lw_gd := lw_gd_in (i := 1581) (by decide +kernel) rfl
theorem wd_1582 : ((Jvm.Cond.instanceMethod ({ cls := "TripleDeskModel", name := "run", desc := "(I)I" } : Jvm.MethodName))) ∈ lw_gd := lw_gd_in (i := 1582) (by decide +kernel) rfl
theorem wd_1583 : ((Jvm.Cond.selects "TripleDeskModel" ({ cls := "TripleDeskModel", name := "run", desc := "(I)I" } : Jvm.MethodName) ({ cls := "TripleDeskModel", name := "run", desc := "(I)I" } : Jvm.MethodName))) ∈ lw_gd := lw_gd_in (i := 1583) (by decide +kernel) rfl
theorem wd_1584 : ((Jvm.Cond.code ({ cls := "TripleDeskModel", name := "run", desc := "(I)I" } : Jvm.MethodName) prog_13_method_90_code (4 : Nat) (Option.some Jvm.ClassFile.FieldType.int))) ∈ lw_gd := lw_gd_in (i := 1584) (by decide +kernel) rfl
theorem wd_1589 : ((Jvm.Cond.methodLink "TripleDeskModel" (467 : Nat) ({ cls := "TripleDeskModel", name := "termOf", desc := "(II)J" } : Jvm.MethodName))) ∈ lw_gd := lw_gd_in (i := 1589) (by decide +kernel) rfl
theorem wd_1591 : ((Jvm.Cond.instanceMethod ({ cls := "TripleDeskModel", name := "termOf", desc := "(II)J" } : Jvm.MethodName))) ∈ lw_gd := lw_gd_in (i := 1591) (by decide +kernel) rfl
theorem wd_1592 : ((Jvm.Cond.code ({ cls := "TripleDeskModel", name := "termOf", desc := "(II)J" } : Jvm.MethodName) prog_13_method_85_code (3 : Nat) (Option.some Jvm.ClassFile.FieldType.long))) ∈ lw_gd := lw_gd_in (i := 1592) (by decide +kernel) rfl
theorem wd_1593 : ((Jvm.Cond.methodLink "TripleDeskModel" (475 : Nat) ({ cls := "TripleDeskModel", name := "isTrue", desc := "([III)Z" } : Jvm.MethodName))) ∈ lw_gd := lw_gd_in (i := 1593) (by decide +kernel) rfl
theorem wd_1595 : ((Jvm.Cond.instanceMethod ({ cls := "TripleDeskModel", name := "isTrue", desc := "([III)Z" } : Jvm.MethodName))) ∈ lw_gd := lw_gd_in (i := 1595) (by decide +kernel) rfl
theorem wd_1596 : ((Jvm.Cond.code ({ cls := "TripleDeskModel", name := "isTrue", desc := "([III)Z" } : Jvm.MethodName) prog_13_method_87_code (7 : Nat) (Option.some Jvm.ClassFile.FieldType.boolean))) ∈ lw_gd := lw_gd_in (i := 1596) (by decide +kernel) rfl
theorem wd_1597 : ((Jvm.Cond.methodLink "TripleDeskModel" (471 : Nat) ({ cls := "TripleDeskModel", name := "compare", desc := "(JIJ)Z" } : Jvm.MethodName))) ∈ lw_gd := lw_gd_in (i := 1597) (by decide +kernel) rfl
theorem wd_1598 : ((Jvm.Cond.static ({ cls := "TripleDeskModel", name := "compare", desc := "(JIJ)Z" } : Jvm.MethodName))) ∈ lw_gd := lw_gd_in (i := 1598) (by decide +kernel) rfl
theorem wd_1599 : ((Jvm.Cond.code ({ cls := "TripleDeskModel", name := "compare", desc := "(JIJ)Z" } : Jvm.MethodName) prog_13_method_86_code (5 : Nat) (Option.some Jvm.ClassFile.FieldType.boolean))) ∈ lw_gd := lw_gd_in (i := 1599) (by decide +kernel) rfl
theorem wd_1600 : ((Jvm.Cond.methodLink "TripleDeskLaw" (116 : Nat) ({ cls := "TripleDeskModel", name := "value", desc := "(I)J" } : Jvm.MethodName))) ∈ lw_gd := lw_gd_in (i := 1600) (by decide +kernel) rfl
theorem wd_1601 : ((Jvm.Cond.instanceMethod ({ cls := "TripleDeskModel", name := "value", desc := "(I)J" } : Jvm.MethodName))) ∈ lw_gd := lw_gd_in (i := 1601) (by decide +kernel) rfl
theorem wd_1602 : ((Jvm.Cond.selects "TripleDeskModel" ({ cls := "TripleDeskModel", name := "value", desc := "(I)J" } : Jvm.MethodName) ({ cls := "TripleDeskModel", name := "value", desc := "(I)J" } : Jvm.MethodName))) ∈ lw_gd := lw_gd_in (i := 1602) (by decide +kernel) rfl
theorem wd_1603 : ((Jvm.Cond.code ({ cls := "TripleDeskModel", name := "value", desc := "(I)J" } : Jvm.MethodName) prog_13_method_91_code (2 : Nat) (Option.some Jvm.ClassFile.FieldType.long))) ∈ lw_gd := lw_gd_in (i := 1603) (by decide +kernel) rfl
theorem wd_1604 : ((Jvm.Cond.methodLink "TripleDeskLaw" (119 : Nat) ({ cls := "TripleDeskModel", name := "holds", desc := "(I)Z" } : Jvm.MethodName))) ∈ lw_gd := lw_gd_in (i := 1604) (by decide +kernel) rfl
theorem wd_1605 : ((Jvm.Cond.instanceMethod ({ cls := "TripleDeskModel", name := "holds", desc := "(I)Z" } : Jvm.MethodName))) ∈ lw_gd := lw_gd_in (i := 1605) (by decide +kernel) rfl
theorem wd_1606 : ((Jvm.Cond.selects "TripleDeskModel" ({ cls := "TripleDeskModel", name := "holds", desc := "(I)Z" } : Jvm.MethodName) ({ cls := "TripleDeskModel", name := "holds", desc := "(I)Z" } : Jvm.MethodName))) ∈ lw_gd := lw_gd_in (i := 1606) (by decide +kernel) rfl
theorem wd_1607 : ((Jvm.Cond.code ({ cls := "TripleDeskModel", name := "holds", desc := "(I)Z" } : Jvm.MethodName) prog_13_method_92_code (2 : Nat) (Option.some Jvm.ClassFile.FieldType.boolean))) ∈ lw_gd := lw_gd_in (i := 1607) (by decide +kernel) rfl
theorem wd_1608 : ((Jvm.Cond.constantLong "TripleDeskLaw" (59 : Nat) (4294967295 : Int64))) ∈ lw_gd := lw_gd_in (i := 1608) (by decide +kernel) rfl
theorem wd_oi : Cond.code Jvm.Lib.objectInit ⟨#[0xb1]⟩ 1 none ∈ lw_gd := lw_gd_in (i := 33) (by decide +kernel) rfl
theorem ps_in {q : MethodName × Nat} {i : Nat} (h : lw_privs[i]? = some q) : Cond.selects q.1.cls q.1 q.1 ∈ lw_gd := List.mem_filter.mpr ⟨List.mem_append_left _ (List.mem_map.mpr ⟨q, List.mem_of_getElem? h, rfl⟩), rfl⟩
theorem ps_7 : Cond.selects "TripleDesk$Reader" ⟨"TripleDesk$Reader", "condition", "(Z)I"⟩ ⟨"TripleDesk$Reader", "condition", "(Z)I"⟩ ∈ lw_gd := ps_in (q := (⟨"TripleDesk$Reader", "condition", "(Z)I"⟩, 5)) (i := 7) (by decide +kernel)
theorem ps_8 : Cond.selects "TripleDesk$Reader" ⟨"TripleDesk$Reader", "ors", "(I)I"⟩ ⟨"TripleDesk$Reader", "ors", "(I)I"⟩ ∈ lw_gd := ps_in (q := (⟨"TripleDesk$Reader", "ors", "(I)I"⟩, 5)) (i := 8) (by decide +kernel)
theorem ps_9 : Cond.selects "TripleDesk$Reader" ⟨"TripleDesk$Reader", "ands", "(I)I"⟩ ⟨"TripleDesk$Reader", "ands", "(I)I"⟩ ∈ lw_gd := ps_in (q := (⟨"TripleDesk$Reader", "ands", "(I)I"⟩, 5)) (i := 9) (by decide +kernel)
theorem ps_10 : Cond.selects "TripleDesk$Reader" ⟨"TripleDesk$Reader", "part", "(I)I"⟩ ⟨"TripleDesk$Reader", "part", "(I)I"⟩ ∈ lw_gd := ps_in (q := (⟨"TripleDesk$Reader", "part", "(I)I"⟩, 5)) (i := 10) (by decide +kernel)
theorem ps_11 : Cond.selects "TripleDesk$Reader" ⟨"TripleDesk$Reader", "atom", "()I"⟩ ⟨"TripleDesk$Reader", "atom", "()I"⟩ ∈ lw_gd := ps_in (q := (⟨"TripleDesk$Reader", "atom", "()I"⟩, 5)) (i := 11) (by decide +kernel)
theorem ps_12 : Cond.selects "TripleDesk$Reader" ⟨"TripleDesk$Reader", "term", "(Z)I"⟩ ⟨"TripleDesk$Reader", "term", "(Z)I"⟩ ∈ lw_gd := ps_in (q := (⟨"TripleDesk$Reader", "term", "(Z)I"⟩, 5)) (i := 12) (by decide +kernel)
theorem ps_14 : Cond.selects "TripleDesk$Reader" ⟨"TripleDesk$Reader", "statements", "(I)I"⟩ ⟨"TripleDesk$Reader", "statements", "(I)I"⟩ ∈ lw_gd := ps_in (q := (⟨"TripleDesk$Reader", "statements", "(I)I"⟩, 5)) (i := 14) (by decide +kernel)
theorem ps_15 : Cond.selects "TripleDesk$Reader" ⟨"TripleDesk$Reader", "statement", "(I)I"⟩ ⟨"TripleDesk$Reader", "statement", "(I)I"⟩ ∈ lw_gd := ps_in (q := (⟨"TripleDesk$Reader", "statement", "(I)I"⟩, 5)) (i := 15) (by decide +kernel)
theorem ps_19 : Cond.selects "TripleDesk" ⟨"TripleDesk", "needProgram", "()V"⟩ ⟨"TripleDesk", "needProgram", "()V"⟩ ∈ lw_gd := ps_in (q := (⟨"TripleDesk", "needProgram", "()V"⟩, 13)) (i := 19) (by decide +kernel)
theorem ps_21 : Cond.selects "TripleDesk" ⟨"TripleDesk", "needClaim", "(I)V"⟩ ⟨"TripleDesk", "needClaim", "(I)V"⟩ ∈ lw_gd := ps_in (q := (⟨"TripleDesk", "needClaim", "(I)V"⟩, 13)) (i := 21) (by decide +kernel)
theorem ps_46 : Cond.selects "TripleDesk" ⟨"TripleDesk", "needVariable", "(I)V"⟩ ⟨"TripleDesk", "needVariable", "(I)V"⟩ ∈ lw_gd := ps_in (q := (⟨"TripleDesk", "needVariable", "(I)V"⟩, 13)) (i := 46) (by decide +kernel)
theorem ps_48 : Cond.selects "TripleDesk$Runner" ⟨"TripleDesk$Runner", "amount", "(I)J"⟩ ⟨"TripleDesk$Runner", "amount", "(I)J"⟩ ∈ lw_gd := ps_in (q := (⟨"TripleDesk$Runner", "amount", "(I)J"⟩, 1)) (i := 48) (by decide +kernel)
theorem ps_49 : Cond.selects "TripleDeskModel" ⟨"TripleDeskModel", "readText", "(I)I"⟩ ⟨"TripleDeskModel", "readText", "(I)I"⟩ ∈ lw_gd := ps_in (q := (⟨"TripleDeskModel", "readText", "(I)I"⟩, 72)) (i := 49) (by decide +kernel)
theorem ps_50 : Cond.selects "TripleDeskModel" ⟨"TripleDeskModel", "startReading", "()V"⟩ ⟨"TripleDeskModel", "startReading", "()V"⟩ ∈ lw_gd := ps_in (q := (⟨"TripleDeskModel", "startReading", "()V"⟩, 72)) (i := 50) (by decide +kernel)
theorem ps_51 : Cond.selects "TripleDeskModel" ⟨"TripleDeskModel", "next", "()V"⟩ ⟨"TripleDeskModel", "next", "()V"⟩ ∈ lw_gd := ps_in (q := (⟨"TripleDeskModel", "next", "()V"⟩, 72)) (i := 51) (by decide +kernel)
theorem ps_52 : Cond.selects "TripleDeskModel" ⟨"TripleDeskModel", "byteAt", "(I)I"⟩ ⟨"TripleDeskModel", "byteAt", "(I)I"⟩ ∈ lw_gd := ps_in (q := (⟨"TripleDeskModel", "byteAt", "(I)I"⟩, 72)) (i := 52) (by decide +kernel)
theorem ps_55 : Cond.selects "TripleDeskModel" ⟨"TripleDeskModel", "condition", "(Z)V"⟩ ⟨"TripleDeskModel", "condition", "(Z)V"⟩ ∈ lw_gd := ps_in (q := (⟨"TripleDeskModel", "condition", "(Z)V"⟩, 72)) (i := 55) (by decide +kernel)
theorem ps_56 : Cond.selects "TripleDeskModel" ⟨"TripleDeskModel", "part", "(Z)V"⟩ ⟨"TripleDeskModel", "part", "(Z)V"⟩ ∈ lw_gd := ps_in (q := (⟨"TripleDeskModel", "part", "(Z)V"⟩, 72)) (i := 56) (by decide +kernel)
theorem ps_57 : Cond.selects "TripleDeskModel" ⟨"TripleDeskModel", "is", "(I)Z"⟩ ⟨"TripleDeskModel", "is", "(I)Z"⟩ ∈ lw_gd := ps_in (q := (⟨"TripleDeskModel", "is", "(I)Z"⟩, 72)) (i := 57) (by decide +kernel)
theorem ps_59 : Cond.selects "TripleDeskModel" ⟨"TripleDeskModel", "atom", "(Z)V"⟩ ⟨"TripleDeskModel", "atom", "(Z)V"⟩ ∈ lw_gd := ps_in (q := (⟨"TripleDeskModel", "atom", "(Z)V"⟩, 72)) (i := 59) (by decide +kernel)
theorem ps_60 : Cond.selects "TripleDeskModel" ⟨"TripleDeskModel", "term", "(Z)V"⟩ ⟨"TripleDeskModel", "term", "(Z)V"⟩ ∈ lw_gd := ps_in (q := (⟨"TripleDeskModel", "term", "(Z)V"⟩, 72)) (i := 60) (by decide +kernel)
theorem ps_61 : Cond.selects "TripleDeskModel" ⟨"TripleDeskModel", "must", "(Z)V"⟩ ⟨"TripleDeskModel", "must", "(Z)V"⟩ ∈ lw_gd := ps_in (q := (⟨"TripleDeskModel", "must", "(Z)V"⟩, 72)) (i := 61) (by decide +kernel)
theorem ps_63 : Cond.selects "TripleDeskModel" ⟨"TripleDeskModel", "emitNots", "()V"⟩ ⟨"TripleDeskModel", "emitNots", "()V"⟩ ∈ lw_gd := ps_in (q := (⟨"TripleDeskModel", "emitNots", "()V"⟩, 72)) (i := 63) (by decide +kernel)
theorem ps_67 : Cond.selects "TripleDeskModel" ⟨"TripleDeskModel", "fault", "()I"⟩ ⟨"TripleDeskModel", "fault", "()I"⟩ ∈ lw_gd := ps_in (q := (⟨"TripleDeskModel", "fault", "()I"⟩, 72)) (i := 67) (by decide +kernel)
theorem ps_68 : Cond.selects "TripleDeskModel" ⟨"TripleDeskModel", "statement", "()Z"⟩ ⟨"TripleDeskModel", "statement", "()Z"⟩ ∈ lw_gd := ps_in (q := (⟨"TripleDeskModel", "statement", "()Z"⟩, 72)) (i := 68) (by decide +kernel)
theorem ps_76 : Cond.selects "TripleDeskModel" ⟨"TripleDeskModel", "isReady", "()Z"⟩ ⟨"TripleDeskModel", "isReady", "()Z"⟩ ∈ lw_gd := ps_in (q := (⟨"TripleDeskModel", "isReady", "()Z"⟩, 72)) (i := 76) (by decide +kernel)
theorem ps_112 : Cond.selects "TripleDeskModel" ⟨"TripleDeskModel", "termOf", "(II)J"⟩ ⟨"TripleDeskModel", "termOf", "(II)J"⟩ ∈ lw_gd := ps_in (q := (⟨"TripleDeskModel", "termOf", "(II)J"⟩, 72)) (i := 112) (by decide +kernel)
theorem ps_113 : Cond.selects "TripleDeskModel" ⟨"TripleDeskModel", "isTrue", "([III)Z"⟩ ⟨"TripleDeskModel", "isTrue", "([III)Z"⟩ ∈ lw_gd := ps_in (q := (⟨"TripleDeskModel", "isTrue", "([III)Z"⟩, 72)) (i := 113) (by decide +kernel)
