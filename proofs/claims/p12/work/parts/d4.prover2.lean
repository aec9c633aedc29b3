theorem ps_33 : Cond.selects "TripleDesk$Prover" ⟨"TripleDesk$Prover", "fits", "(I)Z"⟩ ⟨"TripleDesk$Prover", "fits", "(I)Z"⟩ ∈ lw_gd := ps_in (q := (⟨"TripleDesk$Prover", "fits", "(I)Z"⟩, 9)) (i := 33) (by decide +kernel)
theorem ps_35 : Cond.selects "TripleDesk$Prover" ⟨"TripleDesk$Prover", "comparison", "(I)I"⟩ ⟨"TripleDesk$Prover", "comparison", "(I)I"⟩ ∈ lw_gd := ps_in (q := (⟨"TripleDesk$Prover", "comparison", "(I)I"⟩, 9)) (i := 35) (by decide +kernel)
theorem ps_39 : Cond.selects "TripleDesk$Prover" ⟨"TripleDesk$Prover", "divide", "(III)V"⟩ ⟨"TripleDesk$Prover", "divide", "(III)V"⟩ ∈ lw_gd := ps_in (q := (⟨"TripleDesk$Prover", "divide", "(III)V"⟩, 9)) (i := 39) (by decide +kernel)
theorem ps_40 : Cond.selects "TripleDesk$Prover" ⟨"TripleDesk$Prover", "rowsAlike", "()I"⟩ ⟨"TripleDesk$Prover", "rowsAlike", "()I"⟩ ∈ lw_gd := ps_in (q := (⟨"TripleDesk$Prover", "rowsAlike", "()I"⟩, 9)) (i := 40) (by decide +kernel)
theorem wd_119 : ((Jvm.Cond.fieldLink "TripleDesk$Prover" (33 : Nat) "TripleDesk$Nodes" "size" "I")) ∈ lw_gd := lw_gd_in (i := 119) (by decide +kernel) rfl
theorem wd_175 : ((Jvm.Cond.fieldLink "TripleDesk$Prover" (12 : Nat) "TripleDesk$Prover" "bounds" "LTripleDesk$Bounds;")) ∈ lw_gd := lw_gd_in (i := 175) (by decide +kernel) rfl
theorem wd_177 : ((Jvm.Cond.fieldLink "TripleDesk$Prover" (54 : Nat) "TripleDesk$Prover" "rows" "I")) ∈ lw_gd := lw_gd_in (i := 177) (by decide +kernel) rfl
theorem wd_179 : ((Jvm.Cond.fieldLink "TripleDesk$Prover" (43 : Nat) "TripleDesk$Prover" "atoms" "I")) ∈ lw_gd := lw_gd_in (i := 179) (by decide +kernel) rfl
theorem wd_181 : ((Jvm.Cond.fieldLink "TripleDesk$Prover" (73 : Nat) "TripleDesk$Prover" "first" "I")) ∈ lw_gd := lw_gd_in (i := 181) (by decide +kernel) rfl
theorem wd_770 : ((Jvm.Cond.instanceMethod ({ cls := "TripleDesk$Nodes", name := "root", desc := "()I" } : Jvm.MethodName))) ∈ lw_gd := lw_gd_in (i := 770) (by decide +kernel) rfl
theorem wd_771 : ((Jvm.Cond.selects "TripleDesk$Nodes" ({ cls := "TripleDesk$Nodes", name := "root", desc := "()I" } : Jvm.MethodName) ({ cls := "TripleDesk$Nodes", name := "root", desc := "()I" } : Jvm.MethodName))) ∈ lw_gd := lw_gd_in (i := 771) (by decide +kernel) rfl
theorem wd_772 : ((Jvm.Cond.code ({ cls := "TripleDesk$Nodes", name := "root", desc := "()I" } : Jvm.MethodName) prog_6_method_3_code (1 : Nat) (Option.some Jvm.ClassFile.FieldType.int))) ∈ lw_gd := lw_gd_in (i := 772) (by decide +kernel) rfl
theorem wd_822 : ((Jvm.Cond.methodLink "TripleDesk$Prover" (63 : Nat) ({ cls := "TripleDesk$Prover", name := "limited", desc := "(I)S" } : Jvm.MethodName))) ∈ lw_gd := lw_gd_in (i := 822) (by decide +kernel) rfl
theorem wd_823 : ((Jvm.Cond.static ({ cls := "TripleDesk$Prover", name := "limited", desc := "(I)S" } : Jvm.MethodName))) ∈ lw_gd := lw_gd_in (i := 823) (by decide +kernel) rfl
theorem wd_824 : ((Jvm.Cond.code ({ cls := "TripleDesk$Prover", name := "limited", desc := "(I)S" } : Jvm.MethodName) prog_8_method_4_code (1 : Nat) (Option.some Jvm.ClassFile.FieldType.short))) ∈ lw_gd := lw_gd_in (i := 824) (by decide +kernel) rfl
theorem wd_826 : ((Jvm.Cond.methodLink "TripleDesk$Prover" (50 : Nat) ({ cls := "TripleDesk$Nodes", name := "root", desc := "()I" } : Jvm.MethodName))) ∈ lw_gd := lw_gd_in (i := 826) (by decide +kernel) rfl
theorem wd_831 : ((Jvm.Cond.methodLink "TripleDesk$Prover" (76 : Nat) ({ cls := "TripleDesk$Prover", name := "fits", desc := "(I)Z" } : Jvm.MethodName))) ∈ lw_gd := lw_gd_in (i := 831) (by decide +kernel) rfl
theorem wd_833 : ((Jvm.Cond.instanceMethod ({ cls := "TripleDesk$Prover", name := "fits", desc := "(I)Z" } : Jvm.MethodName))) ∈ lw_gd := lw_gd_in (i := 833) (by decide +kernel) rfl
theorem wd_834 : ((Jvm.Cond.code ({ cls := "TripleDesk$Prover", name := "fits", desc := "(I)Z" } : Jvm.MethodName) prog_8_method_6_code (5 : Nat) (Option.some Jvm.ClassFile.FieldType.boolean))) ∈ lw_gd := lw_gd_in (i := 834) (by decide +kernel) rfl
theorem wd_835 : ((Jvm.Cond.methodLink "TripleDesk$Prover" (83 : Nat) ({ cls := "TripleDesk$Bounds", name := "clear", desc := "()V" } : Jvm.MethodName))) ∈ lw_gd := lw_gd_in (i := 835) (by decide +kernel) rfl
theorem wd_836 : ((Jvm.Cond.instanceMethod ({ cls := "TripleDesk$Bounds", name := "clear", desc := "()V" } : Jvm.MethodName))) ∈ lw_gd := lw_gd_in (i := 836) (by decide +kernel) rfl
theorem wd_837 : ((Jvm.Cond.selects "TripleDesk$Bounds" ({ cls := "TripleDesk$Bounds", name := "clear", desc := "()V" } : Jvm.MethodName) ({ cls := "TripleDesk$Bounds", name := "clear", desc := "()V" } : Jvm.MethodName))) ∈ lw_gd := lw_gd_in (i := 837) (by decide +kernel) rfl
theorem wd_838 : ((Jvm.Cond.code ({ cls := "TripleDesk$Bounds", name := "clear", desc := "()V" } : Jvm.MethodName) prog_2_method_2_code (2 : Nat) (Option.none : Option Jvm.ClassFile.FieldType))) ∈ lw_gd := lw_gd_in (i := 838) (by decide +kernel) rfl
theorem wd_843 : ((Jvm.Cond.methodLink "TripleDesk$Prover" (93 : Nat) ({ cls := "TripleDesk$Prover", name := "comparison", desc := "(I)I" } : Jvm.MethodName))) ∈ lw_gd := lw_gd_in (i := 843) (by decide +kernel) rfl
theorem wd_845 : ((Jvm.Cond.instanceMethod ({ cls := "TripleDesk$Prover", name := "comparison", desc := "(I)I" } : Jvm.MethodName))) ∈ lw_gd := lw_gd_in (i := 845) (by decide +kernel) rfl
theorem wd_846 : ((Jvm.Cond.code ({ cls := "TripleDesk$Prover", name := "comparison", desc := "(I)I" } : Jvm.MethodName) prog_8_method_9_code (3 : Nat) (Option.some Jvm.ClassFile.FieldType.int))) ∈ lw_gd := lw_gd_in (i := 846) (by decide +kernel) rfl
theorem wd_847 : ((Jvm.Cond.methodLink "TripleDesk$Prover" (97 : Nat) ({ cls := "TripleDesk$Bounds", name := "take", desc := "(III)Z" } : Jvm.MethodName))) ∈ lw_gd := lw_gd_in (i := 847) (by decide +kernel) rfl
theorem wd_848 : ((Jvm.Cond.instanceMethod ({ cls := "TripleDesk$Bounds", name := "take", desc := "(III)Z" } : Jvm.MethodName))) ∈ lw_gd := lw_gd_in (i := 848) (by decide +kernel) rfl
theorem wd_849 : ((Jvm.Cond.selects "TripleDesk$Bounds" ({ cls := "TripleDesk$Bounds", name := "take", desc := "(III)Z" } : Jvm.MethodName) ({ cls := "TripleDesk$Bounds", name := "take", desc := "(III)Z" } : Jvm.MethodName))) ∈ lw_gd := lw_gd_in (i := 849) (by decide +kernel) rfl
theorem wd_850 : ((Jvm.Cond.code ({ cls := "TripleDesk$Bounds", name := "take", desc := "(III)Z" } : Jvm.MethodName) prog_2_method_4_code (7 : Nat) (Option.some Jvm.ClassFile.FieldType.boolean))) ∈ lw_gd := lw_gd_in (i := 850) (by decide +kernel) rfl
theorem wd_863 : ((Jvm.Cond.methodLink "TripleDesk$Prover" (101 : Nat) ({ cls := "TripleDesk$Prover", name := "divide", desc := "(III)V" } : Jvm.MethodName))) ∈ lw_gd := lw_gd_in (i := 863) (by decide +kernel) rfl
theorem wd_865 : ((Jvm.Cond.instanceMethod ({ cls := "TripleDesk$Prover", name := "divide", desc := "(III)V" } : Jvm.MethodName))) ∈ lw_gd := lw_gd_in (i := 865) (by decide +kernel) rfl
theorem wd_866 : ((Jvm.Cond.code ({ cls := "TripleDesk$Prover", name := "divide", desc := "(III)V" } : Jvm.MethodName) prog_8_method_10_code (9 : Nat) (Option.none : Option Jvm.ClassFile.FieldType))) ∈ lw_gd := lw_gd_in (i := 866) (by decide +kernel) rfl
theorem wd_870 : ((Jvm.Cond.methodLink "TripleDesk$Prover" (80 : Nat) ({ cls := "TripleDesk$Prover", name := "rowsAlike", desc := "()I" } : Jvm.MethodName))) ∈ lw_gd := lw_gd_in (i := 870) (by decide +kernel) rfl
theorem wd_872 : ((Jvm.Cond.instanceMethod ({ cls := "TripleDesk$Prover", name := "rowsAlike", desc := "()I" } : Jvm.MethodName))) ∈ lw_gd := lw_gd_in (i := 872) (by decide +kernel) rfl
theorem wd_873 : ((Jvm.Cond.code ({ cls := "TripleDesk$Prover", name := "rowsAlike", desc := "()I" } : Jvm.MethodName) prog_8_method_7_code (3 : Nat) (Option.some Jvm.ClassFile.FieldType.int))) ∈ lw_gd := lw_gd_in (i := 873) (by decide +kernel) rfl
abbrev b_Prover_countNode : ByteArray := prog_8_method_3_code
def y_Prover_countNode : MethodName := ⟨R_Prover, "countNode", "(I)V"⟩
theorem d_Prover_countNode_0 : decode b_Prover_countNode 0 = .ok (.aload_n 0, 1) := by decide +kernel
theorem d_Prover_countNode_1 : decode b_Prover_countNode 1 = .ok (.getfield 29, 3) := by decide +kernel
theorem d_Prover_countNode_4 : decode b_Prover_countNode 4 = .ok (.getfield 39, 3) := by decide +kernel
theorem d_Prover_countNode_7 : decode b_Prover_countNode 7 = .ok (.iload_n 1, 1) := by decide +kernel
theorem d_Prover_countNode_8 : decode b_Prover_countNode 8 = .ok (.baload, 1) := by decide +kernel
theorem d_Prover_countNode_9 : decode b_Prover_countNode 9 = .ok (.istore_n 2, 1) := by decide +kernel
theorem d_Prover_countNode_10 : decode b_Prover_countNode 10 = .ok (.iconst 2, 1) := by decide +kernel
theorem d_Prover_countNode_11 : decode b_Prover_countNode 11 = .ok (.iload_n 1, 1) := by decide +kernel
theorem d_Prover_countNode_12 : decode b_Prover_countNode 12 = .ok (.imul, 1) := by decide +kernel
theorem d_Prover_countNode_13 : decode b_Prover_countNode 13 = .ok (.istore_n 3, 1) := by decide +kernel
theorem d_Prover_countNode_14 : decode b_Prover_countNode 14 = .ok (.iload_n 3, 1) := by decide +kernel
theorem d_Prover_countNode_15 : decode b_Prover_countNode 15 = .ok (.iconst 1, 1) := by decide +kernel
theorem d_Prover_countNode_16 : decode b_Prover_countNode 16 = .ok (.iadd, 1) := by decide +kernel
theorem d_Prover_countNode_17 : decode b_Prover_countNode 17 = .ok (.istore 4, 2) := by decide +kernel
theorem d_Prover_countNode_19 : decode b_Prover_countNode 19 = .ok (.iload_n 2, 1) := by decide +kernel
theorem d_Prover_countNode_20 : decode b_Prover_countNode 20 = .ok (.bipush 6, 2) := by decide +kernel
theorem d_Prover_countNode_22 : decode b_Prover_countNode 22 = .ok (.if_icmp .ge 49, 3) := by decide +kernel
theorem d_Prover_countNode_25 : decode b_Prover_countNode 25 = .ok (.aload_n 0, 1) := by decide +kernel
theorem d_Prover_countNode_26 : decode b_Prover_countNode 26 = .ok (.dup, 1) := by decide +kernel
theorem d_Prover_countNode_27 : decode b_Prover_countNode 27 = .ok (.getfield 43, 3) := by decide +kernel
theorem d_Prover_countNode_30 : decode b_Prover_countNode 30 = .ok (.iconst 1, 1) := by decide +kernel
theorem d_Prover_countNode_31 : decode b_Prover_countNode 31 = .ok (.iadd, 1) := by decide +kernel
theorem d_Prover_countNode_32 : decode b_Prover_countNode 32 = .ok (.putfield 43, 3) := by decide +kernel
theorem d_Prover_countNode_35 : decode b_Prover_countNode 35 = .ok (.aload_n 0, 1) := by decide +kernel
theorem d_Prover_countNode_36 : decode b_Prover_countNode 36 = .ok (.getfield 18, 3) := by decide +kernel
theorem d_Prover_countNode_39 : decode b_Prover_countNode 39 = .ok (.iload 4, 2) := by decide +kernel
theorem d_Prover_countNode_41 : decode b_Prover_countNode 41 = .ok (.iload_n 2, 1) := by decide +kernel
theorem d_Prover_countNode_42 : decode b_Prover_countNode 42 = .ok (.iconst 5, 1) := by decide +kernel
theorem d_Prover_countNode_43 : decode b_Prover_countNode 43 = .ok (.if_icmp .ne 7, 3) := by decide +kernel
theorem d_Prover_countNode_46 : decode b_Prover_countNode 46 = .ok (.iconst 2, 1) := by decide +kernel
theorem d_Prover_countNode_47 : decode b_Prover_countNode 47 = .ok (.goto 4, 3) := by decide +kernel
theorem d_Prover_countNode_50 : decode b_Prover_countNode 50 = .ok (.iconst 1, 1) := by decide +kernel
theorem d_Prover_countNode_51 : decode b_Prover_countNode 51 = .ok (.i2s, 1) := by decide +kernel
theorem d_Prover_countNode_52 : decode b_Prover_countNode 52 = .ok (.sastore, 1) := by decide +kernel
theorem d_Prover_countNode_53 : decode b_Prover_countNode 53 = .ok (.aload_n 0, 1) := by decide +kernel
theorem d_Prover_countNode_54 : decode b_Prover_countNode 54 = .ok (.getfield 18, 3) := by decide +kernel
theorem d_Prover_countNode_57 : decode b_Prover_countNode 57 = .ok (.iload_n 3, 1) := by decide +kernel
theorem d_Prover_countNode_58 : decode b_Prover_countNode 58 = .ok (.iload_n 2, 1) := by decide +kernel
theorem d_Prover_countNode_59 : decode b_Prover_countNode 59 = .ok (.iconst 4, 1) := by decide +kernel
theorem d_Prover_countNode_60 : decode b_Prover_countNode 60 = .ok (.if_icmp .ne 7, 3) := by decide +kernel
theorem d_Prover_countNode_63 : decode b_Prover_countNode 63 = .ok (.iconst 2, 1) := by decide +kernel
theorem d_Prover_countNode_64 : decode b_Prover_countNode 64 = .ok (.goto 4, 3) := by decide +kernel
theorem d_Prover_countNode_67 : decode b_Prover_countNode 67 = .ok (.iconst 1, 1) := by decide +kernel
theorem d_Prover_countNode_68 : decode b_Prover_countNode 68 = .ok (.i2s, 1) := by decide +kernel
theorem d_Prover_countNode_69 : decode b_Prover_countNode 69 = .ok (.sastore, 1) := by decide +kernel
theorem d_Prover_countNode_70 : decode b_Prover_countNode 70 = .ok (.return_, 1) := by decide +kernel
theorem d_Prover_countNode_71 : decode b_Prover_countNode 71 = .ok (.iconst 2, 1) := by decide +kernel
theorem d_Prover_countNode_72 : decode b_Prover_countNode 72 = .ok (.aload_n 0, 1) := by decide +kernel
theorem d_Prover_countNode_73 : decode b_Prover_countNode 73 = .ok (.getfield 29, 3) := by decide +kernel
theorem d_Prover_countNode_76 : decode b_Prover_countNode 76 = .ok (.getfield 57, 3) := by decide +kernel
theorem d_Prover_countNode_79 : decode b_Prover_countNode 79 = .ok (.iload_n 1, 1) := by decide +kernel
theorem d_Prover_countNode_80 : decode b_Prover_countNode 80 = .ok (.iaload, 1) := by decide +kernel
theorem d_Prover_countNode_81 : decode b_Prover_countNode 81 = .ok (.imul, 1) := by decide +kernel
theorem d_Prover_countNode_82 : decode b_Prover_countNode 82 = .ok (.istore 5, 2) := by decide +kernel
theorem d_Prover_countNode_84 : decode b_Prover_countNode 84 = .ok (.iload_n 2, 1) := by decide +kernel
theorem d_Prover_countNode_85 : decode b_Prover_countNode 85 = .ok (.bipush 6, 2) := by decide +kernel
theorem d_Prover_countNode_87 : decode b_Prover_countNode 87 = .ok (.if_icmp .ne 33, 3) := by decide +kernel
theorem d_Prover_countNode_90 : decode b_Prover_countNode 90 = .ok (.aload_n 0, 1) := by decide +kernel
theorem d_Prover_countNode_91 : decode b_Prover_countNode 91 = .ok (.getfield 18, 3) := by decide +kernel
theorem d_Prover_countNode_94 : decode b_Prover_countNode 94 = .ok (.iload 4, 2) := by decide +kernel
theorem d_Prover_countNode_96 : decode b_Prover_countNode 96 = .ok (.aload_n 0, 1) := by decide +kernel
theorem d_Prover_countNode_97 : decode b_Prover_countNode 97 = .ok (.getfield 18, 3) := by decide +kernel
theorem d_Prover_countNode_100 : decode b_Prover_countNode 100 = .ok (.iload 5, 2) := by decide +kernel
theorem d_Prover_countNode_102 : decode b_Prover_countNode 102 = .ok (.saload, 1) := by decide +kernel
theorem d_Prover_countNode_103 : decode b_Prover_countNode 103 = .ok (.sastore, 1) := by decide +kernel
theorem d_Prover_countNode_104 : decode b_Prover_countNode 104 = .ok (.aload_n 0, 1) := by decide +kernel
theorem d_Prover_countNode_105 : decode b_Prover_countNode 105 = .ok (.getfield 18, 3) := by decide +kernel
theorem d_Prover_countNode_108 : decode b_Prover_countNode 108 = .ok (.iload_n 3, 1) := by decide +kernel
theorem d_Prover_countNode_109 : decode b_Prover_countNode 109 = .ok (.aload_n 0, 1) := by decide +kernel
theorem d_Prover_countNode_110 : decode b_Prover_countNode 110 = .ok (.getfield 18, 3) := by decide +kernel
theorem d_Prover_countNode_113 : decode b_Prover_countNode 113 = .ok (.iload 5, 2) := by decide +kernel
theorem d_Prover_countNode_115 : decode b_Prover_countNode 115 = .ok (.iconst 1, 1) := by decide +kernel
theorem d_Prover_countNode_116 : decode b_Prover_countNode 116 = .ok (.iadd, 1) := by decide +kernel
theorem d_Prover_countNode_117 : decode b_Prover_countNode 117 = .ok (.saload, 1) := by decide +kernel
theorem d_Prover_countNode_118 : decode b_Prover_countNode 118 = .ok (.sastore, 1) := by decide +kernel
theorem d_Prover_countNode_119 : decode b_Prover_countNode 119 = .ok (.return_, 1) := by decide +kernel
theorem d_Prover_countNode_120 : decode b_Prover_countNode 120 = .ok (.iconst 2, 1) := by decide +kernel
theorem d_Prover_countNode_121 : decode b_Prover_countNode 121 = .ok (.aload_n 0, 1) := by decide +kernel
theorem d_Prover_countNode_122 : decode b_Prover_countNode 122 = .ok (.getfield 29, 3) := by decide +kernel
theorem d_Prover_countNode_125 : decode b_Prover_countNode 125 = .ok (.getfield 60, 3) := by decide +kernel
theorem d_Prover_countNode_128 : decode b_Prover_countNode 128 = .ok (.iload_n 1, 1) := by decide +kernel
theorem d_Prover_countNode_129 : decode b_Prover_countNode 129 = .ok (.iaload, 1) := by decide +kernel
theorem d_Prover_countNode_130 : decode b_Prover_countNode 130 = .ok (.imul, 1) := by decide +kernel
theorem d_Prover_countNode_131 : decode b_Prover_countNode 131 = .ok (.istore 6, 2) := by decide +kernel
theorem d_Prover_countNode_133 : decode b_Prover_countNode 133 = .ok (.iload_n 2, 1) := by decide +kernel
theorem d_Prover_countNode_134 : decode b_Prover_countNode 134 = .ok (.bipush 7, 2) := by decide +kernel
theorem d_Prover_countNode_136 : decode b_Prover_countNode 136 = .ok (.if_icmp .ne 7, 3) := by decide +kernel
theorem d_Prover_countNode_139 : decode b_Prover_countNode 139 = .ok (.iconst 1, 1) := by decide +kernel
theorem d_Prover_countNode_140 : decode b_Prover_countNode 140 = .ok (.goto 4, 3) := by decide +kernel
theorem d_Prover_countNode_143 : decode b_Prover_countNode 143 = .ok (.iconst 0, 1) := by decide +kernel
theorem d_Prover_countNode_144 : decode b_Prover_countNode 144 = .ok (.istore 7, 2) := by decide +kernel
theorem d_Prover_countNode_146 : decode b_Prover_countNode 146 = .ok (.iconst 1, 1) := by decide +kernel
theorem d_Prover_countNode_147 : decode b_Prover_countNode 147 = .ok (.iload 7, 2) := by decide +kernel
theorem d_Prover_countNode_149 : decode b_Prover_countNode 149 = .ok (.isub, 1) := by decide +kernel
theorem d_Prover_countNode_150 : decode b_Prover_countNode 150 = .ok (.istore 8, 2) := by decide +kernel
theorem d_Prover_countNode_152 : decode b_Prover_countNode 152 = .ok (.aload_n 0, 1) := by decide +kernel
theorem d_Prover_countNode_153 : decode b_Prover_countNode 153 = .ok (.getfield 18, 3) := by decide +kernel
theorem d_Prover_countNode_156 : decode b_Prover_countNode 156 = .ok (.iload_n 3, 1) := by decide +kernel
theorem d_Prover_countNode_157 : decode b_Prover_countNode 157 = .ok (.iload 7, 2) := by decide +kernel
theorem d_Prover_countNode_159 : decode b_Prover_countNode 159 = .ok (.iadd, 1) := by decide +kernel
theorem d_Prover_countNode_160 : decode b_Prover_countNode 160 = .ok (.aload_n 0, 1) := by decide +kernel
theorem d_Prover_countNode_161 : decode b_Prover_countNode 161 = .ok (.getfield 18, 3) := by decide +kernel
theorem d_Prover_countNode_164 : decode b_Prover_countNode 164 = .ok (.iload 5, 2) := by decide +kernel
theorem d_Prover_countNode_166 : decode b_Prover_countNode 166 = .ok (.iload 7, 2) := by decide +kernel
theorem d_Prover_countNode_168 : decode b_Prover_countNode 168 = .ok (.iadd, 1) := by decide +kernel
theorem d_Prover_countNode_169 : decode b_Prover_countNode 169 = .ok (.saload, 1) := by decide +kernel
theorem d_Prover_countNode_170 : decode b_Prover_countNode 170 = .ok (.aload_n 0, 1) := by decide +kernel
theorem d_Prover_countNode_171 : decode b_Prover_countNode 171 = .ok (.getfield 18, 3) := by decide +kernel
theorem d_Prover_countNode_174 : decode b_Prover_countNode 174 = .ok (.iload 6, 2) := by decide +kernel
theorem d_Prover_countNode_176 : decode b_Prover_countNode 176 = .ok (.iload 7, 2) := by decide +kernel
theorem d_Prover_countNode_178 : decode b_Prover_countNode 178 = .ok (.iadd, 1) := by decide +kernel
theorem d_Prover_countNode_179 : decode b_Prover_countNode 179 = .ok (.saload, 1) := by decide +kernel
theorem d_Prover_countNode_180 : decode b_Prover_countNode 180 = .ok (.imul, 1) := by decide +kernel
theorem d_Prover_countNode_181 : decode b_Prover_countNode 181 = .ok (.invokestatic 63, 3) := by decide +kernel
theorem d_Prover_countNode_184 : decode b_Prover_countNode 184 = .ok (.sastore, 1) := by decide +kernel
theorem d_Prover_countNode_185 : decode b_Prover_countNode 185 = .ok (.aload_n 0, 1) := by decide +kernel
theorem d_Prover_countNode_186 : decode b_Prover_countNode 186 = .ok (.getfield 18, 3) := by decide +kernel
theorem d_Prover_countNode_189 : decode b_Prover_countNode 189 = .ok (.iload_n 3, 1) := by decide +kernel
theorem d_Prover_countNode_190 : decode b_Prover_countNode 190 = .ok (.iload 8, 2) := by decide +kernel
theorem d_Prover_countNode_192 : decode b_Prover_countNode 192 = .ok (.iadd, 1) := by decide +kernel
theorem d_Prover_countNode_193 : decode b_Prover_countNode 193 = .ok (.aload_n 0, 1) := by decide +kernel
theorem d_Prover_countNode_194 : decode b_Prover_countNode 194 = .ok (.getfield 18, 3) := by decide +kernel
theorem d_Prover_countNode_197 : decode b_Prover_countNode 197 = .ok (.iload 5, 2) := by decide +kernel
theorem d_Prover_countNode_199 : decode b_Prover_countNode 199 = .ok (.iload 8, 2) := by decide +kernel
theorem d_Prover_countNode_201 : decode b_Prover_countNode 201 = .ok (.iadd, 1) := by decide +kernel
theorem d_Prover_countNode_202 : decode b_Prover_countNode 202 = .ok (.saload, 1) := by decide +kernel
theorem d_Prover_countNode_203 : decode b_Prover_countNode 203 = .ok (.aload_n 0, 1) := by decide +kernel
theorem d_Prover_countNode_204 : decode b_Prover_countNode 204 = .ok (.getfield 18, 3) := by decide +kernel
theorem d_Prover_countNode_207 : decode b_Prover_countNode 207 = .ok (.iload 6, 2) := by decide +kernel
theorem d_Prover_countNode_209 : decode b_Prover_countNode 209 = .ok (.iload 8, 2) := by decide +kernel
theorem d_Prover_countNode_211 : decode b_Prover_countNode 211 = .ok (.iadd, 1) := by decide +kernel
theorem d_Prover_countNode_212 : decode b_Prover_countNode 212 = .ok (.saload, 1) := by decide +kernel
theorem d_Prover_countNode_213 : decode b_Prover_countNode 213 = .ok (.iadd, 1) := by decide +kernel
theorem d_Prover_countNode_214 : decode b_Prover_countNode 214 = .ok (.invokestatic 63, 3) := by decide +kernel
theorem d_Prover_countNode_217 : decode b_Prover_countNode 217 = .ok (.sastore, 1) := by decide +kernel
theorem d_Prover_countNode_218 : decode b_Prover_countNode 218 = .ok (.return_, 1) := by decide +kernel
set_option maxHeartbeats 40000000 in
set_option maxRecDepth 100000 in
theorem c_P_countNode (l : Launch) (D : va_G) (ax : Nat → ClassId) (p0 q1 q2 q3 wt rl b0 : Nat) (s_rows s_atoms s_first : Int32) (ro ix : Nat → Int32) (dm : Nat → Nat) (n0 n1 n2 n3 cp z9 : Nat) (fo fl fr : Nat → Int32) (nd : Nat) (sz : Nat) (hnd : nd < z9) (hz9 : z9 ≤ cp) (hcp : cp ≤ 100000) (hrl : 2 * z9 ≤ rl) (hrl2 : rl ≤ 300000) (hnv : ndv fo fl fr z9) : Met l y_Prover_countNode (xws (.code y_Prover_countNode b_Prover_countNode 9 none)) ({ frames := 20, cells := 0, slots := 0, locals := 800 }) (va_Pc [.ref p0, .int (nI nd)] (xo D ax [(p0, .inr (6, [.ref b0, .int s_rows, .int s_atoms, .int s_first, .ref n0, .ref q1, .ref q2, .ref q3, .int (nI wt)])), (q1, .inl (ax 2, rl, .inl ro)), (q2, .inl (ax 0, 64, .inl (fun j => nI (dm j)))), (q3, .inl (ax 0, 64, .inl ix)), (n0, .inr (4, [.ref n1, .ref n2, .ref n3, .int (nI z9)])), (n1, .inl (ax 1, cp, .inl fo)), (n2, .inl (ax 0, cp, .inl fl)), (n3, .inl (ax 0, cp, .inl fr))] sz)) ((va_Qv (fun (u : Nat → Nat) => True) (fun (u : Nat → Nat) (t9 : State) => ∃ xro : Nat → Int32, ∃ xat : Int32, (True) ∧ va_P D classes [(p0, .inr (6, [.ref b0, .int s_rows, .int xat, .int s_first, .ref n0, .ref q1, .ref q2, .ref q3, .int (nI wt)])), (q1, .inl (ax 2, rl, .inl xro)), (q2, .inl (ax 0, 64, .inl (fun j => nI (dm j)))), (q3, .inl (ax 0, 64, .inl ix)), (n0, .inr (4, [.ref n1, .ref n2, .ref n3, .int (nI z9)])), (n1, .inl (ax 1, cp, .inl fo)), (n2, .inl (ax 0, cp, .inl fl)), (n3, .inl (ax 0, cp, .inl fr))] t9.heap ∧ va_D (va_A [(p0, .inr (6, [.ref b0, .int s_rows, .int s_atoms, .int s_first, .ref n0, .ref q1, .ref q2, .ref q3, .int (nI wt)])), (q1, .inl (ax 2, rl, .inl ro)), (q2, .inl (ax 0, 64, .inl (fun j => nI (dm j)))), (q3, .inl (ax 0, 64, .inl ix)), (n0, .inr (4, [.ref n1, .ref n2, .ref n3, .int (nI z9)])), (n1, .inl (ax 1, cp, .inl fo)), (n2, .inl (ax 0, cp, .inl fl)), (n3, .inl (ax 0, cp, .inl fr))] sz) [(p0, .inr (6, [.ref b0, .int s_rows, .int xat, .int s_first, .ref n0, .ref q1, .ref q2, .ref q3, .int (nI wt)])), (q1, .inl (ax 2, rl, .inl xro)), (q2, .inl (ax 0, 64, .inl (fun j => nI (dm j)))), (q3, .inl (ax 0, 64, .inl ix)), (n0, .inr (4, [.ref n1, .ref n2, .ref n3, .int (nI z9)])), (n1, .inl (ax 1, cp, .inl fo)), (n2, .inl (ax 0, cp, .inl fl)), (n3, .inl (ax 0, cp, .inl fr))]) (va_A [(p0, .inr (6, [.ref b0, .int s_rows, .int s_atoms, .int s_first, .ref n0, .ref q1, .ref q2, .ref q3, .int (nI wt)])), (q1, .inl (ax 2, rl, .inl ro)), (q2, .inl (ax 0, 64, .inl (fun j => nI (dm j)))), (q3, .inl (ax 0, 64, .inl ix)), (n0, .inr (4, [.ref n1, .ref n2, .ref n3, .int (nI z9)])), (n1, .inl (ax 1, cp, .inl fo)), (n2, .inl (ax 0, cp, .inl fl)), (n3, .inl (ax 0, cp, .inl fr))] sz))) 0 0 (va_A [(p0, .inr (6, [.ref b0, .int s_rows, .int s_atoms, .int s_first, .ref n0, .ref q1, .ref q2, .ref q3, .int (nI wt)])), (q1, .inl (ax 2, rl, .inl ro)), (q2, .inl (ax 0, 64, .inl (fun j => nI (dm j)))), (q3, .inl (ax 0, 64, .inl ix)), (n0, .inr (4, [.ref n1, .ref n2, .ref n3, .int (nI z9)])), (n1, .inl (ax 1, cp, .inl fo)), (n2, .inl (ax 0, cp, .inl fl)), (n3, .inl (ax 0, cp, .inl fr))] sz) := by
  refine Met.ofW (cc := b_Prover_countNode) (maxL := 9) (ret := none) (by decide) rfl ?_
  intro p e s m args below meth c s₁ B hml hv
  obtain ⟨rfl, hsz, hP, hK, hD0⟩ := hv
  have hx := B.exec
  have hb := B.bytes
  have hr := B.returns
  have hts := xw_hts B.pre
  have hown : s.vm.findClass R_Prover = some m.cls := findClass_of_methodNamed B.named
  have hlocks := B.notSynchronized
  subst hsz
  have hD := hD0.self (sz := s.heap.size)
  have hN := xz_entry hP
  generalize hAe : va_A [(p0, .inr (6, [.ref b0, .int s_rows, .int s_atoms, .int s_first, .ref n0, .ref q1, .ref q2, .ref q3, .int (nI wt)])), (q1, .inl (ax 2, rl, .inl ro)), (q2, .inl (ax 0, 64, .inl (fun j => nI (dm j)))), (q3, .inl (ax 0, 64, .inl ix)), (n0, .inr (4, [.ref n1, .ref n2, .ref n3, .int (nI z9)])), (n1, .inl (ax 1, cp, .inl fo)), (n2, .inl (ax 0, cp, .inl fl)), (n3, .inl (ax 0, cp, .inl fr))] s.heap.size = A at hD hN ⊢
  have hA : ∀ q : Nat, s.heap.size ≤ q → A q := fun q h => by rw [← hAe]; exact Or.inr h
  have hS : va_S A s.heap s.heap [] := va_S.rf
  have hl0 := lv_entry ([.ref p0, .int (nI nd)]) (n := 9) (Nat.le_of_ble_eq_true rfl)
  rw [lg_entry_eq]
  generalize (lg_sl ([.ref p0, .int (nI nd)]) ++ List.replicate (9 - (lg_sl ([.ref p0, .int (nI nd)])).length) Slot.unset).toArray = ls at hl0 ⊢
  have hl1 : lv_has ls 9 [(0, .ref p0), (1, .int (nI nd))] := hl0
  refine xw_gen (fun Z9 hQe => ?_)
  obtain ⟨o9, ho1, ho2, hnp⟩ := nd_p (hnv nd hnd)
  refine lv_aload_n hx hb d_Prover_countNode_0 rfl (lv_at hl1 0 rfl) ?_
  refine va_get (D := D) (ci := 6) (v := .ref n0) (C := R_Prover) (T := F_Prover) (N := 9) hx hb hts i_Prover hown hK.1 hP 0 rfl rfl 4 (by decide) (hts _ wd_183) (fun _ h9 => h9) rfl d_Prover_countNode_1 ?_
  refine va_get (D := D) (ci := 4) (v := .ref n1) (C := R_Nodes) (T := F_Nodes) (N := 4) hx hb hts i_Nodes hown hK.1 hP 4 rfl rfl 0 (by decide) (hts _ wd_104) (fun _ h9 => h9) rfl d_Prover_countNode_4 ?_
  refine lv_iload_n hx hb d_Prover_countNode_7 rfl (lv_at hl1 1 rfl) ?_
  refine va_bald hx hb hK.1 hP 5 1 rfl rfl (vp_in_nI (by first | assumption | omega) (by first | exact Nat.lt_of_lt_of_le (by assumption) (by decide) | exact Nat.lt_of_le_of_lt (by assumption) (by decide) | omega)) d_Prover_countNode_8 ?_
  refine W.eq (g2 := F0 m 9 ls [.int (fo nd)]) (by rw [nI_clamp (by first | exact Nat.lt_of_lt_of_le (by assumption) (by decide) | exact Nat.lt_of_le_of_lt (by assumption) (by decide) | omega)]) ?_
  refine W.eq (g2 := F0 m 9 ls [.int (nI o9)]) (by rw [ho2]) ?_
  refine lv_istore_n (lv' := [(2, .int (nI o9)), (0, .ref p0), (1, .int (nI nd))]) hx hb d_Prover_countNode_9 rfl hl1 (by decide) rfl (fun ls hl2 => ?_)
  clear hl1; have hl1 := hl2; clear hl2
  refine lv_iconst (v := 2) hx hb d_Prover_countNode_10 (by decide) ?_
  refine lv_iload_n hx hb d_Prover_countNode_11 rfl (lv_at hl1 2 rfl) ?_
  refine lv_imul hx hb d_Prover_countNode_12 ?_
  refine lv_topi (fun z_1 ez_1 => ?_)
  have ez_1 : z_1 = nI (2 * nd) := ez_1.trans (pk_mul 2 nd)
  subst ez_1
  refine lv_istore_n (lv' := [(3, .int (nI (2 * nd))), (2, .int (nI o9)), (0, .ref p0), (1, .int (nI nd))]) hx hb d_Prover_countNode_13 rfl hl1 (by decide) rfl (fun ls hl2 => ?_)
  clear hl1; have hl1 := hl2; clear hl2
  refine lv_iload_n hx hb d_Prover_countNode_14 rfl (lv_at hl1 0 rfl) ?_
  refine lv_iconst (v := 1) hx hb d_Prover_countNode_15 (by decide) ?_
  refine lv_iadd hx hb d_Prover_countNode_16 ?_
  refine lv_topi (fun z_2 ez_2 => ?_)
  have ez_2 : z_2 = nI (2 * nd + 1) := ez_2.trans (nI_add (2 * nd) 1)
  subst ez_2
  refine lv_istore (lv' := [(4, .int (nI (2 * nd + 1))), (3, .int (nI (2 * nd))), (2, .int (nI o9)), (0, .ref p0), (1, .int (nI nd))]) hx hb d_Prover_countNode_17 hl1 (by decide) rfl (fun ls hl2 => ?_)
  clear hl1; have hl1 := hl2; clear hl2
  refine lv_iload_n hx hb d_Prover_countNode_19 rfl (lv_at hl1 2 rfl) ?_
  refine lv_bipush (v := 6) hx hb d_Prover_countNode_20 (by decide) ?_
  refine lv_icmp_ge (tgt := 71) hx hb d_Prover_countNode_22 (by decide) (fun c_3 => ?_) (fun c_3 => ?_)
  · replace c_3 : 6 ≤ o9 := (nI_leI (a := 6) (b := o9) (by decide) (by first | exact Nat.lt_of_lt_of_le (by assumption) (by decide) | exact Nat.lt_of_le_of_lt (by assumption) (by decide) | omega)).mp c_3
    obtain ⟨a9, ha1, ha2⟩ := hnp.2.1 (by first | assumption | omega)
    refine lv_iconst (v := 2) hx hb d_Prover_countNode_71 (by decide) ?_
    refine lv_aload_n hx hb d_Prover_countNode_72 rfl (lv_at hl1 3 rfl) ?_
    refine va_get (D := D) (ci := 6) (v := .ref n0) (C := R_Prover) (T := F_Prover) (N := 9) hx hb hts i_Prover hown hK.1 hP 0 rfl rfl 4 (by decide) (hts _ wd_183) (fun _ h9 => h9) rfl d_Prover_countNode_73 ?_
    refine va_get (D := D) (ci := 4) (v := .ref n2) (C := R_Nodes) (T := F_Nodes) (N := 4) hx hb hts i_Nodes hown hK.1 hP 4 rfl rfl 1 (by decide) (hts _ wd_110) (fun _ h9 => h9) rfl d_Prover_countNode_76 ?_
    refine lv_iload_n hx hb d_Prover_countNode_79 rfl (lv_at hl1 4 rfl) ?_
    refine va_iald hx hb hK.1 hP 6 0 rfl rfl (vp_in_nI (by first | assumption | omega) (by first | exact Nat.lt_of_lt_of_le (by assumption) (by decide) | exact Nat.lt_of_le_of_lt (by assumption) (by decide) | omega)) d_Prover_countNode_80 ?_
    refine W.eq (g2 := F0 m 81 ls [.int (fl nd), .int 2]) (by rw [nI_clamp (by first | exact Nat.lt_of_lt_of_le (by assumption) (by decide) | exact Nat.lt_of_le_of_lt (by assumption) (by decide) | omega)]) ?_
    refine W.eq (g2 := F0 m 81 ls [.int (nI a9), .int 2]) (by rw [ha2]) ?_
    refine lv_imul hx hb d_Prover_countNode_81 ?_
    refine lv_topi (fun z_4 ez_4 => ?_)
    have ez_4 : z_4 = nI (2 * a9) := ez_4.trans (pk_mul 2 a9)
    subst ez_4
    refine lv_istore (lv' := [(5, .int (nI (2 * a9))), (4, .int (nI (2 * nd + 1))), (3, .int (nI (2 * nd))), (2, .int (nI o9)), (0, .ref p0), (1, .int (nI nd))]) hx hb d_Prover_countNode_82 hl1 (by decide) rfl (fun ls hl2 => ?_)
    clear hl1; have hl1 := hl2; clear hl2
    refine lv_iload_n hx hb d_Prover_countNode_84 rfl (lv_at hl1 3 rfl) ?_
    refine lv_bipush (v := 6) hx hb d_Prover_countNode_85 (by decide) ?_
    refine lv_icmp_ne (tgt := 120) hx hb d_Prover_countNode_87 (by decide) (fun c_5 => ?_) (fun c_5 => ?_)
    · replace c_5 : ¬ o9 = 6 := fun hq9 => c_5 ((nI_eq (a := o9) (b := 6) (by first | exact Nat.lt_of_lt_of_le (by assumption) (by decide) | exact Nat.lt_of_le_of_lt (by assumption) (by decide) | omega) (by decide)).mpr hq9)
      obtain ⟨c9, hc1, hc2⟩ := hnp.2.2 (by first | assumption | omega)
      refine lv_iconst (v := 2) hx hb d_Prover_countNode_120 (by decide) ?_
      refine lv_aload_n hx hb d_Prover_countNode_121 rfl (lv_at hl1 4 rfl) ?_
      refine va_get (D := D) (ci := 6) (v := .ref n0) (C := R_Prover) (T := F_Prover) (N := 9) hx hb hts i_Prover hown hK.1 hP 0 rfl rfl 4 (by decide) (hts _ wd_183) (fun _ h9 => h9) rfl d_Prover_countNode_122 ?_
      refine va_get (D := D) (ci := 4) (v := .ref n3) (C := R_Nodes) (T := F_Nodes) (N := 4) hx hb hts i_Nodes hown hK.1 hP 4 rfl rfl 2 (by decide) (hts _ wd_115) (fun _ h9 => h9) rfl d_Prover_countNode_125 ?_
      refine lv_iload_n hx hb d_Prover_countNode_128 rfl (lv_at hl1 5 rfl) ?_
      refine va_iald hx hb hK.1 hP 7 0 rfl rfl (vp_in_nI (by first | assumption | omega) (by first | exact Nat.lt_of_lt_of_le (by assumption) (by decide) | exact Nat.lt_of_le_of_lt (by assumption) (by decide) | omega)) d_Prover_countNode_129 ?_
      refine W.eq (g2 := F0 m 130 ls [.int (fr nd), .int 2]) (by rw [nI_clamp (by first | exact Nat.lt_of_lt_of_le (by assumption) (by decide) | exact Nat.lt_of_le_of_lt (by assumption) (by decide) | omega)]) ?_
      refine W.eq (g2 := F0 m 130 ls [.int (nI c9), .int 2]) (by rw [hc2]) ?_
      refine lv_imul hx hb d_Prover_countNode_130 ?_
      refine lv_topi (fun z_6 ez_6 => ?_)
      have ez_6 : z_6 = nI (2 * c9) := ez_6.trans (pk_mul 2 c9)
      subst ez_6
      refine lv_istore (lv' := [(6, .int (nI (2 * c9))), (5, .int (nI (2 * a9))), (4, .int (nI (2 * nd + 1))), (3, .int (nI (2 * nd))), (2, .int (nI o9)), (0, .ref p0), (1, .int (nI nd))]) hx hb d_Prover_countNode_131 hl1 (by decide) rfl (fun ls hl2 => ?_)
      clear hl1; have hl1 := hl2; clear hl2
      refine lv_iload_n hx hb d_Prover_countNode_133 rfl (lv_at hl1 4 rfl) ?_
      refine lv_bipush (v := 7) hx hb d_Prover_countNode_134 (by decide) ?_
      refine lv_icmp_ne (tgt := 143) hx hb d_Prover_countNode_136 (by decide) (fun c_7 => ?_) (fun c_7 => ?_)
      · replace c_7 : ¬ o9 = 7 := fun hq9 => c_7 ((nI_eq (a := o9) (b := 7) (by first | exact Nat.lt_of_lt_of_le (by assumption) (by decide) | exact Nat.lt_of_le_of_lt (by assumption) (by decide) | omega) (by decide)).mpr hq9)
        refine lv_iconst (v := 0) hx hb d_Prover_countNode_143 (by decide) ?_
        refine lv_istore (lv' := [(7, .int 0), (6, .int (nI (2 * c9))), (5, .int (nI (2 * a9))), (4, .int (nI (2 * nd + 1))), (3, .int (nI (2 * nd))), (2, .int (nI o9)), (0, .ref p0), (1, .int (nI nd))]) hx hb d_Prover_countNode_144 hl1 (by decide) rfl (fun ls hl2 => ?_)
        clear hl1; have hl1 := hl2; clear hl2
        refine lv_iconst (v := 1) hx hb d_Prover_countNode_146 (by decide) ?_
        refine lv_iload hx hb d_Prover_countNode_147 (lv_at hl1 0 rfl) ?_
        refine lv_isub hx hb d_Prover_countNode_149 ?_
        refine lv_topi (fun z_8 ez_8 => ?_)
        have ez_8 : z_8 = 1 := ez_8.trans (by first | rfl | decide)
        subst ez_8
        refine lv_istore (lv' := [(8, .int 1), (7, .int 0), (6, .int (nI (2 * c9))), (5, .int (nI (2 * a9))), (4, .int (nI (2 * nd + 1))), (3, .int (nI (2 * nd))), (2, .int (nI o9)), (0, .ref p0), (1, .int (nI nd))]) hx hb d_Prover_countNode_150 hl1 (by decide) rfl (fun ls hl2 => ?_)
        clear hl1; have hl1 := hl2; clear hl2
        refine lv_aload_n hx hb d_Prover_countNode_152 rfl (lv_at hl1 7 rfl) ?_
        refine va_get (D := D) (ci := 6) (v := .ref q1) (C := R_Prover) (T := F_Prover) (N := 9) hx hb hts i_Prover hown hK.1 hP 0 rfl rfl 5 (by decide) (hts _ wd_184) (fun _ h9 => h9) rfl d_Prover_countNode_153 ?_
        refine lv_iload_n hx hb d_Prover_countNode_156 rfl (lv_at hl1 5 rfl) ?_
        refine lv_iload hx hb d_Prover_countNode_157 (lv_at hl1 1 rfl) ?_
        refine lv_iadd hx hb d_Prover_countNode_159 ?_
        refine lv_topi (fun z_9 ez_9 => ?_)
        have ez_9 : z_9 = nI (2 * nd + 0) := ez_9.trans (nI_add (2 * nd) 0)
        subst ez_9
        refine lv_aload_n hx hb d_Prover_countNode_160 rfl (lv_at hl1 7 rfl) ?_
        refine va_get (D := D) (ci := 6) (v := .ref q1) (C := R_Prover) (T := F_Prover) (N := 9) hx hb hts i_Prover hown hK.1 hP 0 rfl rfl 5 (by decide) (hts _ wd_184) (fun _ h9 => h9) rfl d_Prover_countNode_161 ?_
        refine lv_iload hx hb d_Prover_countNode_164 (lv_at hl1 3 rfl) ?_
        refine lv_iload hx hb d_Prover_countNode_166 (lv_at hl1 1 rfl) ?_
        refine lv_iadd hx hb d_Prover_countNode_168 ?_
        refine lv_topi (fun z_10 ez_10 => ?_)
        have ez_10 : z_10 = nI (2 * a9 + 0) := ez_10.trans (nI_add (2 * a9) 0)
        subst ez_10
        refine va_sald hx hb hK.1 hP 1 2 rfl rfl (vp_in_nI (by first | assumption | omega) (by first | exact Nat.lt_of_lt_of_le (by assumption) (by decide) | exact Nat.lt_of_le_of_lt (by assumption) (by decide) | omega)) d_Prover_countNode_169 ?_
        refine W.eq (g2 := F0 m 170 ls [.int (ro (2 * a9 + 0)), .int (nI (2 * nd + 0)), .ref q1]) (by rw [nI_clamp (by first | exact Nat.lt_of_lt_of_le (by assumption) (by decide) | exact Nat.lt_of_le_of_lt (by assumption) (by decide) | omega)]) ?_
        refine lv_aload_n hx hb d_Prover_countNode_170 rfl (lv_at hl1 7 rfl) ?_
        refine va_get (D := D) (ci := 6) (v := .ref q1) (C := R_Prover) (T := F_Prover) (N := 9) hx hb hts i_Prover hown hK.1 hP 0 rfl rfl 5 (by decide) (hts _ wd_184) (fun _ h9 => h9) rfl d_Prover_countNode_171 ?_
        refine lv_iload hx hb d_Prover_countNode_174 (lv_at hl1 2 rfl) ?_
        refine lv_iload hx hb d_Prover_countNode_176 (lv_at hl1 1 rfl) ?_
        refine lv_iadd hx hb d_Prover_countNode_178 ?_
        refine lv_topi (fun z_11 ez_11 => ?_)
        have ez_11 : z_11 = nI (2 * c9 + 0) := ez_11.trans (nI_add (2 * c9) 0)
        subst ez_11
        refine va_sald hx hb hK.1 hP 1 2 rfl rfl (vp_in_nI (by first | assumption | omega) (by first | exact Nat.lt_of_lt_of_le (by assumption) (by decide) | exact Nat.lt_of_le_of_lt (by assumption) (by decide) | omega)) d_Prover_countNode_179 ?_
        refine W.eq (g2 := F0 m 180 ls [.int (ro (2 * c9 + 0)), .int (ro (2 * a9 + 0)), .int (nI (2 * nd + 0)), .ref q1]) (by rw [nI_clamp (by first | exact Nat.lt_of_lt_of_le (by assumption) (by decide) | exact Nat.lt_of_le_of_lt (by assumption) (by decide) | omega)]) ?_
        refine lv_imul hx hb d_Prover_countNode_180 ?_
        refine lv_topi (fun z_12 ez_12 => ?_)
        obtain ⟨hPc, hDc, hFc, hCs⟩ := xw_sub3 (wc := []) hP hD hS hA [] (by decide) rfl
        have hz := xz_of hN hS
        refine va_calli (va_runS (As := [.int z_12]) (rest := [.int (nI (2 * nd + 0)), .ref q1]) ⟨hx, hb, hml, hown, hts⟩ (c_P_limited l D ax z_12 s.heap.size) (xcS (n := 1) hts wd_824 wd_6 wd_822 wd_823 rfl rfl (by decide +kernel) ⟨Nat.le_of_ble_eq_true rfl, Nat.le_of_ble_eq_true rfl⟩) (xpS (As := [.int z_12]) hPc hK hz hDc) rfl rfl hl1.1 rfl (lv_room (Nat.le_of_ble_eq_true rfl)) d_Prover_countNode_181 ⟨Nat.le_of_ble_eq_true rfl, Nat.le_of_ble_eq_true rfl⟩) hS (fun q _ h => hFc q h) hFc (fun r_15 u_13 t H_14 locs ht hvm hw hB hz1 hk1 hS1 => ?_)
        try dsimp only at hw
        obtain ⟨hw, hs_16⟩ := hw
        subst hw
        obtain ⟨hP1, hD1⟩ := hB
        rw [ht] at hP1
        have hjn := xw_join3 (wl := [(p0, .inr (6, [.ref b0, .int s_rows, .int s_atoms, .int s_first, .ref n0, .ref q1, .ref q2, .ref q3, .int (nI wt)])), (q1, .inl (ax 2, rl, .inl ro)), (q2, .inl (ax 0, 64, .inl (fun j => nI (dm j)))), (q3, .inl (ax 0, 64, .inl ix)), (n0, .inr (4, [.ref n1, .ref n2, .ref n3, .int (nI z9)])), (n1, .inl (ax 1, cp, .inl fo)), (n2, .inl (ax 0, cp, .inl fl)), (n3, .inl (ax 0, cp, .inl fr))]) hP hD [] [0, 1, 2, 3, 4, 5, 6, 7] hCs (by decide) (by decide) hk1 hFc hP1 hD1 rfl
        clear hP1 hD1
        clear hPc hDc hFc hCs hz hz1 hk1 ht hvm
        clear hP hD hS
        have hS := hS1
        obtain ⟨hP, hD⟩ := hjn
        clear hS1
        refine va_sast hx hb hK.1 hP hD hS 1 2 rfl rfl (vp_in_nI (by first | assumption | omega) (by first | exact Nat.lt_of_lt_of_le (by assumption) (by decide) | exact Nat.lt_of_le_of_lt (by assumption) (by decide) | omega)) d_Prover_countNode_184 (fun H_17 locs hP1 hD1 hS1 => ?_)
        rw [nI_clamp (by first | exact Nat.lt_of_lt_of_le (by assumption) (by decide) | exact Nat.lt_of_le_of_lt (by assumption) (by decide) | omega)] at hP1 hD1
        clear hP hD hS
        have hS := hS1
        have hW7 : (fun w9 : va_W => va_P D classes w9 H_17 ∧ va_D A w9) [(p0, .inr (6, [.ref b0, .int s_rows, .int s_atoms, .int s_first, .ref n0, .ref q1, .ref q2, .ref q3, .int (nI wt)])), (q1, .inl (ax 2, rl, .inl (upd ro (2 * nd + 0) (vp_nar .short (nI (u_13 0)))))), (q2, .inl (ax 0, 64, .inl (fun j => nI (dm j)))), (q3, .inl (ax 0, 64, .inl ix)), (n0, .inr (4, [.ref n1, .ref n2, .ref n3, .int (nI z9)])), (n1, .inl (ax 1, cp, .inl fo)), (n2, .inl (ax 0, cp, .inl fl)), (n3, .inl (ax 0, cp, .inl fr))] := ⟨hP1, hD1⟩
        obtain ⟨hP, hD⟩ := hW7
        clear hP1 hD1 hS1
        refine lv_aload_n hx hb d_Prover_countNode_185 rfl (lv_at hl1 7 rfl) ?_
        refine va_get (D := D) (ci := 6) (v := .ref q1) (C := R_Prover) (T := F_Prover) (N := 9) hx hb hts i_Prover hown hK.1 hP 0 rfl rfl 5 (by decide) (hts _ wd_184) (fun _ h9 => h9) rfl d_Prover_countNode_186 ?_
        refine lv_iload_n hx hb d_Prover_countNode_189 rfl (lv_at hl1 5 rfl) ?_
        refine lv_iload hx hb d_Prover_countNode_190 (lv_at hl1 0 rfl) ?_
        refine lv_iadd hx hb d_Prover_countNode_192 ?_
        refine lv_topi (fun z_18 ez_18 => ?_)
        have ez_18 : z_18 = nI (2 * nd + 1) := ez_18.trans (nI_add (2 * nd) 1)
        subst ez_18
        refine lv_aload_n hx hb d_Prover_countNode_193 rfl (lv_at hl1 7 rfl) ?_
        refine va_get (D := D) (ci := 6) (v := .ref q1) (C := R_Prover) (T := F_Prover) (N := 9) hx hb hts i_Prover hown hK.1 hP 0 rfl rfl 5 (by decide) (hts _ wd_184) (fun _ h9 => h9) rfl d_Prover_countNode_194 ?_
        refine lv_iload hx hb d_Prover_countNode_197 (lv_at hl1 3 rfl) ?_
        refine lv_iload hx hb d_Prover_countNode_199 (lv_at hl1 0 rfl) ?_
        refine lv_iadd hx hb d_Prover_countNode_201 ?_
        refine lv_topi (fun z_19 ez_19 => ?_)
        have ez_19 : z_19 = nI (2 * a9 + 1) := ez_19.trans (nI_add (2 * a9) 1)
        subst ez_19
        refine va_sald hx hb hK.1 hP 1 2 rfl rfl (vp_in_nI (by first | assumption | omega) (by first | exact Nat.lt_of_lt_of_le (by assumption) (by decide) | exact Nat.lt_of_le_of_lt (by assumption) (by decide) | omega)) d_Prover_countNode_202 ?_
        refine W.eq (g2 := F0 m 203 ls [.int ((upd ro (2 * nd + 0) (vp_nar .short (nI (u_13 0)))) (2 * a9 + 1)), .int (nI (2 * nd + 1)), .ref q1]) (by rw [nI_clamp (by first | exact Nat.lt_of_lt_of_le (by assumption) (by decide) | exact Nat.lt_of_le_of_lt (by assumption) (by decide) | omega)]) ?_
        refine lv_aload_n hx hb d_Prover_countNode_203 rfl (lv_at hl1 7 rfl) ?_
        refine va_get (D := D) (ci := 6) (v := .ref q1) (C := R_Prover) (T := F_Prover) (N := 9) hx hb hts i_Prover hown hK.1 hP 0 rfl rfl 5 (by decide) (hts _ wd_184) (fun _ h9 => h9) rfl d_Prover_countNode_204 ?_
        refine lv_iload hx hb d_Prover_countNode_207 (lv_at hl1 2 rfl) ?_
        refine lv_iload hx hb d_Prover_countNode_209 (lv_at hl1 0 rfl) ?_
        refine lv_iadd hx hb d_Prover_countNode_211 ?_
        refine lv_topi (fun z_20 ez_20 => ?_)
        have ez_20 : z_20 = nI (2 * c9 + 1) := ez_20.trans (nI_add (2 * c9) 1)
        subst ez_20
        refine va_sald hx hb hK.1 hP 1 2 rfl rfl (vp_in_nI (by first | assumption | omega) (by first | exact Nat.lt_of_lt_of_le (by assumption) (by decide) | exact Nat.lt_of_le_of_lt (by assumption) (by decide) | omega)) d_Prover_countNode_212 ?_
        refine W.eq (g2 := F0 m 213 ls [.int ((upd ro (2 * nd + 0) (vp_nar .short (nI (u_13 0)))) (2 * c9 + 1)), .int ((upd ro (2 * nd + 0) (vp_nar .short (nI (u_13 0)))) (2 * a9 + 1)), .int (nI (2 * nd + 1)), .ref q1]) (by rw [nI_clamp (by first | exact Nat.lt_of_lt_of_le (by assumption) (by decide) | exact Nat.lt_of_le_of_lt (by assumption) (by decide) | omega)]) ?_
        refine lv_iadd hx hb d_Prover_countNode_213 ?_
        refine lv_topi (fun z_21 ez_21 => ?_)
        obtain ⟨hPc, hDc, hFc, hCs⟩ := xw_sub3 (wc := []) hP hD hS hA [] (by decide) rfl
        have hz := xz_of hN hS
        refine va_calli (va_runS (As := [.int z_21]) (rest := [.int (nI (2 * nd + 1)), .ref q1]) ⟨hx, hb, hml, hown, hts⟩ (c_P_limited l D ax z_21 H_17.size) (xcS (n := 1) hts wd_824 wd_6 wd_822 wd_823 rfl rfl (by decide +kernel) ⟨Nat.le_of_ble_eq_true rfl, Nat.le_of_ble_eq_true rfl⟩) (xpS (As := [.int z_21]) hPc hK hz hDc) rfl rfl hl1.1 rfl (lv_room (Nat.le_of_ble_eq_true rfl)) d_Prover_countNode_214 ⟨Nat.le_of_ble_eq_true rfl, Nat.le_of_ble_eq_true rfl⟩) hS (fun q _ h => hFc q h) hFc (fun r_24 u_22 t H_23 locs ht hvm hw hB hz1 hk1 hS1 => ?_)
        try dsimp only at hw
        obtain ⟨hw, hs_25⟩ := hw
        subst hw
        obtain ⟨hP1, hD1⟩ := hB
        rw [ht] at hP1
        have hjn := xw_join3 (wl := [(p0, .inr (6, [.ref b0, .int s_rows, .int s_atoms, .int s_first, .ref n0, .ref q1, .ref q2, .ref q3, .int (nI wt)])), (q1, .inl (ax 2, rl, .inl (upd ro (2 * nd + 0) (vp_nar .short (nI (u_13 0)))))), (q2, .inl (ax 0, 64, .inl (fun j => nI (dm j)))), (q3, .inl (ax 0, 64, .inl ix)), (n0, .inr (4, [.ref n1, .ref n2, .ref n3, .int (nI z9)])), (n1, .inl (ax 1, cp, .inl fo)), (n2, .inl (ax 0, cp, .inl fl)), (n3, .inl (ax 0, cp, .inl fr))]) hP hD [] [0, 1, 2, 3, 4, 5, 6, 7] hCs (by decide) (by decide) hk1 hFc hP1 hD1 rfl
        clear hP1 hD1
        clear hPc hDc hFc hCs hz hz1 hk1 ht hvm
        clear hP hD hS
        have hS := hS1
        obtain ⟨hP, hD⟩ := hjn
        clear hS1
        refine va_sast hx hb hK.1 hP hD hS 1 2 rfl rfl (vp_in_nI (by first | assumption | omega) (by first | exact Nat.lt_of_lt_of_le (by assumption) (by decide) | exact Nat.lt_of_le_of_lt (by assumption) (by decide) | omega)) d_Prover_countNode_217 (fun H_26 locs hP1 hD1 hS1 => ?_)
        rw [nI_clamp (by first | exact Nat.lt_of_lt_of_le (by assumption) (by decide) | exact Nat.lt_of_le_of_lt (by assumption) (by decide) | omega)] at hP1 hD1
        clear hP hD hS
        have hS := hS1
        have hW7 : (fun w9 : va_W => va_P D classes w9 H_26 ∧ va_D A w9) [(p0, .inr (6, [.ref b0, .int s_rows, .int s_atoms, .int s_first, .ref n0, .ref q1, .ref q2, .ref q3, .int (nI wt)])), (q1, .inl (ax 2, rl, .inl (upd (upd ro (2 * nd + 0) (vp_nar .short (nI (u_13 0)))) (2 * nd + 1) (vp_nar .short (nI (u_22 0)))))), (q2, .inl (ax 0, 64, .inl (fun j => nI (dm j)))), (q3, .inl (ax 0, 64, .inl ix)), (n0, .inr (4, [.ref n1, .ref n2, .ref n3, .int (nI z9)])), (n1, .inl (ax 1, cp, .inl fo)), (n2, .inl (ax 0, cp, .inl fl)), (n3, .inl (ax 0, cp, .inl fr))] := ⟨hP1, hD1⟩
        obtain ⟨hP, hD⟩ := hW7
        clear hP1 hD1 hS1
        rw [← hQe]
        obtain ⟨hP9, hD9⟩ := xw_sub2 (wc := (fun (u : Nat → Nat) (xro : Nat → Int32) (xat : Int32) => [(p0, .inr (6, [.ref b0, .int s_rows, .int xat, .int s_first, .ref n0, .ref q1, .ref q2, .ref q3, .int (nI wt)])), (q1, .inl (ax 2, rl, .inl xro)), (q2, .inl (ax 0, 64, .inl (fun j => nI (dm j)))), (q3, .inl (ax 0, 64, .inl ix)), (n0, .inr (4, [.ref n1, .ref n2, .ref n3, .int (nI z9)])), (n1, .inl (ax 1, cp, .inl fo)), (n2, .inl (ax 0, cp, .inl fl)), (n3, .inl (ax 0, cp, .inl fr))]) (ixn []) (upd (upd ro (2 * nd + 0) (vp_nar .short (nI (u_13 0)))) (2 * nd + 1) (vp_nar .short (nI (u_22 0)))) s_atoms) hP hD [0, 1, 2, 3, 4, 5, 6, 7] (by decide) rfl
        have hex0 : True := trivial
        exact W.vret hx hb hr (fun t ht hW => ⟨⟨ixn [], rfl, trivial, ⟨(upd (upd ro (2 * nd + 0) (vp_nar .short (nI (u_13 0)))) (2 * nd + 1) (vp_nar .short (nI (u_22 0)))), s_atoms, hex0, by rw [ht]; exact hP9, hD9⟩⟩, hS.F ht⟩) hS.2.2 d_Prover_countNode_218
      · replace c_7 : o9 = 7 := (nI_eq (a := o9) (b := 7) (by first | exact Nat.lt_of_lt_of_le (by assumption) (by decide) | exact Nat.lt_of_le_of_lt (by assumption) (by decide) | omega) (by decide)).mp c_7
        refine lv_iconst (v := 1) hx hb d_Prover_countNode_139 (by decide) ?_
        refine lv_goto (tgt := 144) hx hb d_Prover_countNode_140 (by decide) ?_
        refine lv_istore (lv' := [(7, .int 1), (6, .int (nI (2 * c9))), (5, .int (nI (2 * a9))), (4, .int (nI (2 * nd + 1))), (3, .int (nI (2 * nd))), (2, .int (nI o9)), (0, .ref p0), (1, .int (nI nd))]) hx hb d_Prover_countNode_144 hl1 (by decide) rfl (fun ls hl2 => ?_)
        clear hl1; have hl1 := hl2; clear hl2
        refine lv_iconst (v := 1) hx hb d_Prover_countNode_146 (by decide) ?_
        refine lv_iload hx hb d_Prover_countNode_147 (lv_at hl1 0 rfl) ?_
        refine lv_isub hx hb d_Prover_countNode_149 ?_
        refine lv_topi (fun z_27 ez_27 => ?_)
        have ez_27 : z_27 = 0 := ez_27.trans (by first | rfl | decide)
        subst ez_27
        refine lv_istore (lv' := [(8, .int 0), (7, .int 1), (6, .int (nI (2 * c9))), (5, .int (nI (2 * a9))), (4, .int (nI (2 * nd + 1))), (3, .int (nI (2 * nd))), (2, .int (nI o9)), (0, .ref p0), (1, .int (nI nd))]) hx hb d_Prover_countNode_150 hl1 (by decide) rfl (fun ls hl2 => ?_)
        clear hl1; have hl1 := hl2; clear hl2
        refine lv_aload_n hx hb d_Prover_countNode_152 rfl (lv_at hl1 7 rfl) ?_
        refine va_get (D := D) (ci := 6) (v := .ref q1) (C := R_Prover) (T := F_Prover) (N := 9) hx hb hts i_Prover hown hK.1 hP 0 rfl rfl 5 (by decide) (hts _ wd_184) (fun _ h9 => h9) rfl d_Prover_countNode_153 ?_
        refine lv_iload_n hx hb d_Prover_countNode_156 rfl (lv_at hl1 5 rfl) ?_
        refine lv_iload hx hb d_Prover_countNode_157 (lv_at hl1 1 rfl) ?_
        refine lv_iadd hx hb d_Prover_countNode_159 ?_
        refine lv_topi (fun z_28 ez_28 => ?_)
        have ez_28 : z_28 = nI (2 * nd + 1) := ez_28.trans (nI_add (2 * nd) 1)
        subst ez_28
        refine lv_aload_n hx hb d_Prover_countNode_160 rfl (lv_at hl1 7 rfl) ?_
        refine va_get (D := D) (ci := 6) (v := .ref q1) (C := R_Prover) (T := F_Prover) (N := 9) hx hb hts i_Prover hown hK.1 hP 0 rfl rfl 5 (by decide) (hts _ wd_184) (fun _ h9 => h9) rfl d_Prover_countNode_161 ?_
        refine lv_iload hx hb d_Prover_countNode_164 (lv_at hl1 3 rfl) ?_
        refine lv_iload hx hb d_Prover_countNode_166 (lv_at hl1 1 rfl) ?_
        refine lv_iadd hx hb d_Prover_countNode_168 ?_
        refine lv_topi (fun z_29 ez_29 => ?_)
        have ez_29 : z_29 = nI (2 * a9 + 1) := ez_29.trans (nI_add (2 * a9) 1)
        subst ez_29
        refine va_sald hx hb hK.1 hP 1 2 rfl rfl (vp_in_nI (by first | assumption | omega) (by first | exact Nat.lt_of_lt_of_le (by assumption) (by decide) | exact Nat.lt_of_le_of_lt (by assumption) (by decide) | omega)) d_Prover_countNode_169 ?_
        refine W.eq (g2 := F0 m 170 ls [.int (ro (2 * a9 + 1)), .int (nI (2 * nd + 1)), .ref q1]) (by rw [nI_clamp (by first | exact Nat.lt_of_lt_of_le (by assumption) (by decide) | exact Nat.lt_of_le_of_lt (by assumption) (by decide) | omega)]) ?_
        refine lv_aload_n hx hb d_Prover_countNode_170 rfl (lv_at hl1 7 rfl) ?_
        refine va_get (D := D) (ci := 6) (v := .ref q1) (C := R_Prover) (T := F_Prover) (N := 9) hx hb hts i_Prover hown hK.1 hP 0 rfl rfl 5 (by decide) (hts _ wd_184) (fun _ h9 => h9) rfl d_Prover_countNode_171 ?_
        refine lv_iload hx hb d_Prover_countNode_174 (lv_at hl1 2 rfl) ?_
        refine lv_iload hx hb d_Prover_countNode_176 (lv_at hl1 1 rfl) ?_
        refine lv_iadd hx hb d_Prover_countNode_178 ?_
        refine lv_topi (fun z_30 ez_30 => ?_)
        have ez_30 : z_30 = nI (2 * c9 + 1) := ez_30.trans (nI_add (2 * c9) 1)
        subst ez_30
        refine va_sald hx hb hK.1 hP 1 2 rfl rfl (vp_in_nI (by first | assumption | omega) (by first | exact Nat.lt_of_lt_of_le (by assumption) (by decide) | exact Nat.lt_of_le_of_lt (by assumption) (by decide) | omega)) d_Prover_countNode_179 ?_
        refine W.eq (g2 := F0 m 180 ls [.int (ro (2 * c9 + 1)), .int (ro (2 * a9 + 1)), .int (nI (2 * nd + 1)), .ref q1]) (by rw [nI_clamp (by first | exact Nat.lt_of_lt_of_le (by assumption) (by decide) | exact Nat.lt_of_le_of_lt (by assumption) (by decide) | omega)]) ?_
        refine lv_imul hx hb d_Prover_countNode_180 ?_
        refine lv_topi (fun z_31 ez_31 => ?_)
        obtain ⟨hPc, hDc, hFc, hCs⟩ := xw_sub3 (wc := []) hP hD hS hA [] (by decide) rfl
        have hz := xz_of hN hS
        refine va_calli (va_runS (As := [.int z_31]) (rest := [.int (nI (2 * nd + 1)), .ref q1]) ⟨hx, hb, hml, hown, hts⟩ (c_P_limited l D ax z_31 s.heap.size) (xcS (n := 1) hts wd_824 wd_6 wd_822 wd_823 rfl rfl (by decide +kernel) ⟨Nat.le_of_ble_eq_true rfl, Nat.le_of_ble_eq_true rfl⟩) (xpS (As := [.int z_31]) hPc hK hz hDc) rfl rfl hl1.1 rfl (lv_room (Nat.le_of_ble_eq_true rfl)) d_Prover_countNode_181 ⟨Nat.le_of_ble_eq_true rfl, Nat.le_of_ble_eq_true rfl⟩) hS (fun q _ h => hFc q h) hFc (fun r_34 u_32 t H_33 locs ht hvm hw hB hz1 hk1 hS1 => ?_)
        try dsimp only at hw
        obtain ⟨hw, hs_35⟩ := hw
        subst hw
        obtain ⟨hP1, hD1⟩ := hB
        rw [ht] at hP1
        have hjn := xw_join3 (wl := [(p0, .inr (6, [.ref b0, .int s_rows, .int s_atoms, .int s_first, .ref n0, .ref q1, .ref q2, .ref q3, .int (nI wt)])), (q1, .inl (ax 2, rl, .inl ro)), (q2, .inl (ax 0, 64, .inl (fun j => nI (dm j)))), (q3, .inl (ax 0, 64, .inl ix)), (n0, .inr (4, [.ref n1, .ref n2, .ref n3, .int (nI z9)])), (n1, .inl (ax 1, cp, .inl fo)), (n2, .inl (ax 0, cp, .inl fl)), (n3, .inl (ax 0, cp, .inl fr))]) hP hD [] [0, 1, 2, 3, 4, 5, 6, 7] hCs (by decide) (by decide) hk1 hFc hP1 hD1 rfl
        clear hP1 hD1
        clear hPc hDc hFc hCs hz hz1 hk1 ht hvm
        clear hP hD hS
        have hS := hS1
        obtain ⟨hP, hD⟩ := hjn
        clear hS1
        refine va_sast hx hb hK.1 hP hD hS 1 2 rfl rfl (vp_in_nI (by first | assumption | omega) (by first | exact Nat.lt_of_lt_of_le (by assumption) (by decide) | exact Nat.lt_of_le_of_lt (by assumption) (by decide) | omega)) d_Prover_countNode_184 (fun H_36 locs hP1 hD1 hS1 => ?_)
        rw [nI_clamp (by first | exact Nat.lt_of_lt_of_le (by assumption) (by decide) | exact Nat.lt_of_le_of_lt (by assumption) (by decide) | omega)] at hP1 hD1
        clear hP hD hS
        have hS := hS1
        have hW7 : (fun w9 : va_W => va_P D classes w9 H_36 ∧ va_D A w9) [(p0, .inr (6, [.ref b0, .int s_rows, .int s_atoms, .int s_first, .ref n0, .ref q1, .ref q2, .ref q3, .int (nI wt)])), (q1, .inl (ax 2, rl, .inl (upd ro (2 * nd + 1) (vp_nar .short (nI (u_32 0)))))), (q2, .inl (ax 0, 64, .inl (fun j => nI (dm j)))), (q3, .inl (ax 0, 64, .inl ix)), (n0, .inr (4, [.ref n1, .ref n2, .ref n3, .int (nI z9)])), (n1, .inl (ax 1, cp, .inl fo)), (n2, .inl (ax 0, cp, .inl fl)), (n3, .inl (ax 0, cp, .inl fr))] := ⟨hP1, hD1⟩
        obtain ⟨hP, hD⟩ := hW7
        clear hP1 hD1 hS1
        refine lv_aload_n hx hb d_Prover_countNode_185 rfl (lv_at hl1 7 rfl) ?_
        refine va_get (D := D) (ci := 6) (v := .ref q1) (C := R_Prover) (T := F_Prover) (N := 9) hx hb hts i_Prover hown hK.1 hP 0 rfl rfl 5 (by decide) (hts _ wd_184) (fun _ h9 => h9) rfl d_Prover_countNode_186 ?_
        refine lv_iload_n hx hb d_Prover_countNode_189 rfl (lv_at hl1 5 rfl) ?_
        refine lv_iload hx hb d_Prover_countNode_190 (lv_at hl1 0 rfl) ?_
        refine lv_iadd hx hb d_Prover_countNode_192 ?_
        refine lv_topi (fun z_37 ez_37 => ?_)
        have ez_37 : z_37 = nI (2 * nd + 0) := ez_37.trans (nI_add (2 * nd) 0)
        subst ez_37
        refine lv_aload_n hx hb d_Prover_countNode_193 rfl (lv_at hl1 7 rfl) ?_
        refine va_get (D := D) (ci := 6) (v := .ref q1) (C := R_Prover) (T := F_Prover) (N := 9) hx hb hts i_Prover hown hK.1 hP 0 rfl rfl 5 (by decide) (hts _ wd_184) (fun _ h9 => h9) rfl d_Prover_countNode_194 ?_
        refine lv_iload hx hb d_Prover_countNode_197 (lv_at hl1 3 rfl) ?_
        refine lv_iload hx hb d_Prover_countNode_199 (lv_at hl1 0 rfl) ?_
        refine lv_iadd hx hb d_Prover_countNode_201 ?_
        refine lv_topi (fun z_38 ez_38 => ?_)
        have ez_38 : z_38 = nI (2 * a9 + 0) := ez_38.trans (nI_add (2 * a9) 0)
        subst ez_38
        refine va_sald hx hb hK.1 hP 1 2 rfl rfl (vp_in_nI (by first | assumption | omega) (by first | exact Nat.lt_of_lt_of_le (by assumption) (by decide) | exact Nat.lt_of_le_of_lt (by assumption) (by decide) | omega)) d_Prover_countNode_202 ?_
        refine W.eq (g2 := F0 m 203 ls [.int ((upd ro (2 * nd + 1) (vp_nar .short (nI (u_32 0)))) (2 * a9 + 0)), .int (nI (2 * nd + 0)), .ref q1]) (by rw [nI_clamp (by first | exact Nat.lt_of_lt_of_le (by assumption) (by decide) | exact Nat.lt_of_le_of_lt (by assumption) (by decide) | omega)]) ?_
        refine lv_aload_n hx hb d_Prover_countNode_203 rfl (lv_at hl1 7 rfl) ?_
        refine va_get (D := D) (ci := 6) (v := .ref q1) (C := R_Prover) (T := F_Prover) (N := 9) hx hb hts i_Prover hown hK.1 hP 0 rfl rfl 5 (by decide) (hts _ wd_184) (fun _ h9 => h9) rfl d_Prover_countNode_204 ?_
        refine lv_iload hx hb d_Prover_countNode_207 (lv_at hl1 2 rfl) ?_
        refine lv_iload hx hb d_Prover_countNode_209 (lv_at hl1 0 rfl) ?_
        refine lv_iadd hx hb d_Prover_countNode_211 ?_
        refine lv_topi (fun z_39 ez_39 => ?_)
        have ez_39 : z_39 = nI (2 * c9 + 0) := ez_39.trans (nI_add (2 * c9) 0)
        subst ez_39
        refine va_sald hx hb hK.1 hP 1 2 rfl rfl (vp_in_nI (by first | assumption | omega) (by first | exact Nat.lt_of_lt_of_le (by assumption) (by decide) | exact Nat.lt_of_le_of_lt (by assumption) (by decide) | omega)) d_Prover_countNode_212 ?_
        refine W.eq (g2 := F0 m 213 ls [.int ((upd ro (2 * nd + 1) (vp_nar .short (nI (u_32 0)))) (2 * c9 + 0)), .int ((upd ro (2 * nd + 1) (vp_nar .short (nI (u_32 0)))) (2 * a9 + 0)), .int (nI (2 * nd + 0)), .ref q1]) (by rw [nI_clamp (by first | exact Nat.lt_of_lt_of_le (by assumption) (by decide) | exact Nat.lt_of_le_of_lt (by assumption) (by decide) | omega)]) ?_
        refine lv_iadd hx hb d_Prover_countNode_213 ?_
        refine lv_topi (fun z_40 ez_40 => ?_)
        obtain ⟨hPc, hDc, hFc, hCs⟩ := xw_sub3 (wc := []) hP hD hS hA [] (by decide) rfl
        have hz := xz_of hN hS
        refine va_calli (va_runS (As := [.int z_40]) (rest := [.int (nI (2 * nd + 0)), .ref q1]) ⟨hx, hb, hml, hown, hts⟩ (c_P_limited l D ax z_40 H_36.size) (xcS (n := 1) hts wd_824 wd_6 wd_822 wd_823 rfl rfl (by decide +kernel) ⟨Nat.le_of_ble_eq_true rfl, Nat.le_of_ble_eq_true rfl⟩) (xpS (As := [.int z_40]) hPc hK hz hDc) rfl rfl hl1.1 rfl (lv_room (Nat.le_of_ble_eq_true rfl)) d_Prover_countNode_214 ⟨Nat.le_of_ble_eq_true rfl, Nat.le_of_ble_eq_true rfl⟩) hS (fun q _ h => hFc q h) hFc (fun r_43 u_41 t H_42 locs ht hvm hw hB hz1 hk1 hS1 => ?_)
        try dsimp only at hw
        obtain ⟨hw, hs_44⟩ := hw
        subst hw
        obtain ⟨hP1, hD1⟩ := hB
        rw [ht] at hP1
        have hjn := xw_join3 (wl := [(p0, .inr (6, [.ref b0, .int s_rows, .int s_atoms, .int s_first, .ref n0, .ref q1, .ref q2, .ref q3, .int (nI wt)])), (q1, .inl (ax 2, rl, .inl (upd ro (2 * nd + 1) (vp_nar .short (nI (u_32 0)))))), (q2, .inl (ax 0, 64, .inl (fun j => nI (dm j)))), (q3, .inl (ax 0, 64, .inl ix)), (n0, .inr (4, [.ref n1, .ref n2, .ref n3, .int (nI z9)])), (n1, .inl (ax 1, cp, .inl fo)), (n2, .inl (ax 0, cp, .inl fl)), (n3, .inl (ax 0, cp, .inl fr))]) hP hD [] [0, 1, 2, 3, 4, 5, 6, 7] hCs (by decide) (by decide) hk1 hFc hP1 hD1 rfl
        clear hP1 hD1
        clear hPc hDc hFc hCs hz hz1 hk1 ht hvm
        clear hP hD hS
        have hS := hS1
        obtain ⟨hP, hD⟩ := hjn
        clear hS1
        refine va_sast hx hb hK.1 hP hD hS 1 2 rfl rfl (vp_in_nI (by first | assumption | omega) (by first | exact Nat.lt_of_lt_of_le (by assumption) (by decide) | exact Nat.lt_of_le_of_lt (by assumption) (by decide) | omega)) d_Prover_countNode_217 (fun H_45 locs hP1 hD1 hS1 => ?_)
        rw [nI_clamp (by first | exact Nat.lt_of_lt_of_le (by assumption) (by decide) | exact Nat.lt_of_le_of_lt (by assumption) (by decide) | omega)] at hP1 hD1
        clear hP hD hS
        have hS := hS1
        have hW7 : (fun w9 : va_W => va_P D classes w9 H_45 ∧ va_D A w9) [(p0, .inr (6, [.ref b0, .int s_rows, .int s_atoms, .int s_first, .ref n0, .ref q1, .ref q2, .ref q3, .int (nI wt)])), (q1, .inl (ax 2, rl, .inl (upd (upd ro (2 * nd + 1) (vp_nar .short (nI (u_32 0)))) (2 * nd + 0) (vp_nar .short (nI (u_41 0)))))), (q2, .inl (ax 0, 64, .inl (fun j => nI (dm j)))), (q3, .inl (ax 0, 64, .inl ix)), (n0, .inr (4, [.ref n1, .ref n2, .ref n3, .int (nI z9)])), (n1, .inl (ax 1, cp, .inl fo)), (n2, .inl (ax 0, cp, .inl fl)), (n3, .inl (ax 0, cp, .inl fr))] := ⟨hP1, hD1⟩
        obtain ⟨hP, hD⟩ := hW7
        clear hP1 hD1 hS1
        rw [← hQe]
        obtain ⟨hP9, hD9⟩ := xw_sub2 (wc := (fun (u : Nat → Nat) (xro : Nat → Int32) (xat : Int32) => [(p0, .inr (6, [.ref b0, .int s_rows, .int xat, .int s_first, .ref n0, .ref q1, .ref q2, .ref q3, .int (nI wt)])), (q1, .inl (ax 2, rl, .inl xro)), (q2, .inl (ax 0, 64, .inl (fun j => nI (dm j)))), (q3, .inl (ax 0, 64, .inl ix)), (n0, .inr (4, [.ref n1, .ref n2, .ref n3, .int (nI z9)])), (n1, .inl (ax 1, cp, .inl fo)), (n2, .inl (ax 0, cp, .inl fl)), (n3, .inl (ax 0, cp, .inl fr))]) (ixn []) (upd (upd ro (2 * nd + 1) (vp_nar .short (nI (u_32 0)))) (2 * nd + 0) (vp_nar .short (nI (u_41 0)))) s_atoms) hP hD [0, 1, 2, 3, 4, 5, 6, 7] (by decide) rfl
        have hex0 : True := trivial
        exact W.vret hx hb hr (fun t ht hW => ⟨⟨ixn [], rfl, trivial, ⟨(upd (upd ro (2 * nd + 1) (vp_nar .short (nI (u_32 0)))) (2 * nd + 0) (vp_nar .short (nI (u_41 0)))), s_atoms, hex0, by rw [ht]; exact hP9, hD9⟩⟩, hS.F ht⟩) hS.2.2 d_Prover_countNode_218
    · replace c_5 : o9 = 6 := (nI_eq (a := o9) (b := 6) (by first | exact Nat.lt_of_lt_of_le (by assumption) (by decide) | exact Nat.lt_of_le_of_lt (by assumption) (by decide) | omega) (by decide)).mp c_5
      refine lv_aload_n hx hb d_Prover_countNode_90 rfl (lv_at hl1 4 rfl) ?_
      refine va_get (D := D) (ci := 6) (v := .ref q1) (C := R_Prover) (T := F_Prover) (N := 9) hx hb hts i_Prover hown hK.1 hP 0 rfl rfl 5 (by decide) (hts _ wd_184) (fun _ h9 => h9) rfl d_Prover_countNode_91 ?_
      refine lv_iload hx hb d_Prover_countNode_94 (lv_at hl1 1 rfl) ?_
      refine lv_aload_n hx hb d_Prover_countNode_96 rfl (lv_at hl1 4 rfl) ?_
      refine va_get (D := D) (ci := 6) (v := .ref q1) (C := R_Prover) (T := F_Prover) (N := 9) hx hb hts i_Prover hown hK.1 hP 0 rfl rfl 5 (by decide) (hts _ wd_184) (fun _ h9 => h9) rfl d_Prover_countNode_97 ?_
      refine lv_iload hx hb d_Prover_countNode_100 (lv_at hl1 0 rfl) ?_
      refine va_sald hx hb hK.1 hP 1 2 rfl rfl (vp_in_nI (by first | assumption | omega) (by first | exact Nat.lt_of_lt_of_le (by assumption) (by decide) | exact Nat.lt_of_le_of_lt (by assumption) (by decide) | omega)) d_Prover_countNode_102 ?_
      refine W.eq (g2 := F0 m 103 ls [.int (ro (2 * a9)), .int (nI (2 * nd + 1)), .ref q1]) (by rw [nI_clamp (by first | exact Nat.lt_of_lt_of_le (by assumption) (by decide) | exact Nat.lt_of_le_of_lt (by assumption) (by decide) | omega)]) ?_
      refine va_sast hx hb hK.1 hP hD hS 1 2 rfl rfl (vp_in_nI (by first | assumption | omega) (by first | exact Nat.lt_of_lt_of_le (by assumption) (by decide) | exact Nat.lt_of_le_of_lt (by assumption) (by decide) | omega)) d_Prover_countNode_103 (fun H_46 locs hP1 hD1 hS1 => ?_)
      rw [nI_clamp (by first | exact Nat.lt_of_lt_of_le (by assumption) (by decide) | exact Nat.lt_of_le_of_lt (by assumption) (by decide) | omega)] at hP1 hD1
      clear hP hD hS
      have hS := hS1
      have hW7 : (fun w9 : va_W => va_P D classes w9 H_46 ∧ va_D A w9) [(p0, .inr (6, [.ref b0, .int s_rows, .int s_atoms, .int s_first, .ref n0, .ref q1, .ref q2, .ref q3, .int (nI wt)])), (q1, .inl (ax 2, rl, .inl (upd ro (2 * nd + 1) (vp_nar .short (ro (2 * a9)))))), (q2, .inl (ax 0, 64, .inl (fun j => nI (dm j)))), (q3, .inl (ax 0, 64, .inl ix)), (n0, .inr (4, [.ref n1, .ref n2, .ref n3, .int (nI z9)])), (n1, .inl (ax 1, cp, .inl fo)), (n2, .inl (ax 0, cp, .inl fl)), (n3, .inl (ax 0, cp, .inl fr))] := ⟨hP1, hD1⟩
      obtain ⟨hP, hD⟩ := hW7
      clear hP1 hD1 hS1
      refine lv_aload_n hx hb d_Prover_countNode_104 rfl (lv_at hl1 4 rfl) ?_
      refine va_get (D := D) (ci := 6) (v := .ref q1) (C := R_Prover) (T := F_Prover) (N := 9) hx hb hts i_Prover hown hK.1 hP 0 rfl rfl 5 (by decide) (hts _ wd_184) (fun _ h9 => h9) rfl d_Prover_countNode_105 ?_
      refine lv_iload_n hx hb d_Prover_countNode_108 rfl (lv_at hl1 2 rfl) ?_
      refine lv_aload_n hx hb d_Prover_countNode_109 rfl (lv_at hl1 4 rfl) ?_
      refine va_get (D := D) (ci := 6) (v := .ref q1) (C := R_Prover) (T := F_Prover) (N := 9) hx hb hts i_Prover hown hK.1 hP 0 rfl rfl 5 (by decide) (hts _ wd_184) (fun _ h9 => h9) rfl d_Prover_countNode_110 ?_
      refine lv_iload hx hb d_Prover_countNode_113 (lv_at hl1 0 rfl) ?_
      refine lv_iconst (v := 1) hx hb d_Prover_countNode_115 (by decide) ?_
      refine lv_iadd hx hb d_Prover_countNode_116 ?_
      refine lv_topi (fun z_47 ez_47 => ?_)
      have ez_47 : z_47 = nI (2 * a9 + 1) := ez_47.trans (nI_add (2 * a9) 1)
      subst ez_47
      refine va_sald hx hb hK.1 hP 1 2 rfl rfl (vp_in_nI (by first | assumption | omega) (by first | exact Nat.lt_of_lt_of_le (by assumption) (by decide) | exact Nat.lt_of_le_of_lt (by assumption) (by decide) | omega)) d_Prover_countNode_117 ?_
      refine W.eq (g2 := F0 m 118 ls [.int ((upd ro (2 * nd + 1) (vp_nar .short (ro (2 * a9)))) (2 * a9 + 1)), .int (nI (2 * nd)), .ref q1]) (by rw [nI_clamp (by first | exact Nat.lt_of_lt_of_le (by assumption) (by decide) | exact Nat.lt_of_le_of_lt (by assumption) (by decide) | omega)]) ?_
      refine va_sast hx hb hK.1 hP hD hS 1 2 rfl rfl (vp_in_nI (by first | assumption | omega) (by first | exact Nat.lt_of_lt_of_le (by assumption) (by decide) | exact Nat.lt_of_le_of_lt (by assumption) (by decide) | omega)) d_Prover_countNode_118 (fun H_48 locs hP1 hD1 hS1 => ?_)
      rw [nI_clamp (by first | exact Nat.lt_of_lt_of_le (by assumption) (by decide) | exact Nat.lt_of_le_of_lt (by assumption) (by decide) | omega)] at hP1 hD1
      clear hP hD hS
      have hS := hS1
      have hW7 : (fun w9 : va_W => va_P D classes w9 H_48 ∧ va_D A w9) [(p0, .inr (6, [.ref b0, .int s_rows, .int s_atoms, .int s_first, .ref n0, .ref q1, .ref q2, .ref q3, .int (nI wt)])), (q1, .inl (ax 2, rl, .inl (upd (upd ro (2 * nd + 1) (vp_nar .short (ro (2 * a9)))) (2 * nd) (vp_nar .short ((upd ro (2 * nd + 1) (vp_nar .short (ro (2 * a9)))) (2 * a9 + 1)))))), (q2, .inl (ax 0, 64, .inl (fun j => nI (dm j)))), (q3, .inl (ax 0, 64, .inl ix)), (n0, .inr (4, [.ref n1, .ref n2, .ref n3, .int (nI z9)])), (n1, .inl (ax 1, cp, .inl fo)), (n2, .inl (ax 0, cp, .inl fl)), (n3, .inl (ax 0, cp, .inl fr))] := ⟨hP1, hD1⟩
      obtain ⟨hP, hD⟩ := hW7
      clear hP1 hD1 hS1
      rw [← hQe]
      obtain ⟨hP9, hD9⟩ := xw_sub2 (wc := (fun (u : Nat → Nat) (xro : Nat → Int32) (xat : Int32) => [(p0, .inr (6, [.ref b0, .int s_rows, .int xat, .int s_first, .ref n0, .ref q1, .ref q2, .ref q3, .int (nI wt)])), (q1, .inl (ax 2, rl, .inl xro)), (q2, .inl (ax 0, 64, .inl (fun j => nI (dm j)))), (q3, .inl (ax 0, 64, .inl ix)), (n0, .inr (4, [.ref n1, .ref n2, .ref n3, .int (nI z9)])), (n1, .inl (ax 1, cp, .inl fo)), (n2, .inl (ax 0, cp, .inl fl)), (n3, .inl (ax 0, cp, .inl fr))]) (ixn []) (upd (upd ro (2 * nd + 1) (vp_nar .short (ro (2 * a9)))) (2 * nd) (vp_nar .short ((upd ro (2 * nd + 1) (vp_nar .short (ro (2 * a9)))) (2 * a9 + 1)))) s_atoms) hP hD [0, 1, 2, 3, 4, 5, 6, 7] (by decide) rfl
      have hex0 : True := trivial
      exact W.vret hx hb hr (fun t ht hW => ⟨⟨ixn [], rfl, trivial, ⟨(upd (upd ro (2 * nd + 1) (vp_nar .short (ro (2 * a9)))) (2 * nd) (vp_nar .short ((upd ro (2 * nd + 1) (vp_nar .short (ro (2 * a9)))) (2 * a9 + 1)))), s_atoms, hex0, by rw [ht]; exact hP9, hD9⟩⟩, hS.F ht⟩) hS.2.2 d_Prover_countNode_119
  · replace c_3 : ¬ 6 ≤ o9 := fun hq9 => c_3 ((nI_leI (a := 6) (b := o9) (by decide) (by first | exact Nat.lt_of_lt_of_le (by assumption) (by decide) | exact Nat.lt_of_le_of_lt (by assumption) (by decide) | omega)).mpr hq9)
    refine lv_aload_n hx hb d_Prover_countNode_25 rfl (lv_at hl1 3 rfl) ?_
    refine lv_dup hx hb d_Prover_countNode_26 rfl ?_
    refine va_get (D := D) (ci := 6) (v := .int s_atoms) (C := R_Prover) (T := F_Prover) (N := 9) hx hb hts i_Prover hown hK.1 hP 0 rfl rfl 2 (by decide) (hts _ wd_179) (fun _ h9 => h9) rfl d_Prover_countNode_27 ?_
    refine lv_iconst (v := 1) hx hb d_Prover_countNode_30 (by decide) ?_
    refine lv_iadd hx hb d_Prover_countNode_31 ?_
    refine lv_topi (fun z_49 ez_49 => ?_)
    refine va_put (D := D) (ci := 6) (v := .int z_49) (ty := .int) (C := R_Prover) (T := F_Prover) (N := 9) hx hb hts i_Prover t_Prover t_Prover_ok n_Prover hown hK.1 hP hD hS 0 rfl rfl 2 (by decide) (hts _ wd_179) (fun _ h9 => h9) rfl (by decide +kernel) rfl rfl (Nat.le_of_ble_eq_true rfl) d_Prover_countNode_32 (fun H_50 locs hP1 hD1 hS1 => ?_)
    clear hP hD hS
    have hS := hS1
    have hW7 : (fun w9 : va_W => va_P D classes w9 H_50 ∧ va_D A w9) [(p0, .inr (6, [.ref b0, .int s_rows, .int z_49, .int s_first, .ref n0, .ref q1, .ref q2, .ref q3, .int (nI wt)])), (q1, .inl (ax 2, rl, .inl ro)), (q2, .inl (ax 0, 64, .inl (fun j => nI (dm j)))), (q3, .inl (ax 0, 64, .inl ix)), (n0, .inr (4, [.ref n1, .ref n2, .ref n3, .int (nI z9)])), (n1, .inl (ax 1, cp, .inl fo)), (n2, .inl (ax 0, cp, .inl fl)), (n3, .inl (ax 0, cp, .inl fr))] := ⟨hP1, hD1⟩
    obtain ⟨hP, hD⟩ := hW7
    clear hP1 hD1 hS1
    refine lv_aload_n hx hb d_Prover_countNode_35 rfl (lv_at hl1 3 rfl) ?_
    refine va_get (D := D) (ci := 6) (v := .ref q1) (C := R_Prover) (T := F_Prover) (N := 9) hx hb hts i_Prover hown hK.1 hP 0 rfl rfl 5 (by decide) (hts _ wd_184) (fun _ h9 => h9) rfl d_Prover_countNode_36 ?_
    refine lv_iload hx hb d_Prover_countNode_39 (lv_at hl1 0 rfl) ?_
    refine lv_iload_n hx hb d_Prover_countNode_41 rfl (lv_at hl1 2 rfl) ?_
    refine lv_iconst (v := 5) hx hb d_Prover_countNode_42 (by decide) ?_
    refine lv_icmp_ne (tgt := 50) hx hb d_Prover_countNode_43 (by decide) (fun c_51 => ?_) (fun c_51 => ?_)
    · replace c_51 : ¬ o9 = 5 := fun hq9 => c_51 ((nI_eq (a := o9) (b := 5) (by first | exact Nat.lt_of_lt_of_le (by assumption) (by decide) | exact Nat.lt_of_le_of_lt (by assumption) (by decide) | omega) (by decide)).mpr hq9)
      refine lv_iconst (v := 1) hx hb d_Prover_countNode_50 (by decide) ?_
      refine lv_i2s hx hb d_Prover_countNode_51 rfl ?_
      refine lv_topi (fun z_52 ez_52 => ?_)
      have ez_52 : z_52 = 1 := ez_52.trans (by first | rfl | decide)
      subst ez_52
      refine va_sast hx hb hK.1 hP hD hS 1 2 rfl rfl (vp_in_nI (by first | assumption | omega) (by first | exact Nat.lt_of_lt_of_le (by assumption) (by decide) | exact Nat.lt_of_le_of_lt (by assumption) (by decide) | omega)) d_Prover_countNode_52 (fun H_53 locs hP1 hD1 hS1 => ?_)
      rw [nI_clamp (by first | exact Nat.lt_of_lt_of_le (by assumption) (by decide) | exact Nat.lt_of_le_of_lt (by assumption) (by decide) | omega)] at hP1 hD1
      clear hP hD hS
      have hS := hS1
      have hW7 : (fun w9 : va_W => va_P D classes w9 H_53 ∧ va_D A w9) [(p0, .inr (6, [.ref b0, .int s_rows, .int z_49, .int s_first, .ref n0, .ref q1, .ref q2, .ref q3, .int (nI wt)])), (q1, .inl (ax 2, rl, .inl (upd ro (2 * nd + 1) 1))), (q2, .inl (ax 0, 64, .inl (fun j => nI (dm j)))), (q3, .inl (ax 0, 64, .inl ix)), (n0, .inr (4, [.ref n1, .ref n2, .ref n3, .int (nI z9)])), (n1, .inl (ax 1, cp, .inl fo)), (n2, .inl (ax 0, cp, .inl fl)), (n3, .inl (ax 0, cp, .inl fr))] := ⟨hP1, hD1⟩
      obtain ⟨hP, hD⟩ := hW7
      clear hP1 hD1 hS1
      refine lv_aload_n hx hb d_Prover_countNode_53 rfl (lv_at hl1 3 rfl) ?_
      refine va_get (D := D) (ci := 6) (v := .ref q1) (C := R_Prover) (T := F_Prover) (N := 9) hx hb hts i_Prover hown hK.1 hP 0 rfl rfl 5 (by decide) (hts _ wd_184) (fun _ h9 => h9) rfl d_Prover_countNode_54 ?_
      refine lv_iload_n hx hb d_Prover_countNode_57 rfl (lv_at hl1 1 rfl) ?_
      refine lv_iload_n hx hb d_Prover_countNode_58 rfl (lv_at hl1 2 rfl) ?_
      refine lv_iconst (v := 4) hx hb d_Prover_countNode_59 (by decide) ?_
      refine lv_icmp_ne (tgt := 67) hx hb d_Prover_countNode_60 (by decide) (fun c_54 => ?_) (fun c_54 => ?_)
      · replace c_54 : ¬ o9 = 4 := fun hq9 => c_54 ((nI_eq (a := o9) (b := 4) (by first | exact Nat.lt_of_lt_of_le (by assumption) (by decide) | exact Nat.lt_of_le_of_lt (by assumption) (by decide) | omega) (by decide)).mpr hq9)
        refine lv_iconst (v := 1) hx hb d_Prover_countNode_67 (by decide) ?_
        refine lv_i2s hx hb d_Prover_countNode_68 rfl ?_
        refine lv_topi (fun z_55 ez_55 => ?_)
        have ez_55 : z_55 = 1 := ez_55.trans (by first | rfl | decide)
        subst ez_55
        refine va_sast hx hb hK.1 hP hD hS 1 2 rfl rfl (vp_in_nI (by first | assumption | omega) (by first | exact Nat.lt_of_lt_of_le (by assumption) (by decide) | exact Nat.lt_of_le_of_lt (by assumption) (by decide) | omega)) d_Prover_countNode_69 (fun H_56 locs hP1 hD1 hS1 => ?_)
        rw [nI_clamp (by first | exact Nat.lt_of_lt_of_le (by assumption) (by decide) | exact Nat.lt_of_le_of_lt (by assumption) (by decide) | omega)] at hP1 hD1
        clear hP hD hS
        have hS := hS1
        have hW7 : (fun w9 : va_W => va_P D classes w9 H_56 ∧ va_D A w9) [(p0, .inr (6, [.ref b0, .int s_rows, .int z_49, .int s_first, .ref n0, .ref q1, .ref q2, .ref q3, .int (nI wt)])), (q1, .inl (ax 2, rl, .inl (upd (upd ro (2 * nd + 1) 1) (2 * nd) 1))), (q2, .inl (ax 0, 64, .inl (fun j => nI (dm j)))), (q3, .inl (ax 0, 64, .inl ix)), (n0, .inr (4, [.ref n1, .ref n2, .ref n3, .int (nI z9)])), (n1, .inl (ax 1, cp, .inl fo)), (n2, .inl (ax 0, cp, .inl fl)), (n3, .inl (ax 0, cp, .inl fr))] := ⟨hP1, hD1⟩
        obtain ⟨hP, hD⟩ := hW7
        clear hP1 hD1 hS1
        rw [← hQe]
        obtain ⟨hP9, hD9⟩ := xw_sub2 (wc := (fun (u : Nat → Nat) (xro : Nat → Int32) (xat : Int32) => [(p0, .inr (6, [.ref b0, .int s_rows, .int xat, .int s_first, .ref n0, .ref q1, .ref q2, .ref q3, .int (nI wt)])), (q1, .inl (ax 2, rl, .inl xro)), (q2, .inl (ax 0, 64, .inl (fun j => nI (dm j)))), (q3, .inl (ax 0, 64, .inl ix)), (n0, .inr (4, [.ref n1, .ref n2, .ref n3, .int (nI z9)])), (n1, .inl (ax 1, cp, .inl fo)), (n2, .inl (ax 0, cp, .inl fl)), (n3, .inl (ax 0, cp, .inl fr))]) (ixn []) (upd (upd ro (2 * nd + 1) 1) (2 * nd) 1) z_49) hP hD [0, 1, 2, 3, 4, 5, 6, 7] (by decide) rfl
        have hex0 : True := trivial
        exact W.vret hx hb hr (fun t ht hW => ⟨⟨ixn [], rfl, trivial, ⟨(upd (upd ro (2 * nd + 1) 1) (2 * nd) 1), z_49, hex0, by rw [ht]; exact hP9, hD9⟩⟩, hS.F ht⟩) hS.2.2 d_Prover_countNode_70
      · replace c_54 : o9 = 4 := (nI_eq (a := o9) (b := 4) (by first | exact Nat.lt_of_lt_of_le (by assumption) (by decide) | exact Nat.lt_of_le_of_lt (by assumption) (by decide) | omega) (by decide)).mp c_54
        refine lv_iconst (v := 2) hx hb d_Prover_countNode_63 (by decide) ?_
        refine lv_goto (tgt := 68) hx hb d_Prover_countNode_64 (by decide) ?_
        refine lv_i2s hx hb d_Prover_countNode_68 rfl ?_
        refine lv_topi (fun z_57 ez_57 => ?_)
        have ez_57 : z_57 = 2 := ez_57.trans (by first | rfl | decide)
        subst ez_57
        refine va_sast hx hb hK.1 hP hD hS 1 2 rfl rfl (vp_in_nI (by first | assumption | omega) (by first | exact Nat.lt_of_lt_of_le (by assumption) (by decide) | exact Nat.lt_of_le_of_lt (by assumption) (by decide) | omega)) d_Prover_countNode_69 (fun H_58 locs hP1 hD1 hS1 => ?_)
        rw [nI_clamp (by first | exact Nat.lt_of_lt_of_le (by assumption) (by decide) | exact Nat.lt_of_le_of_lt (by assumption) (by decide) | omega)] at hP1 hD1
        clear hP hD hS
        have hS := hS1
        have hW7 : (fun w9 : va_W => va_P D classes w9 H_58 ∧ va_D A w9) [(p0, .inr (6, [.ref b0, .int s_rows, .int z_49, .int s_first, .ref n0, .ref q1, .ref q2, .ref q3, .int (nI wt)])), (q1, .inl (ax 2, rl, .inl (upd (upd ro (2 * nd + 1) 1) (2 * nd) 2))), (q2, .inl (ax 0, 64, .inl (fun j => nI (dm j)))), (q3, .inl (ax 0, 64, .inl ix)), (n0, .inr (4, [.ref n1, .ref n2, .ref n3, .int (nI z9)])), (n1, .inl (ax 1, cp, .inl fo)), (n2, .inl (ax 0, cp, .inl fl)), (n3, .inl (ax 0, cp, .inl fr))] := ⟨hP1, hD1⟩
        obtain ⟨hP, hD⟩ := hW7
        clear hP1 hD1 hS1
        rw [← hQe]
        obtain ⟨hP9, hD9⟩ := xw_sub2 (wc := (fun (u : Nat → Nat) (xro : Nat → Int32) (xat : Int32) => [(p0, .inr (6, [.ref b0, .int s_rows, .int xat, .int s_first, .ref n0, .ref q1, .ref q2, .ref q3, .int (nI wt)])), (q1, .inl (ax 2, rl, .inl xro)), (q2, .inl (ax 0, 64, .inl (fun j => nI (dm j)))), (q3, .inl (ax 0, 64, .inl ix)), (n0, .inr (4, [.ref n1, .ref n2, .ref n3, .int (nI z9)])), (n1, .inl (ax 1, cp, .inl fo)), (n2, .inl (ax 0, cp, .inl fl)), (n3, .inl (ax 0, cp, .inl fr))]) (ixn []) (upd (upd ro (2 * nd + 1) 1) (2 * nd) 2) z_49) hP hD [0, 1, 2, 3, 4, 5, 6, 7] (by decide) rfl
        have hex0 : True := trivial
        exact W.vret hx hb hr (fun t ht hW => ⟨⟨ixn [], rfl, trivial, ⟨(upd (upd ro (2 * nd + 1) 1) (2 * nd) 2), z_49, hex0, by rw [ht]; exact hP9, hD9⟩⟩, hS.F ht⟩) hS.2.2 d_Prover_countNode_70
    · replace c_51 : o9 = 5 := (nI_eq (a := o9) (b := 5) (by first | exact Nat.lt_of_lt_of_le (by assumption) (by decide) | exact Nat.lt_of_le_of_lt (by assumption) (by decide) | omega) (by decide)).mp c_51
      refine lv_iconst (v := 2) hx hb d_Prover_countNode_46 (by decide) ?_
      refine lv_goto (tgt := 51) hx hb d_Prover_countNode_47 (by decide) ?_
      refine lv_i2s hx hb d_Prover_countNode_51 rfl ?_
      refine lv_topi (fun z_59 ez_59 => ?_)
      have ez_59 : z_59 = 2 := ez_59.trans (by first | rfl | decide)
      subst ez_59
      refine va_sast hx hb hK.1 hP hD hS 1 2 rfl rfl (vp_in_nI (by first | assumption | omega) (by first | exact Nat.lt_of_lt_of_le (by assumption) (by decide) | exact Nat.lt_of_le_of_lt (by assumption) (by decide) | omega)) d_Prover_countNode_52 (fun H_60 locs hP1 hD1 hS1 => ?_)
      rw [nI_clamp (by first | exact Nat.lt_of_lt_of_le (by assumption) (by decide) | exact Nat.lt_of_le_of_lt (by assumption) (by decide) | omega)] at hP1 hD1
      clear hP hD hS
      have hS := hS1
      have hW7 : (fun w9 : va_W => va_P D classes w9 H_60 ∧ va_D A w9) [(p0, .inr (6, [.ref b0, .int s_rows, .int z_49, .int s_first, .ref n0, .ref q1, .ref q2, .ref q3, .int (nI wt)])), (q1, .inl (ax 2, rl, .inl (upd ro (2 * nd + 1) 2))), (q2, .inl (ax 0, 64, .inl (fun j => nI (dm j)))), (q3, .inl (ax 0, 64, .inl ix)), (n0, .inr (4, [.ref n1, .ref n2, .ref n3, .int (nI z9)])), (n1, .inl (ax 1, cp, .inl fo)), (n2, .inl (ax 0, cp, .inl fl)), (n3, .inl (ax 0, cp, .inl fr))] := ⟨hP1, hD1⟩
      obtain ⟨hP, hD⟩ := hW7
      clear hP1 hD1 hS1
      refine lv_aload_n hx hb d_Prover_countNode_53 rfl (lv_at hl1 3 rfl) ?_
      refine va_get (D := D) (ci := 6) (v := .ref q1) (C := R_Prover) (T := F_Prover) (N := 9) hx hb hts i_Prover hown hK.1 hP 0 rfl rfl 5 (by decide) (hts _ wd_184) (fun _ h9 => h9) rfl d_Prover_countNode_54 ?_
      refine lv_iload_n hx hb d_Prover_countNode_57 rfl (lv_at hl1 1 rfl) ?_
      refine lv_iload_n hx hb d_Prover_countNode_58 rfl (lv_at hl1 2 rfl) ?_
      refine lv_iconst (v := 4) hx hb d_Prover_countNode_59 (by decide) ?_
      refine lv_icmp_ne (tgt := 67) hx hb d_Prover_countNode_60 (by decide) (fun c_61 => ?_) (fun c_61 => ?_)
      · replace c_61 : ¬ o9 = 4 := fun hq9 => c_61 ((nI_eq (a := o9) (b := 4) (by first | exact Nat.lt_of_lt_of_le (by assumption) (by decide) | exact Nat.lt_of_le_of_lt (by assumption) (by decide) | omega) (by decide)).mpr hq9)
        refine lv_iconst (v := 1) hx hb d_Prover_countNode_67 (by decide) ?_
        refine lv_i2s hx hb d_Prover_countNode_68 rfl ?_
        refine lv_topi (fun z_62 ez_62 => ?_)
        have ez_62 : z_62 = 1 := ez_62.trans (by first | rfl | decide)
        subst ez_62
        refine va_sast hx hb hK.1 hP hD hS 1 2 rfl rfl (vp_in_nI (by first | assumption | omega) (by first | exact Nat.lt_of_lt_of_le (by assumption) (by decide) | exact Nat.lt_of_le_of_lt (by assumption) (by decide) | omega)) d_Prover_countNode_69 (fun H_63 locs hP1 hD1 hS1 => ?_)
        rw [nI_clamp (by first | exact Nat.lt_of_lt_of_le (by assumption) (by decide) | exact Nat.lt_of_le_of_lt (by assumption) (by decide) | omega)] at hP1 hD1
        clear hP hD hS
        have hS := hS1
        have hW7 : (fun w9 : va_W => va_P D classes w9 H_63 ∧ va_D A w9) [(p0, .inr (6, [.ref b0, .int s_rows, .int z_49, .int s_first, .ref n0, .ref q1, .ref q2, .ref q3, .int (nI wt)])), (q1, .inl (ax 2, rl, .inl (upd (upd ro (2 * nd + 1) 2) (2 * nd) 1))), (q2, .inl (ax 0, 64, .inl (fun j => nI (dm j)))), (q3, .inl (ax 0, 64, .inl ix)), (n0, .inr (4, [.ref n1, .ref n2, .ref n3, .int (nI z9)])), (n1, .inl (ax 1, cp, .inl fo)), (n2, .inl (ax 0, cp, .inl fl)), (n3, .inl (ax 0, cp, .inl fr))] := ⟨hP1, hD1⟩
        obtain ⟨hP, hD⟩ := hW7
        clear hP1 hD1 hS1
        rw [← hQe]
        obtain ⟨hP9, hD9⟩ := xw_sub2 (wc := (fun (u : Nat → Nat) (xro : Nat → Int32) (xat : Int32) => [(p0, .inr (6, [.ref b0, .int s_rows, .int xat, .int s_first, .ref n0, .ref q1, .ref q2, .ref q3, .int (nI wt)])), (q1, .inl (ax 2, rl, .inl xro)), (q2, .inl (ax 0, 64, .inl (fun j => nI (dm j)))), (q3, .inl (ax 0, 64, .inl ix)), (n0, .inr (4, [.ref n1, .ref n2, .ref n3, .int (nI z9)])), (n1, .inl (ax 1, cp, .inl fo)), (n2, .inl (ax 0, cp, .inl fl)), (n3, .inl (ax 0, cp, .inl fr))]) (ixn []) (upd (upd ro (2 * nd + 1) 2) (2 * nd) 1) z_49) hP hD [0, 1, 2, 3, 4, 5, 6, 7] (by decide) rfl
        have hex0 : True := trivial
        exact W.vret hx hb hr (fun t ht hW => ⟨⟨ixn [], rfl, trivial, ⟨(upd (upd ro (2 * nd + 1) 2) (2 * nd) 1), z_49, hex0, by rw [ht]; exact hP9, hD9⟩⟩, hS.F ht⟩) hS.2.2 d_Prover_countNode_70
      · replace c_61 : o9 = 4 := (nI_eq (a := o9) (b := 4) (by first | exact Nat.lt_of_lt_of_le (by assumption) (by decide) | exact Nat.lt_of_le_of_lt (by assumption) (by decide) | omega) (by decide)).mp c_61
        refine lv_iconst (v := 2) hx hb d_Prover_countNode_63 (by decide) ?_
        refine lv_goto (tgt := 68) hx hb d_Prover_countNode_64 (by decide) ?_
        refine lv_i2s hx hb d_Prover_countNode_68 rfl ?_
        refine lv_topi (fun z_64 ez_64 => ?_)
        have ez_64 : z_64 = 2 := ez_64.trans (by first | rfl | decide)
        subst ez_64
        refine va_sast hx hb hK.1 hP hD hS 1 2 rfl rfl (vp_in_nI (by first | assumption | omega) (by first | exact Nat.lt_of_lt_of_le (by assumption) (by decide) | exact Nat.lt_of_le_of_lt (by assumption) (by decide) | omega)) d_Prover_countNode_69 (fun H_65 locs hP1 hD1 hS1 => ?_)
        rw [nI_clamp (by first | exact Nat.lt_of_lt_of_le (by assumption) (by decide) | exact Nat.lt_of_le_of_lt (by assumption) (by decide) | omega)] at hP1 hD1
        clear hP hD hS
        have hS := hS1
        have hW7 : (fun w9 : va_W => va_P D classes w9 H_65 ∧ va_D A w9) [(p0, .inr (6, [.ref b0, .int s_rows, .int z_49, .int s_first, .ref n0, .ref q1, .ref q2, .ref q3, .int (nI wt)])), (q1, .inl (ax 2, rl, .inl (upd (upd ro (2 * nd + 1) 2) (2 * nd) 2))), (q2, .inl (ax 0, 64, .inl (fun j => nI (dm j)))), (q3, .inl (ax 0, 64, .inl ix)), (n0, .inr (4, [.ref n1, .ref n2, .ref n3, .int (nI z9)])), (n1, .inl (ax 1, cp, .inl fo)), (n2, .inl (ax 0, cp, .inl fl)), (n3, .inl (ax 0, cp, .inl fr))] := ⟨hP1, hD1⟩
        obtain ⟨hP, hD⟩ := hW7
        clear hP1 hD1 hS1
        rw [← hQe]
        obtain ⟨hP9, hD9⟩ := xw_sub2 (wc := (fun (u : Nat → Nat) (xro : Nat → Int32) (xat : Int32) => [(p0, .inr (6, [.ref b0, .int s_rows, .int xat, .int s_first, .ref n0, .ref q1, .ref q2, .ref q3, .int (nI wt)])), (q1, .inl (ax 2, rl, .inl xro)), (q2, .inl (ax 0, 64, .inl (fun j => nI (dm j)))), (q3, .inl (ax 0, 64, .inl ix)), (n0, .inr (4, [.ref n1, .ref n2, .ref n3, .int (nI z9)])), (n1, .inl (ax 1, cp, .inl fo)), (n2, .inl (ax 0, cp, .inl fl)), (n3, .inl (ax 0, cp, .inl fr))]) (ixn []) (upd (upd ro (2 * nd + 1) 2) (2 * nd) 2) z_49) hP hD [0, 1, 2, 3, 4, 5, 6, 7] (by decide) rfl
        have hex0 : True := trivial
        exact W.vret hx hb hr (fun t ht hW => ⟨⟨ixn [], rfl, trivial, ⟨(upd (upd ro (2 * nd + 1) 2) (2 * nd) 2), z_49, hex0, by rw [ht]; exact hP9, hD9⟩⟩, hS.F ht⟩) hS.2.2 d_Prover_countNode_70
abbrev b_Prover_rowsAlike : ByteArray := prog_8_method_7_code
def y_Prover_rowsAlike : MethodName := ⟨R_Prover, "rowsAlike", "()I"⟩
theorem d_Prover_rowsAlike_0 : decode b_Prover_rowsAlike 0 = .ok (.iconst 1, 1) := by decide +kernel
theorem d_Prover_rowsAlike_1 : decode b_Prover_rowsAlike 1 = .ok (.istore_n 1, 1) := by decide +kernel
theorem d_Prover_rowsAlike_2 : decode b_Prover_rowsAlike 2 = .ok (.iconst 0, 1) := by decide +kernel
theorem d_Prover_rowsAlike_3 : decode b_Prover_rowsAlike 3 = .ok (.istore_n 2, 1) := by decide +kernel
theorem d_Prover_rowsAlike_4 : decode b_Prover_rowsAlike 4 = .ok (.iload_n 2, 1) := by decide +kernel
theorem d_Prover_rowsAlike_5 : decode b_Prover_rowsAlike 5 = .ok (.aload_n 0, 1) := by decide +kernel
theorem d_Prover_rowsAlike_6 : decode b_Prover_rowsAlike 6 = .ok (.getfield 86, 3) := by decide +kernel
theorem d_Prover_rowsAlike_9 : decode b_Prover_rowsAlike 9 = .ok (.if_icmp .ge 23, 3) := by decide +kernel
theorem d_Prover_rowsAlike_12 : decode b_Prover_rowsAlike 12 = .ok (.iload_n 1, 1) := by decide +kernel
theorem d_Prover_rowsAlike_13 : decode b_Prover_rowsAlike 13 = .ok (.aload_n 0, 1) := by decide +kernel
theorem d_Prover_rowsAlike_14 : decode b_Prover_rowsAlike 14 = .ok (.getfield 18, 3) := by decide +kernel
theorem d_Prover_rowsAlike_17 : decode b_Prover_rowsAlike 17 = .ok (.aload_n 0, 1) := by decide +kernel
theorem d_Prover_rowsAlike_18 : decode b_Prover_rowsAlike 18 = .ok (.getfield 22, 3) := by decide +kernel
theorem d_Prover_rowsAlike_21 : decode b_Prover_rowsAlike 21 = .ok (.iload_n 2, 1) := by decide +kernel
theorem d_Prover_rowsAlike_22 : decode b_Prover_rowsAlike 22 = .ok (.iaload, 1) := by decide +kernel
theorem d_Prover_rowsAlike_23 : decode b_Prover_rowsAlike 23 = .ok (.saload, 1) := by decide +kernel
theorem d_Prover_rowsAlike_24 : decode b_Prover_rowsAlike 24 = .ok (.imul, 1) := by decide +kernel
theorem d_Prover_rowsAlike_25 : decode b_Prover_rowsAlike 25 = .ok (.istore_n 1, 1) := by decide +kernel
theorem d_Prover_rowsAlike_26 : decode b_Prover_rowsAlike 26 = .ok (.iinc 2 1, 3) := by decide +kernel
theorem d_Prover_rowsAlike_29 : decode b_Prover_rowsAlike 29 = .ok (.goto (-25), 3) := by decide +kernel
theorem d_Prover_rowsAlike_32 : decode b_Prover_rowsAlike 32 = .ok (.iload_n 1, 1) := by decide +kernel
theorem d_Prover_rowsAlike_33 : decode b_Prover_rowsAlike 33 = .ok (.ireturn, 1) := by decide +kernel
set_option maxHeartbeats 40000000 in
set_option maxRecDepth 100000 in
theorem c_P_rowsAlike (l : Launch) (D : va_G) (ax : Nat → ClassId) (p0 q1 q2 q3 wt rl b0 : Nat) (s_rows s_atoms s_first : Int32) (ro ix : Nat → Int32) (dm : Nat → Nat) (n0 : Nat) (sz : Nat) (hwt : wt ≤ 64) (hdm : dmo dm wt rl) (hrl2 : rl ≤ 300000) : Met l y_Prover_rowsAlike (xws (.code y_Prover_rowsAlike b_Prover_rowsAlike 3 (some .int))) ({ frames := 10, cells := 0, slots := 0, locals := 400 }) (va_Pc [.ref p0] (xo D ax [(p0, .inr (6, [.ref b0, .int s_rows, .int s_atoms, .int s_first, .ref n0, .ref q1, .ref q2, .ref q3, .int (nI wt)])), (q1, .inl (ax 2, rl, .inl ro)), (q2, .inl (ax 0, 64, .inl (fun j => nI (dm j)))), (q3, .inl (ax 0, 64, .inl ix))] sz)) ((va_Qi (fun (r : Int32) (u : Nat → Nat) => r = nI (u 0) ∧ (u 0 ≤ 4294967295)) (xb D (va_A [(p0, .inr (6, [.ref b0, .int s_rows, .int s_atoms, .int s_first, .ref n0, .ref q1, .ref q2, .ref q3, .int (nI wt)])), (q1, .inl (ax 2, rl, .inl ro)), (q2, .inl (ax 0, 64, .inl (fun j => nI (dm j)))), (q3, .inl (ax 0, 64, .inl ix))] sz) (fun u => [(p0, .inr (6, [.ref b0, .int s_rows, .int s_atoms, .int s_first, .ref n0, .ref q1, .ref q2, .ref q3, .int (nI wt)])), (q1, .inl (ax 2, rl, .inl ro)), (q2, .inl (ax 0, 64, .inl (fun j => nI (dm j)))), (q3, .inl (ax 0, 64, .inl ix))])) (va_A [(p0, .inr (6, [.ref b0, .int s_rows, .int s_atoms, .int s_first, .ref n0, .ref q1, .ref q2, .ref q3, .int (nI wt)])), (q1, .inl (ax 2, rl, .inl ro)), (q2, .inl (ax 0, 64, .inl (fun j => nI (dm j)))), (q3, .inl (ax 0, 64, .inl ix))] sz))) 0 0 (va_A [(p0, .inr (6, [.ref b0, .int s_rows, .int s_atoms, .int s_first, .ref n0, .ref q1, .ref q2, .ref q3, .int (nI wt)])), (q1, .inl (ax 2, rl, .inl ro)), (q2, .inl (ax 0, 64, .inl (fun j => nI (dm j)))), (q3, .inl (ax 0, 64, .inl ix))] sz) := by
  refine Met.ofW (cc := b_Prover_rowsAlike) (maxL := 3) (ret := (some .int)) (by decide) rfl ?_
  intro p e s m args below meth c s₁ B hml hv
  obtain ⟨rfl, hsz, hP, hK, hD0⟩ := hv
  have hx := B.exec
  have hb := B.bytes
  have hr := B.returns
  have hts := xw_hts B.pre
  have hown : s.vm.findClass R_Prover = some m.cls := findClass_of_methodNamed B.named
  have hlocks := B.notSynchronized
  subst hsz
  have hD := hD0.self (sz := s.heap.size)
  have hN := xz_entry hP
  generalize hAe : va_A [(p0, .inr (6, [.ref b0, .int s_rows, .int s_atoms, .int s_first, .ref n0, .ref q1, .ref q2, .ref q3, .int (nI wt)])), (q1, .inl (ax 2, rl, .inl ro)), (q2, .inl (ax 0, 64, .inl (fun j => nI (dm j)))), (q3, .inl (ax 0, 64, .inl ix))] s.heap.size = A at hD hN ⊢
  have hA : ∀ q : Nat, s.heap.size ≤ q → A q := fun q h => by rw [← hAe]; exact Or.inr h
  have hS : va_S A s.heap s.heap [] := va_S.rf
  have hl0 := lv_entry ([.ref p0]) (n := 3) (Nat.le_of_ble_eq_true rfl)
  rw [lg_entry_eq]
  generalize (lg_sl ([.ref p0]) ++ List.replicate (3 - (lg_sl ([.ref p0])).length) Slot.unset).toArray = ls at hl0 ⊢
  have hl1 : lv_has ls 3 [(0, .ref p0)] := hl0
  refine xw_gen (fun Z9 hQe => ?_)
  refine lv_iconst (v := 1) hx hb d_Prover_rowsAlike_0 (by decide) ?_
  refine lv_istore_n (lv' := [(1, .int 1), (0, .ref p0)]) hx hb d_Prover_rowsAlike_1 rfl hl1 (by decide) rfl (fun ls hl2 => ?_)
  clear hl1; have hl1 := hl2; clear hl2
  refine lv_iconst (v := 0) hx hb d_Prover_rowsAlike_2 (by decide) ?_
  refine lv_istore_n (lv' := [(2, .int 0), (1, .int 1), (0, .ref p0)]) hx hb d_Prover_rowsAlike_3 rfl hl1 (by decide) rfl (fun ls hl2 => ?_)
  clear hl1; have hl1 := hl2; clear hl2
  suffices key_1 : ∀ (k : Nat) (i1 : Nat) (x9 : Int32), wt - i1 < k → i1 ≤ wt → ∀ (H : Heap) (locs : List Loc) (ls : Array Slot), va_P D classes [(p0, .inr (6, [.ref b0, .int s_rows, .int s_atoms, .int s_first, .ref n0, .ref q1, .ref q2, .ref q3, .int (nI wt)])), (q1, .inl (ax 2, rl, .inl ro)), (q2, .inl (ax 0, 64, .inl (fun j => nI (dm j)))), (q3, .inl (ax 0, 64, .inl ix))] H → va_D A [(p0, .inr (6, [.ref b0, .int s_rows, .int s_atoms, .int s_first, .ref n0, .ref q1, .ref q2, .ref q3, .int (nI wt)])), (q1, .inl (ax 2, rl, .inl ro)), (q2, .inl (ax 0, 64, .inl (fun j => nI (dm j)))), (q3, .inl (ax 0, 64, .inl ix))] → va_S A s.heap H locs → lv_has ls 3 [(0, .ref p0), (1, .int x9), (2, .int (nI i1))] → W p l e (headSpec (xws (.code y_Prover_rowsAlike b_Prover_rowsAlike 3 (some .int))) ({ frames := 10, cells := 0, slots := 0, locals := 400 })).room s m ([.ref p0] : List Value).toArray below meth c H locs 0 0 Z9 (F0 m 4 ls []) from key_1 (wt - 0 + 1) 0 1 (Nat.lt_succ_self _) (by first | assumption | omega) _ _ _ (hP) (hD) hS (lv_sub hl1 [2, 1, 0] rfl)
  intro k_2
  induction k_2 with
  | zero =>
    intro i1 x9 hk_4
    exact absurd hk_4 (Nat.not_lt_zero _)
  | succ k_2 ih_3 =>
    clear hP hD hS hl1
    intro i1 x9 hk_4 hi1 H locs ls hP hD hS hl1
    refine lv_iload_n hx hb d_Prover_rowsAlike_4 rfl (lv_at hl1 2 rfl) ?_
    refine lv_aload_n hx hb d_Prover_rowsAlike_5 rfl (lv_at hl1 0 rfl) ?_
    refine va_get (D := D) (ci := 6) (v := .int (nI wt)) (C := R_Prover) (T := F_Prover) (N := 9) hx hb hts i_Prover hown hK.1 hP 0 rfl rfl 8 (by decide) (hts _ wd_187) (fun _ h9 => h9) rfl d_Prover_rowsAlike_6 ?_
    refine lv_icmp_ge (tgt := 32) hx hb d_Prover_rowsAlike_9 (by decide) (fun c_5 => ?_) (fun c_5 => ?_)
    · replace c_5 : wt ≤ i1 := (nI_leI (a := wt) (b := i1) (by first | exact Nat.lt_of_lt_of_le (by assumption) (by decide) | exact Nat.lt_of_le_of_lt (by assumption) (by decide) | omega) (by first | exact Nat.lt_of_lt_of_le (by assumption) (by decide) | exact Nat.lt_of_le_of_lt (by assumption) (by decide) | omega)).mp c_5
      refine lv_iload_n hx hb d_Prover_rowsAlike_32 rfl (lv_at hl1 1 rfl) ?_
      rw [← hQe]
      obtain ⟨hP9, hD9⟩ := xw_sub2 (wc := (fun u : Nat → Nat => [(p0, .inr (6, [.ref b0, .int s_rows, .int s_atoms, .int s_first, .ref n0, .ref q1, .ref q2, .ref q3, .int (nI wt)])), (q1, .inl (ax 2, rl, .inl ro)), (q2, .inl (ax 0, 64, .inl (fun j => nI (dm j)))), (q3, .inl (ax 0, 64, .inl ix))]) (ixn [(i2n x9)])) hP hD [0, 1, 2, 3] (by decide) rfl
      have hsp0 : (i2n x9) ≤ 4294967295 := (Nat.le_of_lt_succ (i2n_lt _))
      exact W.iret (v := x9) hx hb hr (fun t ht hW => ⟨⟨x9, ixn [(i2n x9)], rfl, ⟨(nI_i2n _).symm, hsp0⟩, ⟨by rw [ht]; exact hP9, hD9⟩⟩, hS.F ht⟩) hS.2.2 d_Prover_rowsAlike_33
    · replace c_5 : ¬ wt ≤ i1 := fun hq9 => c_5 ((nI_leI (a := wt) (b := i1) (by first | exact Nat.lt_of_lt_of_le (by assumption) (by decide) | exact Nat.lt_of_le_of_lt (by assumption) (by decide) | omega) (by first | exact Nat.lt_of_lt_of_le (by assumption) (by decide) | exact Nat.lt_of_le_of_lt (by assumption) (by decide) | omega)).mpr hq9)
      have hd9 := hdm i1 (by first | assumption | omega)
      refine lv_iload_n hx hb d_Prover_rowsAlike_12 rfl (lv_at hl1 1 rfl) ?_
      refine lv_aload_n hx hb d_Prover_rowsAlike_13 rfl (lv_at hl1 0 rfl) ?_
      refine va_get (D := D) (ci := 6) (v := .ref q1) (C := R_Prover) (T := F_Prover) (N := 9) hx hb hts i_Prover hown hK.1 hP 0 rfl rfl 5 (by decide) (hts _ wd_184) (fun _ h9 => h9) rfl d_Prover_rowsAlike_14 ?_
      refine lv_aload_n hx hb d_Prover_rowsAlike_17 rfl (lv_at hl1 0 rfl) ?_
      refine va_get (D := D) (ci := 6) (v := .ref q2) (C := R_Prover) (T := F_Prover) (N := 9) hx hb hts i_Prover hown hK.1 hP 0 rfl rfl 6 (by decide) (hts _ wd_185) (fun _ h9 => h9) rfl d_Prover_rowsAlike_18 ?_
      refine lv_iload_n hx hb d_Prover_rowsAlike_21 rfl (lv_at hl1 2 rfl) ?_
      refine va_iald hx hb hK.1 hP 2 0 rfl rfl (vp_in_nI (by first | assumption | omega) (by decide)) d_Prover_rowsAlike_22 ?_
      refine W.eq (g2 := F0 m 23 ls [.int (nI (dm i1)), .ref q1, .int x9]) (by rw [nI_clamp (by first | exact Nat.lt_of_lt_of_le (by assumption) (by decide) | exact Nat.lt_of_le_of_lt (by assumption) (by decide) | omega)]) ?_
      refine va_sald hx hb hK.1 hP 1 2 rfl rfl (vp_in_nI (by first | assumption | omega) (by first | exact Nat.lt_of_lt_of_le (by assumption) (by decide) | exact Nat.lt_of_le_of_lt (by assumption) (by decide) | omega)) d_Prover_rowsAlike_23 ?_
      refine W.eq (g2 := F0 m 24 ls [.int (ro (dm i1)), .int x9]) (by rw [nI_clamp (by first | exact Nat.lt_of_lt_of_le (by assumption) (by decide) | exact Nat.lt_of_le_of_lt (by assumption) (by decide) | omega)]) ?_
      refine lv_imul hx hb d_Prover_rowsAlike_24 ?_
      refine lv_topi (fun z_6 ez_6 => ?_)
      refine lv_istore_n (lv' := [(1, .int z_6), (0, .ref p0), (2, .int (nI i1))]) hx hb d_Prover_rowsAlike_25 rfl hl1 (by decide) rfl (fun ls hl2 => ?_)
      clear hl1; have hl1 := hl2; clear hl2
      refine lv_iinc (v := nI (i1 + 1)) (lv' := [(2, .int (nI (i1 + 1))), (1, .int z_6), (0, .ref p0)]) hx hb d_Prover_rowsAlike_26 hl1 (k := 2) rfl (nI_add i1 1) (by decide) rfl (fun ls hl2 => ?_)
      clear hl1; have hl1 := hl2; clear hl2
      refine lv_goto (tgt := 4) hx hb d_Prover_rowsAlike_29 (by decide) ?_
      exact ih_3 (i1 + 1) z_6 (by first | assumption | omega) (by first | assumption | omega) _ _ _ (hP.sub [0, 1, 2, 3] rfl) (hD.sub [0, 1, 2, 3] (by decide) rfl) hS (lv_sub hl1 [2, 1, 0] rfl)
abbrev b_Prover_fits : ByteArray := prog_8_method_6_code
def y_Prover_fits : MethodName := ⟨R_Prover, "fits", "(I)Z"⟩
theorem d_Prover_fits_0 : decode b_Prover_fits 0 = .ok (.aload_n 0, 1) := by decide +kernel
theorem d_Prover_fits_1 : decode b_Prover_fits 1 = .ok (.getfield 12, 3) := by decide +kernel
theorem d_Prover_fits_4 : decode b_Prover_fits 4 = .ok (.invokevirtual 83, 3) := by decide +kernel
theorem d_Prover_fits_7 : decode b_Prover_fits 7 = .ok (.aload_n 0, 1) := by decide +kernel
theorem d_Prover_fits_8 : decode b_Prover_fits 8 = .ok (.iconst 0, 1) := by decide +kernel
theorem d_Prover_fits_9 : decode b_Prover_fits 9 = .ok (.putfield 86, 3) := by decide +kernel
theorem d_Prover_fits_12 : decode b_Prover_fits 12 = .ok (.aload_n 0, 1) := by decide +kernel
theorem d_Prover_fits_13 : decode b_Prover_fits 13 = .ok (.iconst 2, 1) := by decide +kernel
theorem d_Prover_fits_14 : decode b_Prover_fits 14 = .ok (.aload_n 0, 1) := by decide +kernel
theorem d_Prover_fits_15 : decode b_Prover_fits 15 = .ok (.getfield 29, 3) := by decide +kernel
theorem d_Prover_fits_18 : decode b_Prover_fits 18 = .ok (.invokevirtual 50, 3) := by decide +kernel
theorem d_Prover_fits_21 : decode b_Prover_fits 21 = .ok (.imul, 1) := by decide +kernel
theorem d_Prover_fits_22 : decode b_Prover_fits 22 = .ok (.iload_n 1, 1) := by decide +kernel
theorem d_Prover_fits_23 : decode b_Prover_fits 23 = .ok (.invokevirtual 89, 3) := by decide +kernel
theorem d_Prover_fits_26 : decode b_Prover_fits 26 = .ok (.iconst 1, 1) := by decide +kernel
theorem d_Prover_fits_27 : decode b_Prover_fits 27 = .ok (.istore_n 2, 1) := by decide +kernel
theorem d_Prover_fits_28 : decode b_Prover_fits 28 = .ok (.iconst 0, 1) := by decide +kernel
theorem d_Prover_fits_29 : decode b_Prover_fits 29 = .ok (.istore_n 3, 1) := by decide +kernel
theorem d_Prover_fits_30 : decode b_Prover_fits 30 = .ok (.iload_n 2, 1) := by decide +kernel
theorem d_Prover_fits_31 : decode b_Prover_fits 31 = .ok (.ifCond .eq 130, 3) := by decide +kernel
theorem d_Prover_fits_34 : decode b_Prover_fits 34 = .ok (.aload_n 0, 1) := by decide +kernel
theorem d_Prover_fits_35 : decode b_Prover_fits 35 = .ok (.getfield 86, 3) := by decide +kernel
theorem d_Prover_fits_38 : decode b_Prover_fits 38 = .ok (.ifCond .le 123, 3) := by decide +kernel
theorem d_Prover_fits_41 : decode b_Prover_fits 41 = .ok (.iload_n 3, 1) := by decide +kernel
theorem d_Prover_fits_42 : decode b_Prover_fits 42 = .ok (.aload_n 0, 1) := by decide +kernel
theorem d_Prover_fits_43 : decode b_Prover_fits 43 = .ok (.getfield 29, 3) := by decide +kernel
theorem d_Prover_fits_46 : decode b_Prover_fits 46 = .ok (.getfield 33, 3) := by decide +kernel
theorem d_Prover_fits_49 : decode b_Prover_fits 49 = .ok (.if_icmp .ge 112, 3) := by decide +kernel
theorem d_Prover_fits_52 : decode b_Prover_fits 52 = .ok (.aload_n 0, 1) := by decide +kernel
theorem d_Prover_fits_53 : decode b_Prover_fits 53 = .ok (.dup, 1) := by decide +kernel
theorem d_Prover_fits_54 : decode b_Prover_fits 54 = .ok (.getfield 86, 3) := by decide +kernel
theorem d_Prover_fits_57 : decode b_Prover_fits 57 = .ok (.iconst 1, 1) := by decide +kernel
theorem d_Prover_fits_58 : decode b_Prover_fits 58 = .ok (.isub, 1) := by decide +kernel
theorem d_Prover_fits_59 : decode b_Prover_fits 59 = .ok (.putfield 86, 3) := by decide +kernel
theorem d_Prover_fits_62 : decode b_Prover_fits 62 = .ok (.aload_n 0, 1) := by decide +kernel
theorem d_Prover_fits_63 : decode b_Prover_fits 63 = .ok (.getfield 22, 3) := by decide +kernel
theorem d_Prover_fits_66 : decode b_Prover_fits 66 = .ok (.aload_n 0, 1) := by decide +kernel
theorem d_Prover_fits_67 : decode b_Prover_fits 67 = .ok (.getfield 86, 3) := by decide +kernel
theorem d_Prover_fits_70 : decode b_Prover_fits 70 = .ok (.iaload, 1) := by decide +kernel
theorem d_Prover_fits_71 : decode b_Prover_fits 71 = .ok (.iconst 1, 1) := by decide +kernel
theorem d_Prover_fits_72 : decode b_Prover_fits 72 = .ok (.ishr, 1) := by decide +kernel
theorem d_Prover_fits_73 : decode b_Prover_fits 73 = .ok (.istore 4, 2) := by decide +kernel
theorem d_Prover_fits_75 : decode b_Prover_fits 75 = .ok (.aload_n 0, 1) := by decide +kernel
theorem d_Prover_fits_76 : decode b_Prover_fits 76 = .ok (.getfield 29, 3) := by decide +kernel
theorem d_Prover_fits_79 : decode b_Prover_fits 79 = .ok (.getfield 39, 3) := by decide +kernel
theorem d_Prover_fits_82 : decode b_Prover_fits 82 = .ok (.iload 4, 2) := by decide +kernel
theorem d_Prover_fits_84 : decode b_Prover_fits 84 = .ok (.baload, 1) := by decide +kernel
theorem d_Prover_fits_85 : decode b_Prover_fits 85 = .ok (.bipush 6, 2) := by decide +kernel
theorem d_Prover_fits_87 : decode b_Prover_fits 87 = .ok (.if_icmp .ge 42, 3) := by decide +kernel
theorem d_Prover_fits_90 : decode b_Prover_fits 90 = .ok (.aload_n 0, 1) := by decide +kernel
theorem d_Prover_fits_91 : decode b_Prover_fits 91 = .ok (.getfield 12, 3) := by decide +kernel
theorem d_Prover_fits_94 : decode b_Prover_fits 94 = .ok (.aload_n 0, 1) := by decide +kernel
theorem d_Prover_fits_95 : decode b_Prover_fits 95 = .ok (.aload_n 0, 1) := by decide +kernel
theorem d_Prover_fits_96 : decode b_Prover_fits 96 = .ok (.getfield 86, 3) := by decide +kernel
theorem d_Prover_fits_99 : decode b_Prover_fits 99 = .ok (.invokevirtual 93, 3) := by decide +kernel
theorem d_Prover_fits_102 : decode b_Prover_fits 102 = .ok (.aload_n 0, 1) := by decide +kernel
theorem d_Prover_fits_103 : decode b_Prover_fits 103 = .ok (.getfield 29, 3) := by decide +kernel
theorem d_Prover_fits_106 : decode b_Prover_fits 106 = .ok (.getfield 57, 3) := by decide +kernel
theorem d_Prover_fits_109 : decode b_Prover_fits 109 = .ok (.iload 4, 2) := by decide +kernel
theorem d_Prover_fits_111 : decode b_Prover_fits 111 = .ok (.iaload, 1) := by decide +kernel
theorem d_Prover_fits_112 : decode b_Prover_fits 112 = .ok (.aload_n 0, 1) := by decide +kernel
theorem d_Prover_fits_113 : decode b_Prover_fits 113 = .ok (.getfield 29, 3) := by decide +kernel
theorem d_Prover_fits_116 : decode b_Prover_fits 116 = .ok (.getfield 60, 3) := by decide +kernel
theorem d_Prover_fits_119 : decode b_Prover_fits 119 = .ok (.iload 4, 2) := by decide +kernel
theorem d_Prover_fits_121 : decode b_Prover_fits 121 = .ok (.iaload, 1) := by decide +kernel
theorem d_Prover_fits_122 : decode b_Prover_fits 122 = .ok (.invokevirtual 97, 3) := by decide +kernel
theorem d_Prover_fits_125 : decode b_Prover_fits 125 = .ok (.istore_n 2, 1) := by decide +kernel
theorem d_Prover_fits_126 : decode b_Prover_fits 126 = .ok (.goto 29, 3) := by decide +kernel
theorem d_Prover_fits_129 : decode b_Prover_fits 129 = .ok (.aload_n 0, 1) := by decide +kernel
theorem d_Prover_fits_130 : decode b_Prover_fits 130 = .ok (.iload 4, 2) := by decide +kernel
theorem d_Prover_fits_132 : decode b_Prover_fits 132 = .ok (.aload_n 0, 1) := by decide +kernel
theorem d_Prover_fits_133 : decode b_Prover_fits 133 = .ok (.getfield 22, 3) := by decide +kernel
theorem d_Prover_fits_136 : decode b_Prover_fits 136 = .ok (.aload_n 0, 1) := by decide +kernel
theorem d_Prover_fits_137 : decode b_Prover_fits 137 = .ok (.getfield 86, 3) := by decide +kernel
theorem d_Prover_fits_140 : decode b_Prover_fits 140 = .ok (.iaload, 1) := by decide +kernel
theorem d_Prover_fits_141 : decode b_Prover_fits 141 = .ok (.iconst 1, 1) := by decide +kernel
theorem d_Prover_fits_142 : decode b_Prover_fits 142 = .ok (.iand, 1) := by decide +kernel
theorem d_Prover_fits_143 : decode b_Prover_fits 143 = .ok (.aload_n 0, 1) := by decide +kernel
theorem d_Prover_fits_144 : decode b_Prover_fits 144 = .ok (.getfield 26, 3) := by decide +kernel
theorem d_Prover_fits_147 : decode b_Prover_fits 147 = .ok (.aload_n 0, 1) := by decide +kernel
theorem d_Prover_fits_148 : decode b_Prover_fits 148 = .ok (.getfield 86, 3) := by decide +kernel
theorem d_Prover_fits_151 : decode b_Prover_fits 151 = .ok (.iaload, 1) := by decide +kernel
theorem d_Prover_fits_152 : decode b_Prover_fits 152 = .ok (.invokevirtual 101, 3) := by decide +kernel
theorem d_Prover_fits_155 : decode b_Prover_fits 155 = .ok (.iinc 3 1, 3) := by decide +kernel
theorem d_Prover_fits_158 : decode b_Prover_fits 158 = .ok (.goto (-128), 3) := by decide +kernel
theorem d_Prover_fits_161 : decode b_Prover_fits 161 = .ok (.iload_n 2, 1) := by decide +kernel
theorem d_Prover_fits_162 : decode b_Prover_fits 162 = .ok (.ireturn, 1) := by decide +kernel
set_option maxHeartbeats 40000000 in
set_option maxRecDepth 100000 in
theorem c_P_fits (l : Launch) (D : va_G) (ax : Nat → ClassId) (p0 q1 q2 q3 wt rl b0 : Nat) (s_rows s_atoms s_first : Int32) (ro ix : Nat → Int32) (dm : Nat → Nat) (n0 n1 n2 n3 cp z9 : Nat) (fo fl fr : Nat → Int32) (b1 b2 b3 bn : Nat) (lv mo : Nat → Int32) (bo : Nat → Nat) (x1 : Int32) (sz : Nat) (hz1 : 1 ≤ z9) (hbv : bnv mo bo bn) (hz9 : z9 ≤ cp) (hcp : cp ≤ 100000) (hrl : 2 * z9 ≤ rl) (hrl2 : rl ≤ 300000) (hnv : ndv fo fl fr z9) : Met l y_Prover_fits (xws (.code y_Prover_fits b_Prover_fits 5 (some .boolean))) ({ frames := 60, cells := 0, slots := 0, locals := 2400 }) (va_Pc [.ref p0, .int x1] (xo D ax [(p0, .inr (6, [.ref b0, .int s_rows, .int s_atoms, .int s_first, .ref n0, .ref q1, .ref q2, .ref q3, .int (nI wt)])), (q1, .inl (ax 2, rl, .inl ro)), (q2, .inl (ax 0, 64, .inl (fun j => nI (dm j)))), (q3, .inl (ax 0, 64, .inl ix)), (n0, .inr (4, [.ref n1, .ref n2, .ref n3, .int (nI z9)])), (n1, .inl (ax 1, cp, .inl fo)), (n2, .inl (ax 0, cp, .inl fl)), (n3, .inl (ax 0, cp, .inl fr)), (b0, .inr (0, [.ref b1, .ref b2, .ref b3, .int (nI bn)])), (b1, .inl (ax 0, 11, .inl lv)), (b2, .inl (ax 0, 121, .inl mo)), (b3, .inl (ax 0, 121, .inl (fun j => nI (bo j))))] sz)) ((va_Qi (fun (r : Int32) (u : Nat → Nat) => r = nI (u 2) ∧ (u 0 ≤ 64 ∧ u 2 ≤ 1)) (fun (u : Nat → Nat) (t9 : State) => ∃ xdm : Nat → Nat, ∃ xix : Nat → Int32, ∃ xlv : Nat → Int32, ∃ xmo : Nat → Int32, ∃ xbo : Nat → Nat, (dmo xdm (u 0) (2 * z9)) ∧ (bnv xmo xbo (u 1)) ∧ va_P D classes [(p0, .inr (6, [.ref b0, .int s_rows, .int s_atoms, .int s_first, .ref n0, .ref q1, .ref q2, .ref q3, .int (nI (u 0))])), (q1, .inl (ax 2, rl, .inl ro)), (q2, .inl (ax 0, 64, .inl (fun j => nI (xdm j)))), (q3, .inl (ax 0, 64, .inl xix)), (n0, .inr (4, [.ref n1, .ref n2, .ref n3, .int (nI z9)])), (n1, .inl (ax 1, cp, .inl fo)), (n2, .inl (ax 0, cp, .inl fl)), (n3, .inl (ax 0, cp, .inl fr)), (b0, .inr (0, [.ref b1, .ref b2, .ref b3, .int (nI (u 1))])), (b1, .inl (ax 0, 11, .inl xlv)), (b2, .inl (ax 0, 121, .inl xmo)), (b3, .inl (ax 0, 121, .inl (fun j => nI (xbo j))))] t9.heap ∧ va_D (va_A [(p0, .inr (6, [.ref b0, .int s_rows, .int s_atoms, .int s_first, .ref n0, .ref q1, .ref q2, .ref q3, .int (nI wt)])), (q1, .inl (ax 2, rl, .inl ro)), (q2, .inl (ax 0, 64, .inl (fun j => nI (dm j)))), (q3, .inl (ax 0, 64, .inl ix)), (n0, .inr (4, [.ref n1, .ref n2, .ref n3, .int (nI z9)])), (n1, .inl (ax 1, cp, .inl fo)), (n2, .inl (ax 0, cp, .inl fl)), (n3, .inl (ax 0, cp, .inl fr)), (b0, .inr (0, [.ref b1, .ref b2, .ref b3, .int (nI bn)])), (b1, .inl (ax 0, 11, .inl lv)), (b2, .inl (ax 0, 121, .inl mo)), (b3, .inl (ax 0, 121, .inl (fun j => nI (bo j))))] sz) [(p0, .inr (6, [.ref b0, .int s_rows, .int s_atoms, .int s_first, .ref n0, .ref q1, .ref q2, .ref q3, .int (nI (u 0))])), (q1, .inl (ax 2, rl, .inl ro)), (q2, .inl (ax 0, 64, .inl (fun j => nI (xdm j)))), (q3, .inl (ax 0, 64, .inl xix)), (n0, .inr (4, [.ref n1, .ref n2, .ref n3, .int (nI z9)])), (n1, .inl (ax 1, cp, .inl fo)), (n2, .inl (ax 0, cp, .inl fl)), (n3, .inl (ax 0, cp, .inl fr)), (b0, .inr (0, [.ref b1, .ref b2, .ref b3, .int (nI (u 1))])), (b1, .inl (ax 0, 11, .inl xlv)), (b2, .inl (ax 0, 121, .inl xmo)), (b3, .inl (ax 0, 121, .inl (fun j => nI (xbo j))))]) (va_A [(p0, .inr (6, [.ref b0, .int s_rows, .int s_atoms, .int s_first, .ref n0, .ref q1, .ref q2, .ref q3, .int (nI wt)])), (q1, .inl (ax 2, rl, .inl ro)), (q2, .inl (ax 0, 64, .inl (fun j => nI (dm j)))), (q3, .inl (ax 0, 64, .inl ix)), (n0, .inr (4, [.ref n1, .ref n2, .ref n3, .int (nI z9)])), (n1, .inl (ax 1, cp, .inl fo)), (n2, .inl (ax 0, cp, .inl fl)), (n3, .inl (ax 0, cp, .inl fr)), (b0, .inr (0, [.ref b1, .ref b2, .ref b3, .int (nI bn)])), (b1, .inl (ax 0, 11, .inl lv)), (b2, .inl (ax 0, 121, .inl mo)), (b3, .inl (ax 0, 121, .inl (fun j => nI (bo j))))] sz))) 0 0 (va_A [(p0, .inr (6, [.ref b0, .int s_rows, .int s_atoms, .int s_first, .ref n0, .ref q1, .ref q2, .ref q3, .int (nI wt)])), (q1, .inl (ax 2, rl, .inl ro)), (q2, .inl (ax 0, 64, .inl (fun j => nI (dm j)))), (q3, .inl (ax 0, 64, .inl ix)), (n0, .inr (4, [.ref n1, .ref n2, .ref n3, .int (nI z9)])), (n1, .inl (ax 1, cp, .inl fo)), (n2, .inl (ax 0, cp, .inl fl)), (n3, .inl (ax 0, cp, .inl fr)), (b0, .inr (0, [.ref b1, .ref b2, .ref b3, .int (nI bn)])), (b1, .inl (ax 0, 11, .inl lv)), (b2, .inl (ax 0, 121, .inl mo)), (b3, .inl (ax 0, 121, .inl (fun j => nI (bo j))))] sz) := by
  refine Met.ofW (cc := b_Prover_fits) (maxL := 5) (ret := (some .boolean)) (by decide) rfl ?_
  intro p e s m args below meth c s₁ B hml hv
  obtain ⟨rfl, hsz, hP, hK, hD0⟩ := hv
  have hx := B.exec
  have hb := B.bytes
  have hr := B.returns
  have hts := xw_hts B.pre
  have hown : s.vm.findClass R_Prover = some m.cls := findClass_of_methodNamed B.named
  have hlocks := B.notSynchronized
  subst hsz
  have hD := hD0.self (sz := s.heap.size)
  have hN := xz_entry hP
  generalize hAe : va_A [(p0, .inr (6, [.ref b0, .int s_rows, .int s_atoms, .int s_first, .ref n0, .ref q1, .ref q2, .ref q3, .int (nI wt)])), (q1, .inl (ax 2, rl, .inl ro)), (q2, .inl (ax 0, 64, .inl (fun j => nI (dm j)))), (q3, .inl (ax 0, 64, .inl ix)), (n0, .inr (4, [.ref n1, .ref n2, .ref n3, .int (nI z9)])), (n1, .inl (ax 1, cp, .inl fo)), (n2, .inl (ax 0, cp, .inl fl)), (n3, .inl (ax 0, cp, .inl fr)), (b0, .inr (0, [.ref b1, .ref b2, .ref b3, .int (nI bn)])), (b1, .inl (ax 0, 11, .inl lv)), (b2, .inl (ax 0, 121, .inl mo)), (b3, .inl (ax 0, 121, .inl (fun j => nI (bo j))))] s.heap.size = A at hD hN ⊢
  have hA : ∀ q : Nat, s.heap.size ≤ q → A q := fun q h => by rw [← hAe]; exact Or.inr h
  have hS : va_S A s.heap s.heap [] := va_S.rf
  have hl0 := lv_entry ([.ref p0, .int x1]) (n := 5) (Nat.le_of_ble_eq_true rfl)
  rw [lg_entry_eq]
  generalize (lg_sl ([.ref p0, .int x1]) ++ List.replicate (5 - (lg_sl ([.ref p0, .int x1])).length) Slot.unset).toArray = ls at hl0 ⊢
  have hl1 : lv_has ls 5 [(0, .ref p0), (1, .int x1)] := hl0
  refine xw_gen (fun Z9 hQe => ?_)
  refine lv_aload_n hx hb d_Prover_fits_0 rfl (lv_at hl1 0 rfl) ?_
  refine va_get (D := D) (ci := 6) (v := .ref b0) (C := R_Prover) (T := F_Prover) (N := 9) hx hb hts i_Prover hown hK.1 hP 0 rfl rfl 0 (by decide) (hts _ wd_175) (fun _ h9 => h9) rfl d_Prover_fits_1 ?_
  obtain ⟨hPc, hDc, hFc, hCs⟩ := xw_sub3 (wc := [(b0, .inr (0, [.ref b1, .ref b2, .ref b3, .int (nI bn)])), (b1, .inl (ax 0, 11, .inl lv)), (b2, .inl (ax 0, 121, .inl mo)), (b3, .inl (ax 0, 121, .inl (fun j => nI (bo j))))]) hP hD hS hA [8, 9, 10, 11] (by decide) rfl
  have hz := xz_of hN hS
  refine va_callv (va_runV (As := []) (rest := []) ⟨hx, hb, hml, hown, hts⟩ (c_B_clear l D ax b0 b1 b2 b3 bn lv mo bo s.heap.size (by assumption)) (xcV (n := 0) hts wd_838 wd_7 wd_835 wd_836 wd_837 rfl rfl (by decide +kernel) ⟨Nat.le_of_ble_eq_true rfl, Nat.le_of_ble_eq_true rfl⟩) (xpV (ci := 0) (q0 := 0) (As := []) hPc hK hz hDc rfl rfl) rfl rfl hl1.1 rfl (lv_room (Nat.le_of_ble_eq_true rfl)) d_Prover_fits_4 ⟨Nat.le_of_ble_eq_true rfl, Nat.le_of_ble_eq_true rfl⟩) hS (fun q _ h => hFc q h) hFc (fun u_1 t H_2 locs ht hvm hw hB hz1 hk1 hS1 => ?_)
  try dsimp only at hw
  have hs_4 := hw
  obtain ⟨x_5, x_6, x_7, hx_8, hP1, hD1⟩ := hB
  rw [ht] at hP1
  have hjn := xw_join3 (wl := [(p0, .inr (6, [.ref b0, .int s_rows, .int s_atoms, .int s_first, .ref n0, .ref q1, .ref q2, .ref q3, .int (nI wt)])), (q1, .inl (ax 2, rl, .inl ro)), (q2, .inl (ax 0, 64, .inl (fun j => nI (dm j)))), (q3, .inl (ax 0, 64, .inl ix)), (n0, .inr (4, [.ref n1, .ref n2, .ref n3, .int (nI z9)])), (n1, .inl (ax 1, cp, .inl fo)), (n2, .inl (ax 0, cp, .inl fl)), (n3, .inl (ax 0, cp, .inl fr)), (b0, .inr (0, [.ref b1, .ref b2, .ref b3, .int (nI (u_1 0))])), (b1, .inl (ax 0, 11, .inl x_5)), (b2, .inl (ax 0, 121, .inl x_6)), (b3, .inl (ax 0, 121, .inl (fun j => nI (x_7 j))))]) hP hD [8, 9, 10, 11] [0, 1, 2, 3, 4, 5, 6, 7] hCs (by decide) (by decide) hk1 hFc hP1 hD1 rfl
  clear hP1 hD1
  clear hPc hDc hFc hCs hz hz1 hk1 ht hvm
  clear hP hD hS
  have hS := hS1
  obtain ⟨hP, hD⟩ := hjn
  clear hS1
  refine lv_aload_n hx hb d_Prover_fits_7 rfl (lv_at hl1 0 rfl) ?_
  refine lv_iconst (v := 0) hx hb d_Prover_fits_8 (by decide) ?_
  refine va_put (D := D) (ci := 6) (v := .int 0) (ty := .int) (C := R_Prover) (T := F_Prover) (N := 9) hx hb hts i_Prover t_Prover t_Prover_ok n_Prover hown hK.1 hP hD hS 0 rfl rfl 8 (by decide) (hts _ wd_187) (fun _ h9 => h9) rfl (by decide +kernel) rfl rfl (Nat.le_of_ble_eq_true rfl) d_Prover_fits_9 (fun H_9 locs hP1 hD1 hS1 => ?_)
  clear hP hD hS
  have hS := hS1
  have hW7 : (fun w9 : va_W => va_P D classes w9 H_9 ∧ va_D A w9) [(p0, .inr (6, [.ref b0, .int s_rows, .int s_atoms, .int s_first, .ref n0, .ref q1, .ref q2, .ref q3, .int 0])), (q1, .inl (ax 2, rl, .inl ro)), (q2, .inl (ax 0, 64, .inl (fun j => nI (dm j)))), (q3, .inl (ax 0, 64, .inl ix)), (n0, .inr (4, [.ref n1, .ref n2, .ref n3, .int (nI z9)])), (n1, .inl (ax 1, cp, .inl fo)), (n2, .inl (ax 0, cp, .inl fl)), (n3, .inl (ax 0, cp, .inl fr)), (b0, .inr (0, [.ref b1, .ref b2, .ref b3, .int (nI (u_1 0))])), (b1, .inl (ax 0, 11, .inl x_5)), (b2, .inl (ax 0, 121, .inl x_6)), (b3, .inl (ax 0, 121, .inl (fun j => nI (x_7 j))))] := ⟨hP1, hD1⟩
  obtain ⟨hP, hD⟩ := hW7
  clear hP1 hD1 hS1
  have hd0 : dmo dm 0 (2 * z9) := fun i hi => absurd hi (Nat.not_lt_zero _)
  refine lv_aload_n hx hb d_Prover_fits_12 rfl (lv_at hl1 0 rfl) ?_
  refine lv_iconst (v := 2) hx hb d_Prover_fits_13 (by decide) ?_
  refine lv_aload_n hx hb d_Prover_fits_14 rfl (lv_at hl1 0 rfl) ?_
  refine va_get (D := D) (ci := 6) (v := .ref n0) (C := R_Prover) (T := F_Prover) (N := 9) hx hb hts i_Prover hown hK.1 hP 0 rfl rfl 4 (by decide) (hts _ wd_183) (fun _ h9 => h9) rfl d_Prover_fits_15 ?_
  obtain ⟨hPc, hDc, hFc, hCs⟩ := xw_sub3 (wc := [(n0, .inr (4, [.ref n1, .ref n2, .ref n3, .int (nI z9)])), (n1, .inl (ax 1, cp, .inl fo)), (n2, .inl (ax 0, cp, .inl fl)), (n3, .inl (ax 0, cp, .inl fr))]) hP hD hS hA [4, 5, 6, 7] (by decide) rfl
  have hz := xz_of hN hS
  refine va_calli (va_runV (As := []) (rest := [.int 2, .ref p0]) ⟨hx, hb, hml, hown, hts⟩ (c_Nodes_root l D ax n0 n1 n2 n3 cp z9 fo fl fr H_9.size (by first | assumption | omega)) (xcV (n := 0) hts wd_772 wd_5 wd_826 wd_770 wd_771 rfl rfl (by decide +kernel) ⟨Nat.le_of_ble_eq_true rfl, Nat.le_of_ble_eq_true rfl⟩) (xpV (ci := 4) (q0 := 0) (As := []) hPc hK hz hDc rfl rfl) rfl rfl hl1.1 rfl (lv_room (Nat.le_of_ble_eq_true rfl)) d_Prover_fits_18 ⟨Nat.le_of_ble_eq_true rfl, Nat.le_of_ble_eq_true rfl⟩) hS (fun q _ h => hFc q h) hFc (fun r_12 u_10 t H_11 locs ht hvm hw hB hz1 hk1 hS1 => ?_)
  try dsimp only at hw
  subst hw
  obtain ⟨hP1, hD1⟩ := hB
  rw [ht] at hP1
  have hjn := xw_join3 (wl := [(p0, .inr (6, [.ref b0, .int s_rows, .int s_atoms, .int s_first, .ref n0, .ref q1, .ref q2, .ref q3, .int 0])), (q1, .inl (ax 2, rl, .inl ro)), (q2, .inl (ax 0, 64, .inl (fun j => nI (dm j)))), (q3, .inl (ax 0, 64, .inl ix)), (b0, .inr (0, [.ref b1, .ref b2, .ref b3, .int (nI (u_1 0))])), (b1, .inl (ax 0, 11, .inl x_5)), (b2, .inl (ax 0, 121, .inl x_6)), (b3, .inl (ax 0, 121, .inl (fun j => nI (x_7 j)))), (n0, .inr (4, [.ref n1, .ref n2, .ref n3, .int (nI z9)])), (n1, .inl (ax 1, cp, .inl fo)), (n2, .inl (ax 0, cp, .inl fl)), (n3, .inl (ax 0, cp, .inl fr))]) hP hD [4, 5, 6, 7] [0, 1, 2, 3, 8, 9, 10, 11] hCs (by decide) (by decide) hk1 hFc hP1 hD1 rfl
  clear hP1 hD1
  clear hPc hDc hFc hCs hz hz1 hk1 ht hvm
  clear hP hD hS
  have hS := hS1
  obtain ⟨hP, hD⟩ := hjn
  clear hS1
  refine lv_imul hx hb d_Prover_fits_21 ?_
  refine lv_topi (fun z_13 ez_13 => ?_)
  have ez_13 : z_13 = nI (2 * (z9 - 1)) := ez_13.trans (pk_mul 2 (z9 - 1))
  subst ez_13
  refine lv_iload_n hx hb d_Prover_fits_22 rfl (lv_at hl1 1 rfl) ?_
  obtain ⟨hPc, hDc, hFc, hCs⟩ := xw_sub3 (wc := [(p0, .inr (6, [.ref b0, .int s_rows, .int s_atoms, .int s_first, .ref n0, .ref q1, .ref q2, .ref q3, .int (nI 0)])), (q1, .inl (ax 2, rl, .inl ro)), (q2, .inl (ax 0, 64, .inl (fun j => nI (dm j)))), (q3, .inl (ax 0, 64, .inl ix))]) hP hD hS hA [0, 1, 2, 3] (by decide) rfl
  have hz := xz_of hN hS
  refine va_callv (va_runV (As := [.int (nI (2 * (z9 - 1))), .int x1]) (rest := []) ⟨hx, hb, hml, hown, hts⟩ (c_P_ask l D ax p0 q1 q2 q3 0 rl b0 s_rows s_atoms s_first ro ix dm n0 (2 * (z9 - 1)) (2 * z9) x1 H_11.size (by first | assumption | omega) (by first | assumption | omega) hd0) (xcV (n := 2) hts wd_842 wd_6 wd_839 wd_841 ps_34 rfl rfl (by decide +kernel) ⟨Nat.le_of_ble_eq_true rfl, Nat.le_of_ble_eq_true rfl⟩) (xpV (ci := 6) (q0 := 0) (As := [.int (nI (2 * (z9 - 1))), .int x1]) hPc hK hz hDc rfl rfl) rfl rfl hl1.1 rfl (lv_room (Nat.le_of_ble_eq_true rfl)) d_Prover_fits_23 ⟨Nat.le_of_ble_eq_true rfl, Nat.le_of_ble_eq_true rfl⟩) hS (fun q _ h => hFc q h) hFc (fun u_14 t H_15 locs ht hvm hw hB hz1 hk1 hS1 => ?_)
  try dsimp only at hw
  obtain ⟨hs_17, hs_18⟩ := hw
  obtain ⟨x_19, x_20, hx_21, hP1, hD1⟩ := hB
  rw [ht] at hP1
  have hjn := xw_join3 (wl := [(b0, .inr (0, [.ref b1, .ref b2, .ref b3, .int (nI (u_1 0))])), (b1, .inl (ax 0, 11, .inl x_5)), (b2, .inl (ax 0, 121, .inl x_6)), (b3, .inl (ax 0, 121, .inl (fun j => nI (x_7 j)))), (n0, .inr (4, [.ref n1, .ref n2, .ref n3, .int (nI z9)])), (n1, .inl (ax 1, cp, .inl fo)), (n2, .inl (ax 0, cp, .inl fl)), (n3, .inl (ax 0, cp, .inl fr)), (p0, .inr (6, [.ref b0, .int s_rows, .int s_atoms, .int s_first, .ref n0, .ref q1, .ref q2, .ref q3, .int (nI (u_14 0))])), (q1, .inl (ax 2, rl, .inl ro)), (q2, .inl (ax 0, 64, .inl (fun j => nI (x_19 j)))), (q3, .inl (ax 0, 64, .inl x_20))]) hP hD [0, 1, 2, 3] [4, 5, 6, 7, 8, 9, 10, 11] hCs (by decide) (by decide) hk1 hFc hP1 hD1 rfl
  clear hP1 hD1
  clear hPc hDc hFc hCs hz hz1 hk1 ht hvm
  clear hP hD hS
  have hS := hS1
  obtain ⟨hP, hD⟩ := hjn
  clear hS1
  refine lv_iconst (v := 1) hx hb d_Prover_fits_26 (by decide) ?_
  refine lv_istore_n (lv' := [(2, .int 1), (0, .ref p0), (1, .int x1)]) hx hb d_Prover_fits_27 rfl hl1 (by decide) rfl (fun ls hl2 => ?_)
  clear hl1; have hl1 := hl2; clear hl2
  refine lv_iconst (v := 0) hx hb d_Prover_fits_28 (by decide) ?_
  refine lv_istore_n (lv' := [(3, .int 0), (2, .int 1), (0, .ref p0), (1, .int x1)]) hx hb d_Prover_fits_29 rfl hl1 (by decide) rfl (fun ls hl2 => ?_)
  clear hl1; have hl1 := hl2; clear hl2
  suffices key_22 : ∀ (k : Nat) (fi1 t1 wt1 bn1 : Nat) (dm1 bo1 : Nat → Nat) (ix1 lv1 mo1 : Nat → Int32), z9 - t1 < k → fi1 ≤ 1 → t1 ≤ z9 → wt1 ≤ 64 → dmo dm1 wt1 (2 * z9) → bnv mo1 bo1 bn1 → ∀ (H : Heap) (locs : List Loc) (ls : Array Slot), va_P D classes [(p0, .inr (6, [.ref b0, .int s_rows, .int s_atoms, .int s_first, .ref n0, .ref q1, .ref q2, .ref q3, .int (nI wt1)])), (q1, .inl (ax 2, rl, .inl ro)), (q2, .inl (ax 0, 64, .inl (fun j => nI (dm1 j)))), (q3, .inl (ax 0, 64, .inl ix1)), (n0, .inr (4, [.ref n1, .ref n2, .ref n3, .int (nI z9)])), (n1, .inl (ax 1, cp, .inl fo)), (n2, .inl (ax 0, cp, .inl fl)), (n3, .inl (ax 0, cp, .inl fr)), (b0, .inr (0, [.ref b1, .ref b2, .ref b3, .int (nI bn1)])), (b1, .inl (ax 0, 11, .inl lv1)), (b2, .inl (ax 0, 121, .inl mo1)), (b3, .inl (ax 0, 121, .inl (fun j => nI (bo1 j))))] H → va_D A [(p0, .inr (6, [.ref b0, .int s_rows, .int s_atoms, .int s_first, .ref n0, .ref q1, .ref q2, .ref q3, .int (nI wt1)])), (q1, .inl (ax 2, rl, .inl ro)), (q2, .inl (ax 0, 64, .inl (fun j => nI (dm1 j)))), (q3, .inl (ax 0, 64, .inl ix1)), (n0, .inr (4, [.ref n1, .ref n2, .ref n3, .int (nI z9)])), (n1, .inl (ax 1, cp, .inl fo)), (n2, .inl (ax 0, cp, .inl fl)), (n3, .inl (ax 0, cp, .inl fr)), (b0, .inr (0, [.ref b1, .ref b2, .ref b3, .int (nI bn1)])), (b1, .inl (ax 0, 11, .inl lv1)), (b2, .inl (ax 0, 121, .inl mo1)), (b3, .inl (ax 0, 121, .inl (fun j => nI (bo1 j))))] → va_S A s.heap H locs → lv_has ls 5 [(0, .ref p0), (2, .int (nI fi1)), (3, .int (nI t1))] → W p l e (headSpec (xws (.code y_Prover_fits b_Prover_fits 5 (some .boolean))) ({ frames := 60, cells := 0, slots := 0, locals := 2400 })).room s m ([.ref p0, .int x1] : List Value).toArray below meth c H locs 0 0 Z9 (F0 m 30 ls []) from key_22 (z9 - 0 + 1) 1 0 (u_14 0) (u_1 0) x_19 x_7 x_20 x_5 x_6 (Nat.lt_succ_self _) (by first | assumption | omega) (by first | assumption | omega) (by first | assumption | omega) hx_21 hx_8 _ _ _ (hP.sub [8, 9, 10, 11, 4, 5, 6, 7, 0, 1, 2, 3] rfl) (hD.sub [8, 9, 10, 11, 4, 5, 6, 7, 0, 1, 2, 3] (by decide) rfl) hS (lv_sub hl1 [2, 1, 0] rfl)
  intro k_23
  induction k_23 with
  | zero =>
    intro fi1 t1 wt1 bn1 dm1 bo1 ix1 lv1 mo1 hk_25
    exact absurd hk_25 (Nat.not_lt_zero _)
  | succ k_23 ih_24 =>
    clear hP hD hS hl1
    intro fi1 t1 wt1 bn1 dm1 bo1 ix1 lv1 mo1 hk_25 hf1 ht1 hw1 hd1 hb1 H locs ls hP hD hS hl1
    refine lv_iload_n hx hb d_Prover_fits_30 rfl (lv_at hl1 1 rfl) ?_
    refine lv_if_eq (tgt := 161) hx hb d_Prover_fits_31 (by decide) (fun c_26 => ?_) (fun c_26 => ?_)
    · replace c_26 : fi1 = 0 := (nI_eq (a := fi1) (b := 0) (by first | exact Nat.lt_of_lt_of_le (by assumption) (by decide) | exact Nat.lt_of_le_of_lt (by assumption) (by decide) | omega) (by decide)).mp c_26
      refine lv_iload_n hx hb d_Prover_fits_161 rfl (lv_at hl1 1 rfl) ?_
      rw [← hQe]
      obtain ⟨hP9, hD9⟩ := xw_sub2 (wc := (fun (u : Nat → Nat) (xdm : Nat → Nat) (xix : Nat → Int32) (xlv : Nat → Int32) (xmo : Nat → Int32) (xbo : Nat → Nat) => [(p0, .inr (6, [.ref b0, .int s_rows, .int s_atoms, .int s_first, .ref n0, .ref q1, .ref q2, .ref q3, .int (nI (u 0))])), (q1, .inl (ax 2, rl, .inl ro)), (q2, .inl (ax 0, 64, .inl (fun j => nI (xdm j)))), (q3, .inl (ax 0, 64, .inl xix)), (n0, .inr (4, [.ref n1, .ref n2, .ref n3, .int (nI z9)])), (n1, .inl (ax 1, cp, .inl fo)), (n2, .inl (ax 0, cp, .inl fl)), (n3, .inl (ax 0, cp, .inl fr)), (b0, .inr (0, [.ref b1, .ref b2, .ref b3, .int (nI (u 1))])), (b1, .inl (ax 0, 11, .inl xlv)), (b2, .inl (ax 0, 121, .inl xmo)), (b3, .inl (ax 0, 121, .inl (fun j => nI (xbo j))))]) (ixn [wt1, bn1, fi1]) dm1 ix1 lv1 mo1 bo1) hP hD [0, 1, 2, 3, 4, 5, 6, 7, 8, 9, 10, 11] (by decide) rfl
      have hex0 : dmo dm1 (wt1) (2 * z9) := (by assumption)
      have hex1 : bnv mo1 bo1 (bn1) := (by assumption)
      have hsp0 : wt1 ≤ 64 := (by first | assumption | omega)
      have hsp1 : fi1 ≤ 1 := (by first | assumption | omega)
      exact W.zret (v := nI fi1) hx hb hr (nI_bool (by first | assumption | omega)) (fun t ht hW => ⟨⟨nI fi1, ixn [wt1, bn1, fi1], rfl, ⟨rfl, ⟨hsp0, hsp1⟩⟩, ⟨dm1, ix1, lv1, mo1, bo1, hex0, hex1, by rw [ht]; exact hP9, hD9⟩⟩, hS.F ht⟩) hS.2.2 d_Prover_fits_162
    · replace c_26 : ¬ fi1 = 0 := fun hq9 => c_26 ((nI_eq (a := fi1) (b := 0) (by first | exact Nat.lt_of_lt_of_le (by assumption) (by decide) | exact Nat.lt_of_le_of_lt (by assumption) (by decide) | omega) (by decide)).mpr hq9)
      refine lv_aload_n hx hb d_Prover_fits_34 rfl (lv_at hl1 0 rfl) ?_
      refine va_get (D := D) (ci := 6) (v := .int (nI wt1)) (C := R_Prover) (T := F_Prover) (N := 9) hx hb hts i_Prover hown hK.1 hP 0 rfl rfl 8 (by decide) (hts _ wd_187) (fun _ h9 => h9) rfl d_Prover_fits_35 ?_
      refine lv_if_le (tgt := 161) hx hb d_Prover_fits_38 (by decide) (fun c_27 => ?_) (fun c_27 => ?_)
      · replace c_27 : wt1 ≤ 0 := (nI_leI (a := wt1) (b := 0) (by first | exact Nat.lt_of_lt_of_le (by assumption) (by decide) | exact Nat.lt_of_le_of_lt (by assumption) (by decide) | omega) (by decide)).mp c_27
        refine lv_iload_n hx hb d_Prover_fits_161 rfl (lv_at hl1 1 rfl) ?_
        rw [← hQe]
        obtain ⟨hP9, hD9⟩ := xw_sub2 (wc := (fun (u : Nat → Nat) (xdm : Nat → Nat) (xix : Nat → Int32) (xlv : Nat → Int32) (xmo : Nat → Int32) (xbo : Nat → Nat) => [(p0, .inr (6, [.ref b0, .int s_rows, .int s_atoms, .int s_first, .ref n0, .ref q1, .ref q2, .ref q3, .int (nI (u 0))])), (q1, .inl (ax 2, rl, .inl ro)), (q2, .inl (ax 0, 64, .inl (fun j => nI (xdm j)))), (q3, .inl (ax 0, 64, .inl xix)), (n0, .inr (4, [.ref n1, .ref n2, .ref n3, .int (nI z9)])), (n1, .inl (ax 1, cp, .inl fo)), (n2, .inl (ax 0, cp, .inl fl)), (n3, .inl (ax 0, cp, .inl fr)), (b0, .inr (0, [.ref b1, .ref b2, .ref b3, .int (nI (u 1))])), (b1, .inl (ax 0, 11, .inl xlv)), (b2, .inl (ax 0, 121, .inl xmo)), (b3, .inl (ax 0, 121, .inl (fun j => nI (xbo j))))]) (ixn [wt1, bn1, fi1]) dm1 ix1 lv1 mo1 bo1) hP hD [0, 1, 2, 3, 4, 5, 6, 7, 8, 9, 10, 11] (by decide) rfl
        have hex0 : dmo dm1 (wt1) (2 * z9) := (by assumption)
        have hex1 : bnv mo1 bo1 (bn1) := (by assumption)
        have hsp0 : wt1 ≤ 64 := (by first | assumption | omega)
        have hsp1 : fi1 ≤ 1 := (by first | assumption | omega)
        exact W.zret (v := nI fi1) hx hb hr (nI_bool (by first | assumption | omega)) (fun t ht hW => ⟨⟨nI fi1, ixn [wt1, bn1, fi1], rfl, ⟨rfl, ⟨hsp0, hsp1⟩⟩, ⟨dm1, ix1, lv1, mo1, bo1, hex0, hex1, by rw [ht]; exact hP9, hD9⟩⟩, hS.F ht⟩) hS.2.2 d_Prover_fits_162
      · replace c_27 : ¬ wt1 ≤ 0 := fun hq9 => c_27 ((nI_leI (a := wt1) (b := 0) (by first | exact Nat.lt_of_lt_of_le (by assumption) (by decide) | exact Nat.lt_of_le_of_lt (by assumption) (by decide) | omega) (by decide)).mpr hq9)
        refine lv_iload_n hx hb d_Prover_fits_41 rfl (lv_at hl1 2 rfl) ?_
        refine lv_aload_n hx hb d_Prover_fits_42 rfl (lv_at hl1 0 rfl) ?_
        refine va_get (D := D) (ci := 6) (v := .ref n0) (C := R_Prover) (T := F_Prover) (N := 9) hx hb hts i_Prover hown hK.1 hP 0 rfl rfl 4 (by decide) (hts _ wd_183) (fun _ h9 => h9) rfl d_Prover_fits_43 ?_
        refine va_get (D := D) (ci := 4) (v := .int (nI z9)) (C := R_Nodes) (T := F_Nodes) (N := 4) hx hb hts i_Nodes hown hK.1 hP 4 rfl rfl 3 (by decide) (hts _ wd_119) (fun _ h9 => h9) rfl d_Prover_fits_46 ?_
        refine lv_icmp_ge (tgt := 161) hx hb d_Prover_fits_49 (by decide) (fun c_28 => ?_) (fun c_28 => ?_)
        · replace c_28 : z9 ≤ t1 := (nI_leI (a := z9) (b := t1) (by first | exact Nat.lt_of_lt_of_le (by assumption) (by decide) | exact Nat.lt_of_le_of_lt (by assumption) (by decide) | omega) (by first | exact Nat.lt_of_lt_of_le (by assumption) (by decide) | exact Nat.lt_of_le_of_lt (by assumption) (by decide) | omega)).mp c_28
          refine lv_iload_n hx hb d_Prover_fits_161 rfl (lv_at hl1 1 rfl) ?_
          rw [← hQe]
          obtain ⟨hP9, hD9⟩ := xw_sub2 (wc := (fun (u : Nat → Nat) (xdm : Nat → Nat) (xix : Nat → Int32) (xlv : Nat → Int32) (xmo : Nat → Int32) (xbo : Nat → Nat) => [(p0, .inr (6, [.ref b0, .int s_rows, .int s_atoms, .int s_first, .ref n0, .ref q1, .ref q2, .ref q3, .int (nI (u 0))])), (q1, .inl (ax 2, rl, .inl ro)), (q2, .inl (ax 0, 64, .inl (fun j => nI (xdm j)))), (q3, .inl (ax 0, 64, .inl xix)), (n0, .inr (4, [.ref n1, .ref n2, .ref n3, .int (nI z9)])), (n1, .inl (ax 1, cp, .inl fo)), (n2, .inl (ax 0, cp, .inl fl)), (n3, .inl (ax 0, cp, .inl fr)), (b0, .inr (0, [.ref b1, .ref b2, .ref b3, .int (nI (u 1))])), (b1, .inl (ax 0, 11, .inl xlv)), (b2, .inl (ax 0, 121, .inl xmo)), (b3, .inl (ax 0, 121, .inl (fun j => nI (xbo j))))]) (ixn [wt1, bn1, fi1]) dm1 ix1 lv1 mo1 bo1) hP hD [0, 1, 2, 3, 4, 5, 6, 7, 8, 9, 10, 11] (by decide) rfl
          have hex0 : dmo dm1 (wt1) (2 * z9) := (by assumption)
          have hex1 : bnv mo1 bo1 (bn1) := (by assumption)
          have hsp0 : wt1 ≤ 64 := (by first | assumption | omega)
          have hsp1 : fi1 ≤ 1 := (by first | assumption | omega)
          exact W.zret (v := nI fi1) hx hb hr (nI_bool (by first | assumption | omega)) (fun t ht hW => ⟨⟨nI fi1, ixn [wt1, bn1, fi1], rfl, ⟨rfl, ⟨hsp0, hsp1⟩⟩, ⟨dm1, ix1, lv1, mo1, bo1, hex0, hex1, by rw [ht]; exact hP9, hD9⟩⟩, hS.F ht⟩) hS.2.2 d_Prover_fits_162
        · replace c_28 : ¬ z9 ≤ t1 := fun hq9 => c_28 ((nI_leI (a := z9) (b := t1) (by first | exact Nat.lt_of_lt_of_le (by assumption) (by decide) | exact Nat.lt_of_le_of_lt (by assumption) (by decide) | omega) (by first | exact Nat.lt_of_lt_of_le (by assumption) (by decide) | exact Nat.lt_of_le_of_lt (by assumption) (by decide) | omega)).mpr hq9)
          refine lv_aload_n hx hb d_Prover_fits_52 rfl (lv_at hl1 0 rfl) ?_
          refine lv_dup hx hb d_Prover_fits_53 rfl ?_
          refine va_get (D := D) (ci := 6) (v := .int (nI wt1)) (C := R_Prover) (T := F_Prover) (N := 9) hx hb hts i_Prover hown hK.1 hP 0 rfl rfl 8 (by decide) (hts _ wd_187) (fun _ h9 => h9) rfl d_Prover_fits_54 ?_
          refine lv_iconst (v := 1) hx hb d_Prover_fits_57 (by decide) ?_
          refine lv_isub hx hb d_Prover_fits_58 ?_
          refine lv_topi (fun z_29 ez_29 => ?_)
          have ez_29 : z_29 = nI (wt1 - 1) := ez_29.trans (pk_sub (a := wt1) (b := 1) (by first | assumption | omega))
          subst ez_29
          refine va_put (D := D) (ci := 6) (v := .int (nI (wt1 - 1))) (ty := .int) (C := R_Prover) (T := F_Prover) (N := 9) hx hb hts i_Prover t_Prover t_Prover_ok n_Prover hown hK.1 hP hD hS 0 rfl rfl 8 (by decide) (hts _ wd_187) (fun _ h9 => h9) rfl (by decide +kernel) rfl rfl (Nat.le_of_ble_eq_true rfl) d_Prover_fits_59 (fun H_30 locs hP1 hD1 hS1 => ?_)
          clear hP hD hS
          have hS := hS1
          have hW7 : (fun w9 : va_W => va_P D classes w9 H_30 ∧ va_D A w9) [(p0, .inr (6, [.ref b0, .int s_rows, .int s_atoms, .int s_first, .ref n0, .ref q1, .ref q2, .ref q3, .int (nI (wt1 - 1))])), (q1, .inl (ax 2, rl, .inl ro)), (q2, .inl (ax 0, 64, .inl (fun j => nI (dm1 j)))), (q3, .inl (ax 0, 64, .inl ix1)), (n0, .inr (4, [.ref n1, .ref n2, .ref n3, .int (nI z9)])), (n1, .inl (ax 1, cp, .inl fo)), (n2, .inl (ax 0, cp, .inl fl)), (n3, .inl (ax 0, cp, .inl fr)), (b0, .inr (0, [.ref b1, .ref b2, .ref b3, .int (nI bn1)])), (b1, .inl (ax 0, 11, .inl lv1)), (b2, .inl (ax 0, 121, .inl mo1)), (b3, .inl (ax 0, 121, .inl (fun j => nI (bo1 j))))] := ⟨hP1, hD1⟩
          obtain ⟨hP, hD⟩ := hW7
          clear hP1 hD1 hS1
          have hd9 := hd1 (wt1 - 1) (by first | assumption | omega)
          obtain ⟨o9, ho1, ho2, hnp⟩ := nd_p (hnv (dm1 (wt1 - 1) / 2) (by first | assumption | omega))
          refine lv_aload_n hx hb d_Prover_fits_62 rfl (lv_at hl1 0 rfl) ?_
          refine va_get (D := D) (ci := 6) (v := .ref q2) (C := R_Prover) (T := F_Prover) (N := 9) hx hb hts i_Prover hown hK.1 hP 0 rfl rfl 6 (by decide) (hts _ wd_185) (fun _ h9 => h9) rfl d_Prover_fits_63 ?_
          refine lv_aload_n hx hb d_Prover_fits_66 rfl (lv_at hl1 0 rfl) ?_
          refine va_get (D := D) (ci := 6) (v := .int (nI (wt1 - 1))) (C := R_Prover) (T := F_Prover) (N := 9) hx hb hts i_Prover hown hK.1 hP 0 rfl rfl 8 (by decide) (hts _ wd_187) (fun _ h9 => h9) rfl d_Prover_fits_67 ?_
          refine va_iald hx hb hK.1 hP 2 0 rfl rfl (vp_in_nI (by first | assumption | omega) (by decide)) d_Prover_fits_70 ?_
          refine W.eq (g2 := F0 m 71 ls [.int (nI (dm1 (wt1 - 1)))]) (by rw [nI_clamp (by first | exact Nat.lt_of_lt_of_le (by assumption) (by decide) | exact Nat.lt_of_le_of_lt (by assumption) (by decide) | omega)]) ?_
          refine lv_iconst (v := 1) hx hb d_Prover_fits_71 (by decide) ?_
          refine lv_ishr hx hb d_Prover_fits_72 ?_
          refine lv_topi (fun z_31 ez_31 => ?_)
          have ez_31 : z_31 = nI ((dm1 (wt1 - 1)) / 2) := ez_31.trans (nb_shr (k := 1) (a := dm1 (wt1 - 1)) (by decide) (by first | assumption | omega))
          subst ez_31
          refine lv_istore (lv' := [(4, .int (nI ((dm1 (wt1 - 1)) / 2))), (0, .ref p0), (2, .int (nI fi1)), (3, .int (nI t1))]) hx hb d_Prover_fits_73 hl1 (by decide) rfl (fun ls hl2 => ?_)
          clear hl1; have hl1 := hl2; clear hl2
          refine lv_aload_n hx hb d_Prover_fits_75 rfl (lv_at hl1 1 rfl) ?_
          refine va_get (D := D) (ci := 6) (v := .ref n0) (C := R_Prover) (T := F_Prover) (N := 9) hx hb hts i_Prover hown hK.1 hP 0 rfl rfl 4 (by decide) (hts _ wd_183) (fun _ h9 => h9) rfl d_Prover_fits_76 ?_
          refine va_get (D := D) (ci := 4) (v := .ref n1) (C := R_Nodes) (T := F_Nodes) (N := 4) hx hb hts i_Nodes hown hK.1 hP 4 rfl rfl 0 (by decide) (hts _ wd_104) (fun _ h9 => h9) rfl d_Prover_fits_79 ?_
          refine lv_iload hx hb d_Prover_fits_82 (lv_at hl1 0 rfl) ?_
          refine va_bald hx hb hK.1 hP 5 1 rfl rfl (vp_in_nI (by first | assumption | omega) (by first | exact Nat.lt_of_lt_of_le (by assumption) (by decide) | exact Nat.lt_of_le_of_lt (by assumption) (by decide) | omega)) d_Prover_fits_84 ?_
          refine W.eq (g2 := F0 m 85 ls [.int (fo ((dm1 (wt1 - 1)) / 2))]) (by rw [nI_clamp (by first | exact Nat.lt_of_lt_of_le (by assumption) (by decide) | exact Nat.lt_of_le_of_lt (by assumption) (by decide) | omega)]) ?_
          refine W.eq (g2 := F0 m 85 ls [.int (nI o9)]) (by rw [ho2]) ?_
          refine lv_bipush (v := 6) hx hb d_Prover_fits_85 (by decide) ?_
          refine lv_icmp_ge (tgt := 129) hx hb d_Prover_fits_87 (by decide) (fun c_32 => ?_) (fun c_32 => ?_)
          · replace c_32 : 6 ≤ o9 := (nI_leI (a := 6) (b := o9) (by decide) (by first | exact Nat.lt_of_lt_of_le (by assumption) (by decide) | exact Nat.lt_of_le_of_lt (by assumption) (by decide) | omega)).mp c_32
            have h6 : ¬ fo (dm1 (wt1 - 1) / 2) < 6 := by rw [ho2]; exact nI_nlt (b := 6) (by first | assumption | omega) (by first | assumption | omega)
            refine lv_aload_n hx hb d_Prover_fits_129 rfl (lv_at hl1 1 rfl) ?_
            refine lv_iload hx hb d_Prover_fits_130 (lv_at hl1 0 rfl) ?_
            refine lv_aload_n hx hb d_Prover_fits_132 rfl (lv_at hl1 1 rfl) ?_
            refine va_get (D := D) (ci := 6) (v := .ref q2) (C := R_Prover) (T := F_Prover) (N := 9) hx hb hts i_Prover hown hK.1 hP 0 rfl rfl 6 (by decide) (hts _ wd_185) (fun _ h9 => h9) rfl d_Prover_fits_133 ?_
            refine lv_aload_n hx hb d_Prover_fits_136 rfl (lv_at hl1 1 rfl) ?_
            refine va_get (D := D) (ci := 6) (v := .int (nI (wt1 - 1))) (C := R_Prover) (T := F_Prover) (N := 9) hx hb hts i_Prover hown hK.1 hP 0 rfl rfl 8 (by decide) (hts _ wd_187) (fun _ h9 => h9) rfl d_Prover_fits_137 ?_
            refine va_iald hx hb hK.1 hP 2 0 rfl rfl (vp_in_nI (by first | assumption | omega) (by decide)) d_Prover_fits_140 ?_
            refine W.eq (g2 := F0 m 141 ls [.int (nI (dm1 (wt1 - 1))), .int (nI ((dm1 (wt1 - 1)) / 2)), .ref p0]) (by rw [nI_clamp (by first | exact Nat.lt_of_lt_of_le (by assumption) (by decide) | exact Nat.lt_of_le_of_lt (by assumption) (by decide) | omega)]) ?_
            refine lv_iconst (v := 1) hx hb d_Prover_fits_141 (by decide) ?_
            refine lv_iand hx hb d_Prover_fits_142 ?_
            refine lv_topi (fun z_33 ez_33 => ?_)
            have ez_33 : z_33 = nI ((dm1 (wt1 - 1)) % 2) := ez_33.trans (nb_and 1 (dm1 (wt1 - 1)))
            subst ez_33
            refine lv_aload_n hx hb d_Prover_fits_143 rfl (lv_at hl1 1 rfl) ?_
            refine va_get (D := D) (ci := 6) (v := .ref q3) (C := R_Prover) (T := F_Prover) (N := 9) hx hb hts i_Prover hown hK.1 hP 0 rfl rfl 7 (by decide) (hts _ wd_186) (fun _ h9 => h9) rfl d_Prover_fits_144 ?_
            refine lv_aload_n hx hb d_Prover_fits_147 rfl (lv_at hl1 1 rfl) ?_
            refine va_get (D := D) (ci := 6) (v := .int (nI (wt1 - 1))) (C := R_Prover) (T := F_Prover) (N := 9) hx hb hts i_Prover hown hK.1 hP 0 rfl rfl 8 (by decide) (hts _ wd_187) (fun _ h9 => h9) rfl d_Prover_fits_148 ?_
            refine va_iald hx hb hK.1 hP 3 0 rfl rfl (vp_in_nI (by first | assumption | omega) (by decide)) d_Prover_fits_151 ?_
            refine W.eq (g2 := F0 m 152 ls [.int (ix1 (wt1 - 1)), .int (nI ((dm1 (wt1 - 1)) % 2)), .int (nI ((dm1 (wt1 - 1)) / 2)), .ref p0]) (by rw [nI_clamp (by first | exact Nat.lt_of_lt_of_le (by assumption) (by decide) | exact Nat.lt_of_le_of_lt (by assumption) (by decide) | omega)]) ?_
            obtain ⟨hPc, hDc, hFc, hCs⟩ := xw_sub3 (wc := [(p0, .inr (6, [.ref b0, .int s_rows, .int s_atoms, .int s_first, .ref n0, .ref q1, .ref q2, .ref q3, .int (nI (wt1 - 1))])), (q1, .inl (ax 2, rl, .inl ro)), (q2, .inl (ax 0, 64, .inl (fun j => nI (dm1 j)))), (q3, .inl (ax 0, 64, .inl ix1)), (n0, .inr (4, [.ref n1, .ref n2, .ref n3, .int (nI z9)])), (n1, .inl (ax 1, cp, .inl fo)), (n2, .inl (ax 0, cp, .inl fl)), (n3, .inl (ax 0, cp, .inl fr))]) hP hD hS hA [0, 1, 2, 3, 4, 5, 6, 7] (by decide) rfl
            have hz := xz_of hN hS
            refine va_callv (va_runV (As := [.int (nI ((dm1 (wt1 - 1)) / 2)), .int (nI ((dm1 (wt1 - 1)) % 2)), .int (ix1 (wt1 - 1))]) (rest := []) ⟨hx, hb, hml, hown, hts⟩ (c_P_divide l D ax p0 q1 q2 q3 (wt1 - 1) rl b0 s_rows s_atoms s_first ro ix1 dm1 n0 n1 n2 n3 cp z9 fo fl fr ((dm1 (wt1 - 1)) / 2) ((dm1 (wt1 - 1)) % 2) (ix1 (wt1 - 1)) H_30.size (by first | assumption | omega) (by first | assumption | omega) (by first | assumption | omega) (hd1.dn (by first | assumption | omega)) h6 hz9 hcp hrl hrl2 hnv) (xcV (n := 3) hts wd_866 wd_6 wd_863 wd_865 ps_39 rfl rfl (by decide +kernel) ⟨Nat.le_of_ble_eq_true rfl, Nat.le_of_ble_eq_true rfl⟩) (xpV (ci := 6) (q0 := 0) (As := [.int (nI ((dm1 (wt1 - 1)) / 2)), .int (nI ((dm1 (wt1 - 1)) % 2)), .int (ix1 (wt1 - 1))]) hPc hK hz hDc rfl rfl) rfl rfl hl1.1 rfl (lv_room (Nat.le_of_ble_eq_true rfl)) d_Prover_fits_152 ⟨Nat.le_of_ble_eq_true rfl, Nat.le_of_ble_eq_true rfl⟩) hS (fun q _ h => hFc q h) hFc (fun u_34 t H_35 locs ht hvm hw hB hz1 hk1 hS1 => ?_)
            try dsimp only at hw
            obtain ⟨hs_37, hs_38⟩ := hw
            obtain ⟨x_39, x_40, hx_41, hP1, hD1⟩ := hB
            rw [ht] at hP1
            have hjn := xw_join3 (wl := [(b0, .inr (0, [.ref b1, .ref b2, .ref b3, .int (nI bn1)])), (b1, .inl (ax 0, 11, .inl lv1)), (b2, .inl (ax 0, 121, .inl mo1)), (b3, .inl (ax 0, 121, .inl (fun j => nI (bo1 j)))), (p0, .inr (6, [.ref b0, .int s_rows, .int s_atoms, .int s_first, .ref n0, .ref q1, .ref q2, .ref q3, .int (nI (u_34 0))])), (q1, .inl (ax 2, rl, .inl ro)), (q2, .inl (ax 0, 64, .inl (fun j => nI (x_39 j)))), (q3, .inl (ax 0, 64, .inl x_40)), (n0, .inr (4, [.ref n1, .ref n2, .ref n3, .int (nI z9)])), (n1, .inl (ax 1, cp, .inl fo)), (n2, .inl (ax 0, cp, .inl fl)), (n3, .inl (ax 0, cp, .inl fr))]) hP hD [0, 1, 2, 3, 4, 5, 6, 7] [8, 9, 10, 11] hCs (by decide) (by decide) hk1 hFc hP1 hD1 rfl
            clear hP1 hD1
            clear hPc hDc hFc hCs hz hz1 hk1 ht hvm
            clear hP hD hS
            have hS := hS1
            obtain ⟨hP, hD⟩ := hjn
            clear hS1
            refine lv_iinc (v := nI (t1 + 1)) (lv' := [(3, .int (nI (t1 + 1))), (4, .int (nI ((dm1 (wt1 - 1)) / 2))), (0, .ref p0), (2, .int (nI fi1))]) hx hb d_Prover_fits_155 hl1 (k := 3) rfl (nI_add t1 1) (by decide) rfl (fun ls hl2 => ?_)
            clear hl1; have hl1 := hl2; clear hl2
            refine lv_goto (tgt := 30) hx hb d_Prover_fits_158 (by decide) ?_
            exact ih_24 fi1 (t1 + 1) (u_34 0) bn1 x_39 bo1 x_40 lv1 mo1 (by first | assumption | omega) (by first | assumption | omega) (by first | assumption | omega) (by first | assumption | omega) (by first | assumption | exact hd1.dn (by first | assumption | omega)) (by assumption) _ _ _ (hP.sub [4, 5, 6, 7, 8, 9, 10, 11, 0, 1, 2, 3] rfl) (hD.sub [4, 5, 6, 7, 8, 9, 10, 11, 0, 1, 2, 3] (by decide) rfl) hS (lv_sub hl1 [2, 3, 0] rfl)
          · replace c_32 : ¬ 6 ≤ o9 := fun hq9 => c_32 ((nI_leI (a := 6) (b := o9) (by decide) (by first | exact Nat.lt_of_lt_of_le (by assumption) (by decide) | exact Nat.lt_of_le_of_lt (by assumption) (by decide) | omega)).mpr hq9)
            obtain ⟨htr1, htr2⟩ := hnp.1 (by first | assumption | omega)
            refine lv_aload_n hx hb d_Prover_fits_90 rfl (lv_at hl1 1 rfl) ?_
            refine va_get (D := D) (ci := 6) (v := .ref b0) (C := R_Prover) (T := F_Prover) (N := 9) hx hb hts i_Prover hown hK.1 hP 0 rfl rfl 0 (by decide) (hts _ wd_175) (fun _ h9 => h9) rfl d_Prover_fits_91 ?_
            refine lv_aload_n hx hb d_Prover_fits_94 rfl (lv_at hl1 1 rfl) ?_
            refine lv_aload_n hx hb d_Prover_fits_95 rfl (lv_at hl1 1 rfl) ?_
            refine va_get (D := D) (ci := 6) (v := .int (nI (wt1 - 1))) (C := R_Prover) (T := F_Prover) (N := 9) hx hb hts i_Prover hown hK.1 hP 0 rfl rfl 8 (by decide) (hts _ wd_187) (fun _ h9 => h9) rfl d_Prover_fits_96 ?_
            obtain ⟨hPc, hDc, hFc, hCs⟩ := xw_sub3 (wc := [(p0, .inr (6, [.ref b0, .int s_rows, .int s_atoms, .int s_first, .ref n0, .ref q1, .ref q2, .ref q3, .int (nI (wt1 - 1))])), (q1, .inl (ax 2, rl, .inl ro)), (q2, .inl (ax 0, 64, .inl (fun j => nI (dm1 j)))), (q3, .inl (ax 0, 64, .inl ix1)), (n0, .inr (4, [.ref n1, .ref n2, .ref n3, .int (nI z9)])), (n1, .inl (ax 1, cp, .inl fo)), (n2, .inl (ax 0, cp, .inl fl)), (n3, .inl (ax 0, cp, .inl fr))]) hP hD hS hA [0, 1, 2, 3, 4, 5, 6, 7] (by decide) rfl
            have hz := xz_of hN hS
            refine va_calli (va_runV (As := [.int (nI (wt1 - 1))]) (rest := [.ref b0]) ⟨hx, hb, hml, hown, hts⟩ (c_P_comparison l D ax p0 q1 q2 q3 (wt1 - 1) rl b0 s_rows s_atoms s_first ro ix1 dm1 n0 n1 n2 n3 cp z9 fo fl fr (wt1 - 1) wt1 H_30.size (by first | assumption | omega) (show wt1 - 1 < wt1 by omega) hd1 hz9 hcp) (xcV (n := 1) hts wd_846 wd_6 wd_843 wd_845 ps_35 rfl rfl (by decide +kernel) ⟨Nat.le_of_ble_eq_true rfl, Nat.le_of_ble_eq_true rfl⟩) (xpV (ci := 6) (q0 := 0) (As := [.int (nI (wt1 - 1))]) hPc hK hz hDc rfl rfl) rfl rfl hl1.1 rfl (lv_room (Nat.le_of_ble_eq_true rfl)) d_Prover_fits_99 ⟨Nat.le_of_ble_eq_true rfl, Nat.le_of_ble_eq_true rfl⟩) hS (fun q _ h => hFc q h) hFc (fun r_44 u_42 t H_43 locs ht hvm hw hB hz1 hk1 hS1 => ?_)
            try dsimp only at hw
            obtain ⟨hw, hs_45⟩ := hw
            subst hw
            obtain ⟨hP1, hD1⟩ := hB
            rw [ht] at hP1
            have hjn := xw_join3 (wl := [(b0, .inr (0, [.ref b1, .ref b2, .ref b3, .int (nI bn1)])), (b1, .inl (ax 0, 11, .inl lv1)), (b2, .inl (ax 0, 121, .inl mo1)), (b3, .inl (ax 0, 121, .inl (fun j => nI (bo1 j)))), (p0, .inr (6, [.ref b0, .int s_rows, .int s_atoms, .int s_first, .ref n0, .ref q1, .ref q2, .ref q3, .int (nI (wt1 - 1))])), (q1, .inl (ax 2, rl, .inl ro)), (q2, .inl (ax 0, 64, .inl (fun j => nI (dm1 j)))), (q3, .inl (ax 0, 64, .inl ix1)), (n0, .inr (4, [.ref n1, .ref n2, .ref n3, .int (nI z9)])), (n1, .inl (ax 1, cp, .inl fo)), (n2, .inl (ax 0, cp, .inl fl)), (n3, .inl (ax 0, cp, .inl fr))]) hP hD [0, 1, 2, 3, 4, 5, 6, 7] [8, 9, 10, 11] hCs (by decide) (by decide) hk1 hFc hP1 hD1 rfl
            clear hP1 hD1
            clear hPc hDc hFc hCs hz hz1 hk1 ht hvm
            clear hP hD hS
            have hS := hS1
            obtain ⟨hP, hD⟩ := hjn
            clear hS1
            refine lv_aload_n hx hb d_Prover_fits_102 rfl (lv_at hl1 1 rfl) ?_
            refine va_get (D := D) (ci := 6) (v := .ref n0) (C := R_Prover) (T := F_Prover) (N := 9) hx hb hts i_Prover hown hK.1 hP 4 rfl rfl 4 (by decide) (hts _ wd_183) (fun _ h9 => h9) rfl d_Prover_fits_103 ?_
            refine va_get (D := D) (ci := 4) (v := .ref n2) (C := R_Nodes) (T := F_Nodes) (N := 4) hx hb hts i_Nodes hown hK.1 hP 8 rfl rfl 1 (by decide) (hts _ wd_110) (fun _ h9 => h9) rfl d_Prover_fits_106 ?_
            refine lv_iload hx hb d_Prover_fits_109 (lv_at hl1 0 rfl) ?_
            refine va_iald hx hb hK.1 hP 10 0 rfl rfl (vp_in_nI (by first | assumption | omega) (by first | exact Nat.lt_of_lt_of_le (by assumption) (by decide) | exact Nat.lt_of_le_of_lt (by assumption) (by decide) | omega)) d_Prover_fits_111 ?_
            refine W.eq (g2 := F0 m 112 ls [.int (fl ((dm1 (wt1 - 1)) / 2)), .int (nI (u_42 0)), .ref b0]) (by rw [nI_clamp (by first | exact Nat.lt_of_lt_of_le (by assumption) (by decide) | exact Nat.lt_of_le_of_lt (by assumption) (by decide) | omega)]) ?_
            refine lv_aload_n hx hb d_Prover_fits_112 rfl (lv_at hl1 1 rfl) ?_
            refine va_get (D := D) (ci := 6) (v := .ref n0) (C := R_Prover) (T := F_Prover) (N := 9) hx hb hts i_Prover hown hK.1 hP 4 rfl rfl 4 (by decide) (hts _ wd_183) (fun _ h9 => h9) rfl d_Prover_fits_113 ?_
            refine va_get (D := D) (ci := 4) (v := .ref n3) (C := R_Nodes) (T := F_Nodes) (N := 4) hx hb hts i_Nodes hown hK.1 hP 8 rfl rfl 2 (by decide) (hts _ wd_115) (fun _ h9 => h9) rfl d_Prover_fits_116 ?_
            refine lv_iload hx hb d_Prover_fits_119 (lv_at hl1 0 rfl) ?_
            refine va_iald hx hb hK.1 hP 11 0 rfl rfl (vp_in_nI (by first | assumption | omega) (by first | exact Nat.lt_of_lt_of_le (by assumption) (by decide) | exact Nat.lt_of_le_of_lt (by assumption) (by decide) | omega)) d_Prover_fits_121 ?_
            refine W.eq (g2 := F0 m 122 ls [.int (fr ((dm1 (wt1 - 1)) / 2)), .int (fl ((dm1 (wt1 - 1)) / 2)), .int (nI (u_42 0)), .ref b0]) (by rw [nI_clamp (by first | exact Nat.lt_of_lt_of_le (by assumption) (by decide) | exact Nat.lt_of_le_of_lt (by assumption) (by decide) | omega)]) ?_
            obtain ⟨hPc, hDc, hFc, hCs⟩ := xw_sub3 (wc := [(b0, .inr (0, [.ref b1, .ref b2, .ref b3, .int (nI bn1)])), (b1, .inl (ax 0, 11, .inl lv1)), (b2, .inl (ax 0, 121, .inl mo1)), (b3, .inl (ax 0, 121, .inl (fun j => nI (bo1 j))))]) hP hD hS hA [0, 1, 2, 3] (by decide) rfl
            have hz := xz_of hN hS
            refine va_calli (va_runV (As := [.int (nI (u_42 0)), .int (fl ((dm1 (wt1 - 1)) / 2)), .int (fr ((dm1 (wt1 - 1)) / 2))]) (rest := []) ⟨hx, hb, hml, hown, hts⟩ (c_B_take l D ax b0 b1 b2 b3 bn1 lv1 mo1 bo1 (nI (u_42 0)) (fl ((dm1 (wt1 - 1)) / 2)) (fr ((dm1 (wt1 - 1)) / 2)) H_43.size htr1 htr2 (by assumption)) (xcV (n := 3) hts wd_850 wd_7 wd_847 wd_848 wd_849 rfl rfl (by decide +kernel) ⟨Nat.le_of_ble_eq_true rfl, Nat.le_of_ble_eq_true rfl⟩) (xpV (ci := 0) (q0 := 0) (As := [.int (nI (u_42 0)), .int (fl ((dm1 (wt1 - 1)) / 2)), .int (fr ((dm1 (wt1 - 1)) / 2))]) hPc hK hz hDc rfl rfl) rfl rfl hl1.1 rfl (lv_room (Nat.le_of_ble_eq_true rfl)) d_Prover_fits_122 ⟨Nat.le_of_ble_eq_true rfl, Nat.le_of_ble_eq_true rfl⟩) hS (fun q _ h => hFc q h) hFc (fun r_48 u_46 t H_47 locs ht hvm hw hB hz1 hk1 hS1 => ?_)
            try dsimp only at hw
            obtain ⟨hw, hs_49⟩ := hw
            subst hw
            obtain ⟨x_50, x_51, x_52, hx_53, hP1, hD1⟩ := hB
            rw [ht] at hP1
            have hjn := xw_join3 (wl := [(p0, .inr (6, [.ref b0, .int s_rows, .int s_atoms, .int s_first, .ref n0, .ref q1, .ref q2, .ref q3, .int (nI (wt1 - 1))])), (q1, .inl (ax 2, rl, .inl ro)), (q2, .inl (ax 0, 64, .inl (fun j => nI (dm1 j)))), (q3, .inl (ax 0, 64, .inl ix1)), (n0, .inr (4, [.ref n1, .ref n2, .ref n3, .int (nI z9)])), (n1, .inl (ax 1, cp, .inl fo)), (n2, .inl (ax 0, cp, .inl fl)), (n3, .inl (ax 0, cp, .inl fr)), (b0, .inr (0, [.ref b1, .ref b2, .ref b3, .int (nI (u_46 0))])), (b1, .inl (ax 0, 11, .inl x_50)), (b2, .inl (ax 0, 121, .inl x_51)), (b3, .inl (ax 0, 121, .inl (fun j => nI (x_52 j))))]) hP hD [0, 1, 2, 3] [4, 5, 6, 7, 8, 9, 10, 11] hCs (by decide) (by decide) hk1 hFc hP1 hD1 rfl
            clear hP1 hD1
            clear hPc hDc hFc hCs hz hz1 hk1 ht hvm
            clear hP hD hS
            have hS := hS1
            obtain ⟨hP, hD⟩ := hjn
            clear hS1
            refine lv_istore_n (lv' := [(2, .int (nI (u_46 1))), (4, .int (nI ((dm1 (wt1 - 1)) / 2))), (0, .ref p0), (3, .int (nI t1))]) hx hb d_Prover_fits_125 rfl hl1 (by decide) rfl (fun ls hl2 => ?_)
            clear hl1; have hl1 := hl2; clear hl2
            refine lv_goto (tgt := 155) hx hb d_Prover_fits_126 (by decide) ?_
            refine lv_iinc (v := nI (t1 + 1)) (lv' := [(3, .int (nI (t1 + 1))), (2, .int (nI (u_46 1))), (4, .int (nI ((dm1 (wt1 - 1)) / 2))), (0, .ref p0)]) hx hb d_Prover_fits_155 hl1 (k := 3) rfl (nI_add t1 1) (by decide) rfl (fun ls hl2 => ?_)
            clear hl1; have hl1 := hl2; clear hl2
            refine lv_goto (tgt := 30) hx hb d_Prover_fits_158 (by decide) ?_
            exact ih_24 (u_46 1) (t1 + 1) (wt1 - 1) (u_46 0) dm1 x_52 ix1 x_50 x_51 (by first | assumption | omega) (by first | assumption | omega) (by first | assumption | omega) (by first | assumption | omega) (by first | assumption | exact hd1.dn (by first | assumption | omega)) (by assumption) _ _ _ (hP.sub [0, 1, 2, 3, 4, 5, 6, 7, 8, 9, 10, 11] rfl) (hD.sub [0, 1, 2, 3, 4, 5, 6, 7, 8, 9, 10, 11] (by decide) rfl) hS (lv_sub hl1 [3, 1, 0] rfl)
abbrev b_Prover_search : ByteArray := prog_8_method_5_code
def y_Prover_search : MethodName := ⟨R_Prover, "search", "()V"⟩
theorem d_Prover_search_0 : decode b_Prover_search 0 = .ok (.aload_n 0, 1) := by decide +kernel
theorem d_Prover_search_1 : decode b_Prover_search 1 = .ok (.getfield 54, 3) := by decide +kernel
theorem d_Prover_search_4 : decode b_Prover_search 4 = .ok (.sipush 5000, 3) := by decide +kernel
theorem d_Prover_search_7 : decode b_Prover_search 7 = .ok (.if_icmp .le 10, 3) := by decide +kernel
theorem d_Prover_search_10 : decode b_Prover_search 10 = .ok (.aload_n 0, 1) := by decide +kernel
theorem d_Prover_search_11 : decode b_Prover_search 11 = .ok (.getfield 54, 3) := by decide +kernel
theorem d_Prover_search_14 : decode b_Prover_search 14 = .ok (.goto 4, 3) := by decide +kernel
theorem d_Prover_search_17 : decode b_Prover_search 17 = .ok (.iconst 0, 1) := by decide +kernel
theorem d_Prover_search_18 : decode b_Prover_search 18 = .ok (.istore_n 1, 1) := by decide +kernel
theorem d_Prover_search_19 : decode b_Prover_search 19 = .ok (.aload_n 0, 1) := by decide +kernel
theorem d_Prover_search_20 : decode b_Prover_search 20 = .ok (.iconst (-1), 1) := by decide +kernel
theorem d_Prover_search_21 : decode b_Prover_search 21 = .ok (.putfield 73, 3) := by decide +kernel
theorem d_Prover_search_24 : decode b_Prover_search 24 = .ok (.iconst 0, 1) := by decide +kernel
theorem d_Prover_search_25 : decode b_Prover_search 25 = .ok (.istore_n 2, 1) := by decide +kernel
theorem d_Prover_search_26 : decode b_Prover_search 26 = .ok (.iload_n 2, 1) := by decide +kernel
theorem d_Prover_search_27 : decode b_Prover_search 27 = .ok (.sipush 5000, 3) := by decide +kernel
theorem d_Prover_search_30 : decode b_Prover_search 30 = .ok (.if_icmp .ge 38, 3) := by decide +kernel
theorem d_Prover_search_33 : decode b_Prover_search 33 = .ok (.iload_n 1, 1) := by decide +kernel
theorem d_Prover_search_34 : decode b_Prover_search 34 = .ok (.aload_n 0, 1) := by decide +kernel
theorem d_Prover_search_35 : decode b_Prover_search 35 = .ok (.getfield 54, 3) := by decide +kernel
theorem d_Prover_search_38 : decode b_Prover_search 38 = .ok (.if_icmp .ge 30, 3) := by decide +kernel
theorem d_Prover_search_41 : decode b_Prover_search 41 = .ok (.aload_n 0, 1) := by decide +kernel
theorem d_Prover_search_42 : decode b_Prover_search 42 = .ok (.iload_n 1, 1) := by decide +kernel
theorem d_Prover_search_43 : decode b_Prover_search 43 = .ok (.invokevirtual 76, 3) := by decide +kernel
theorem d_Prover_search_46 : decode b_Prover_search 46 = .ok (.ifCond .eq 9, 3) := by decide +kernel
theorem d_Prover_search_49 : decode b_Prover_search 49 = .ok (.aload_n 0, 1) := by decide +kernel
theorem d_Prover_search_50 : decode b_Prover_search 50 = .ok (.iload_n 1, 1) := by decide +kernel
theorem d_Prover_search_51 : decode b_Prover_search 51 = .ok (.putfield 73, 3) := by decide +kernel
theorem d_Prover_search_54 : decode b_Prover_search 54 = .ok (.return_, 1) := by decide +kernel
theorem d_Prover_search_55 : decode b_Prover_search 55 = .ok (.iload_n 1, 1) := by decide +kernel
theorem d_Prover_search_56 : decode b_Prover_search 56 = .ok (.aload_n 0, 1) := by decide +kernel
theorem d_Prover_search_57 : decode b_Prover_search 57 = .ok (.invokevirtual 80, 3) := by decide +kernel
theorem d_Prover_search_60 : decode b_Prover_search 60 = .ok (.iadd, 1) := by decide +kernel
theorem d_Prover_search_61 : decode b_Prover_search 61 = .ok (.istore_n 1, 1) := by decide +kernel
theorem d_Prover_search_62 : decode b_Prover_search 62 = .ok (.iinc 2 1, 3) := by decide +kernel
theorem d_Prover_search_65 : decode b_Prover_search 65 = .ok (.goto (-39), 3) := by decide +kernel
theorem d_Prover_search_68 : decode b_Prover_search 68 = .ok (.return_, 1) := by decide +kernel
set_option maxHeartbeats 40000000 in
set_option maxRecDepth 100000 in
theorem c_P_search (l : Launch) (D : va_G) (ax : Nat → ClassId) (p0 q1 q2 q3 wt rl b0 : Nat) (s_rows s_atoms s_first : Int32) (ro ix : Nat → Int32) (dm : Nat → Nat) (n0 n1 n2 n3 cp z9 : Nat) (fo fl fr : Nat → Int32) (b1 b2 b3 bn : Nat) (lv mo : Nat → Int32) (bo : Nat → Nat) (sz : Nat) (hz1 : 1 ≤ z9) (hbv : bnv mo bo bn) (hz9 : z9 ≤ cp) (hcp : cp ≤ 100000) (hrl : 2 * z9 ≤ rl) (hrl2 : rl ≤ 300000) (hnv : ndv fo fl fr z9) (hwt : wt ≤ 64) : Met l y_Prover_search (xws (.code y_Prover_search b_Prover_search 3 none)) ({ frames := 70, cells := 0, slots := 0, locals := 2800 }) (va_Pc [.ref p0] (xo D ax [(p0, .inr (6, [.ref b0, .int s_rows, .int s_atoms, .int s_first, .ref n0, .ref q1, .ref q2, .ref q3, .int (nI wt)])), (q1, .inl (ax 2, rl, .inl ro)), (q2, .inl (ax 0, 64, .inl (fun j => nI (dm j)))), (q3, .inl (ax 0, 64, .inl ix)), (n0, .inr (4, [.ref n1, .ref n2, .ref n3, .int (nI z9)])), (n1, .inl (ax 1, cp, .inl fo)), (n2, .inl (ax 0, cp, .inl fl)), (n3, .inl (ax 0, cp, .inl fr)), (b0, .inr (0, [.ref b1, .ref b2, .ref b3, .int (nI bn)])), (b1, .inl (ax 0, 11, .inl lv)), (b2, .inl (ax 0, 121, .inl mo)), (b3, .inl (ax 0, 121, .inl (fun j => nI (bo j))))] sz)) ((va_Qv (fun (u : Nat → Nat) => (u 0 ≤ 64)) (fun (u : Nat → Nat) (t9 : State) => ∃ xdm : Nat → Nat, ∃ xix : Nat → Int32, ∃ xlv : Nat → Int32, ∃ xmo : Nat → Int32, ∃ xbo : Nat → Nat, ∃ xfi : Int32, (bnv xmo xbo (u 1)) ∧ va_P D classes [(p0, .inr (6, [.ref b0, .int s_rows, .int s_atoms, .int xfi, .ref n0, .ref q1, .ref q2, .ref q3, .int (nI (u 0))])), (q1, .inl (ax 2, rl, .inl ro)), (q2, .inl (ax 0, 64, .inl (fun j => nI (xdm j)))), (q3, .inl (ax 0, 64, .inl xix)), (n0, .inr (4, [.ref n1, .ref n2, .ref n3, .int (nI z9)])), (n1, .inl (ax 1, cp, .inl fo)), (n2, .inl (ax 0, cp, .inl fl)), (n3, .inl (ax 0, cp, .inl fr)), (b0, .inr (0, [.ref b1, .ref b2, .ref b3, .int (nI (u 1))])), (b1, .inl (ax 0, 11, .inl xlv)), (b2, .inl (ax 0, 121, .inl xmo)), (b3, .inl (ax 0, 121, .inl (fun j => nI (xbo j))))] t9.heap ∧ va_D (va_A [(p0, .inr (6, [.ref b0, .int s_rows, .int s_atoms, .int s_first, .ref n0, .ref q1, .ref q2, .ref q3, .int (nI wt)])), (q1, .inl (ax 2, rl, .inl ro)), (q2, .inl (ax 0, 64, .inl (fun j => nI (dm j)))), (q3, .inl (ax 0, 64, .inl ix)), (n0, .inr (4, [.ref n1, .ref n2, .ref n3, .int (nI z9)])), (n1, .inl (ax 1, cp, .inl fo)), (n2, .inl (ax 0, cp, .inl fl)), (n3, .inl (ax 0, cp, .inl fr)), (b0, .inr (0, [.ref b1, .ref b2, .ref b3, .int (nI bn)])), (b1, .inl (ax 0, 11, .inl lv)), (b2, .inl (ax 0, 121, .inl mo)), (b3, .inl (ax 0, 121, .inl (fun j => nI (bo j))))] sz) [(p0, .inr (6, [.ref b0, .int s_rows, .int s_atoms, .int xfi, .ref n0, .ref q1, .ref q2, .ref q3, .int (nI (u 0))])), (q1, .inl (ax 2, rl, .inl ro)), (q2, .inl (ax 0, 64, .inl (fun j => nI (xdm j)))), (q3, .inl (ax 0, 64, .inl xix)), (n0, .inr (4, [.ref n1, .ref n2, .ref n3, .int (nI z9)])), (n1, .inl (ax 1, cp, .inl fo)), (n2, .inl (ax 0, cp, .inl fl)), (n3, .inl (ax 0, cp, .inl fr)), (b0, .inr (0, [.ref b1, .ref b2, .ref b3, .int (nI (u 1))])), (b1, .inl (ax 0, 11, .inl xlv)), (b2, .inl (ax 0, 121, .inl xmo)), (b3, .inl (ax 0, 121, .inl (fun j => nI (xbo j))))]) (va_A [(p0, .inr (6, [.ref b0, .int s_rows, .int s_atoms, .int s_first, .ref n0, .ref q1, .ref q2, .ref q3, .int (nI wt)])), (q1, .inl (ax 2, rl, .inl ro)), (q2, .inl (ax 0, 64, .inl (fun j => nI (dm j)))), (q3, .inl (ax 0, 64, .inl ix)), (n0, .inr (4, [.ref n1, .ref n2, .ref n3, .int (nI z9)])), (n1, .inl (ax 1, cp, .inl fo)), (n2, .inl (ax 0, cp, .inl fl)), (n3, .inl (ax 0, cp, .inl fr)), (b0, .inr (0, [.ref b1, .ref b2, .ref b3, .int (nI bn)])), (b1, .inl (ax 0, 11, .inl lv)), (b2, .inl (ax 0, 121, .inl mo)), (b3, .inl (ax 0, 121, .inl (fun j => nI (bo j))))] sz))) 0 0 (va_A [(p0, .inr (6, [.ref b0, .int s_rows, .int s_atoms, .int s_first, .ref n0, .ref q1, .ref q2, .ref q3, .int (nI wt)])), (q1, .inl (ax 2, rl, .inl ro)), (q2, .inl (ax 0, 64, .inl (fun j => nI (dm j)))), (q3, .inl (ax 0, 64, .inl ix)), (n0, .inr (4, [.ref n1, .ref n2, .ref n3, .int (nI z9)])), (n1, .inl (ax 1, cp, .inl fo)), (n2, .inl (ax 0, cp, .inl fl)), (n3, .inl (ax 0, cp, .inl fr)), (b0, .inr (0, [.ref b1, .ref b2, .ref b3, .int (nI bn)])), (b1, .inl (ax 0, 11, .inl lv)), (b2, .inl (ax 0, 121, .inl mo)), (b3, .inl (ax 0, 121, .inl (fun j => nI (bo j))))] sz) := by
  refine Met.ofW (cc := b_Prover_search) (maxL := 3) (ret := none) (by decide) rfl ?_
  intro p e s m args below meth c s₁ B hml hv
  obtain ⟨rfl, hsz, hP, hK, hD0⟩ := hv
  have hx := B.exec
  have hb := B.bytes
  have hr := B.returns
  have hts := xw_hts B.pre
  have hown : s.vm.findClass R_Prover = some m.cls := findClass_of_methodNamed B.named
  have hlocks := B.notSynchronized
  subst hsz
  have hD := hD0.self (sz := s.heap.size)
  have hN := xz_entry hP
  generalize hAe : va_A [(p0, .inr (6, [.ref b0, .int s_rows, .int s_atoms, .int s_first, .ref n0, .ref q1, .ref q2, .ref q3, .int (nI wt)])), (q1, .inl (ax 2, rl, .inl ro)), (q2, .inl (ax 0, 64, .inl (fun j => nI (dm j)))), (q3, .inl (ax 0, 64, .inl ix)), (n0, .inr (4, [.ref n1, .ref n2, .ref n3, .int (nI z9)])), (n1, .inl (ax 1, cp, .inl fo)), (n2, .inl (ax 0, cp, .inl fl)), (n3, .inl (ax 0, cp, .inl fr)), (b0, .inr (0, [.ref b1, .ref b2, .ref b3, .int (nI bn)])), (b1, .inl (ax 0, 11, .inl lv)), (b2, .inl (ax 0, 121, .inl mo)), (b3, .inl (ax 0, 121, .inl (fun j => nI (bo j))))] s.heap.size = A at hD hN ⊢
  have hA : ∀ q : Nat, s.heap.size ≤ q → A q := fun q h => by rw [← hAe]; exact Or.inr h
  have hS : va_S A s.heap s.heap [] := va_S.rf
  have hl0 := lv_entry ([.ref p0]) (n := 3) (Nat.le_of_ble_eq_true rfl)
  rw [lg_entry_eq]
  generalize (lg_sl ([.ref p0]) ++ List.replicate (3 - (lg_sl ([.ref p0])).length) Slot.unset).toArray = ls at hl0 ⊢
  have hl1 : lv_has ls 3 [(0, .ref p0)] := hl0
  refine xw_gen (fun Z9 hQe => ?_)
  refine lv_aload_n hx hb d_Prover_search_0 rfl (lv_at hl1 0 rfl) ?_
  refine va_get (D := D) (ci := 6) (v := .int s_rows) (C := R_Prover) (T := F_Prover) (N := 9) hx hb hts i_Prover hown hK.1 hP 0 rfl rfl 1 (by decide) (hts _ wd_177) (fun _ h9 => h9) rfl d_Prover_search_1 ?_
  refine lv_sipush (v := 5000) hx hb d_Prover_search_4 (by decide) ?_
  refine lv_icmp_le (tgt := 17) hx hb d_Prover_search_7 (by decide) (fun c_1 => ?_) (fun c_1 => ?_)
  · refine lv_iconst (v := 0) hx hb d_Prover_search_17 (by decide) ?_
    refine lv_istore_n (lv' := [(1, .int 0), (0, .ref p0)]) hx hb d_Prover_search_18 rfl hl1 (by decide) rfl (fun ls hl2 => ?_)
    clear hl1; have hl1 := hl2; clear hl2
    refine lv_aload_n hx hb d_Prover_search_19 rfl (lv_at hl1 1 rfl) ?_
    refine lv_iconst (v := (-1)) hx hb d_Prover_search_20 (by decide) ?_
    refine va_put (D := D) (ci := 6) (v := .int (-1)) (ty := .int) (C := R_Prover) (T := F_Prover) (N := 9) hx hb hts i_Prover t_Prover t_Prover_ok n_Prover hown hK.1 hP hD hS 0 rfl rfl 3 (by decide) (hts _ wd_181) (fun _ h9 => h9) rfl (by decide +kernel) rfl rfl (Nat.le_of_ble_eq_true rfl) d_Prover_search_21 (fun H_2 locs hP1 hD1 hS1 => ?_)
    clear hP hD hS
    have hS := hS1
    have hW7 : (fun w9 : va_W => va_P D classes w9 H_2 ∧ va_D A w9) [(p0, .inr (6, [.ref b0, .int s_rows, .int s_atoms, .int (-1), .ref n0, .ref q1, .ref q2, .ref q3, .int (nI wt)])), (q1, .inl (ax 2, rl, .inl ro)), (q2, .inl (ax 0, 64, .inl (fun j => nI (dm j)))), (q3, .inl (ax 0, 64, .inl ix)), (n0, .inr (4, [.ref n1, .ref n2, .ref n3, .int (nI z9)])), (n1, .inl (ax 1, cp, .inl fo)), (n2, .inl (ax 0, cp, .inl fl)), (n3, .inl (ax 0, cp, .inl fr)), (b0, .inr (0, [.ref b1, .ref b2, .ref b3, .int (nI bn)])), (b1, .inl (ax 0, 11, .inl lv)), (b2, .inl (ax 0, 121, .inl mo)), (b3, .inl (ax 0, 121, .inl (fun j => nI (bo j))))] := ⟨hP1, hD1⟩
    obtain ⟨hP, hD⟩ := hW7
    clear hP1 hD1 hS1
    refine lv_iconst (v := 0) hx hb d_Prover_search_24 (by decide) ?_
    refine lv_istore_n (lv' := [(2, .int 0), (1, .int 0), (0, .ref p0)]) hx hb d_Prover_search_25 rfl hl1 (by decide) rfl (fun ls hl2 => ?_)
    clear hl1; have hl1 := hl2; clear hl2
    suffices key_3 : ∀ (k : Nat) (t1 wt1 bn1 : Nat) (x9 : Int32) (dm1 bo1 : Nat → Nat) (ix1 lv1 mo1 : Nat → Int32), 5000 - t1 < k → t1 ≤ 5000 → bnv mo1 bo1 bn1 → wt1 ≤ 64 → ∀ (H : Heap) (locs : List Loc) (ls : Array Slot), va_P D classes [(p0, .inr (6, [.ref b0, .int s_rows, .int s_atoms, .int (-1), .ref n0, .ref q1, .ref q2, .ref q3, .int (nI wt1)])), (q1, .inl (ax 2, rl, .inl ro)), (q2, .inl (ax 0, 64, .inl (fun j => nI (dm1 j)))), (q3, .inl (ax 0, 64, .inl ix1)), (n0, .inr (4, [.ref n1, .ref n2, .ref n3, .int (nI z9)])), (n1, .inl (ax 1, cp, .inl fo)), (n2, .inl (ax 0, cp, .inl fl)), (n3, .inl (ax 0, cp, .inl fr)), (b0, .inr (0, [.ref b1, .ref b2, .ref b3, .int (nI bn1)])), (b1, .inl (ax 0, 11, .inl lv1)), (b2, .inl (ax 0, 121, .inl mo1)), (b3, .inl (ax 0, 121, .inl (fun j => nI (bo1 j))))] H → va_D A [(p0, .inr (6, [.ref b0, .int s_rows, .int s_atoms, .int (-1), .ref n0, .ref q1, .ref q2, .ref q3, .int (nI wt1)])), (q1, .inl (ax 2, rl, .inl ro)), (q2, .inl (ax 0, 64, .inl (fun j => nI (dm1 j)))), (q3, .inl (ax 0, 64, .inl ix1)), (n0, .inr (4, [.ref n1, .ref n2, .ref n3, .int (nI z9)])), (n1, .inl (ax 1, cp, .inl fo)), (n2, .inl (ax 0, cp, .inl fl)), (n3, .inl (ax 0, cp, .inl fr)), (b0, .inr (0, [.ref b1, .ref b2, .ref b3, .int (nI bn1)])), (b1, .inl (ax 0, 11, .inl lv1)), (b2, .inl (ax 0, 121, .inl mo1)), (b3, .inl (ax 0, 121, .inl (fun j => nI (bo1 j))))] → va_S A s.heap H locs → lv_has ls 3 [(0, .ref p0), (1, .int x9), (2, .int (nI t1))] → W p l e (headSpec (xws (.code y_Prover_search b_Prover_search 3 none)) ({ frames := 70, cells := 0, slots := 0, locals := 2800 })).room s m ([.ref p0] : List Value).toArray below meth c H locs 0 0 Z9 (F0 m 26 ls []) from key_3 (5000 - 0 + 1) 0 wt bn 0 dm bo ix lv mo (Nat.lt_succ_self _) (by first | assumption | omega) hbv (by first | assumption | omega) _ _ _ (hP) (hD) hS (lv_sub hl1 [2, 1, 0] rfl)
    intro k_4
    induction k_4 with
    | zero =>
      intro t1 wt1 bn1 x9 dm1 bo1 ix1 lv1 mo1 hk_6
      exact absurd hk_6 (Nat.not_lt_zero _)
    | succ k_4 ih_5 =>
      clear hP hD hS hl1
      intro t1 wt1 bn1 x9 dm1 bo1 ix1 lv1 mo1 hk_6 ht1 hb1 hw1 H locs ls hP hD hS hl1
      refine lv_iload_n hx hb d_Prover_search_26 rfl (lv_at hl1 2 rfl) ?_
      refine lv_sipush (v := 5000) hx hb d_Prover_search_27 (by decide) ?_
      refine lv_icmp_ge (tgt := 68) hx hb d_Prover_search_30 (by decide) (fun c_7 => ?_) (fun c_7 => ?_)
      · replace c_7 : 5000 ≤ t1 := (nI_leI (a := 5000) (b := t1) (by decide) (by first | exact Nat.lt_of_lt_of_le (by assumption) (by decide) | exact Nat.lt_of_le_of_lt (by assumption) (by decide) | omega)).mp c_7
        rw [← hQe]
        obtain ⟨hP9, hD9⟩ := xw_sub2 (wc := (fun (u : Nat → Nat) (xdm : Nat → Nat) (xix : Nat → Int32) (xlv : Nat → Int32) (xmo : Nat → Int32) (xbo : Nat → Nat) (xfi : Int32) => [(p0, .inr (6, [.ref b0, .int s_rows, .int s_atoms, .int xfi, .ref n0, .ref q1, .ref q2, .ref q3, .int (nI (u 0))])), (q1, .inl (ax 2, rl, .inl ro)), (q2, .inl (ax 0, 64, .inl (fun j => nI (xdm j)))), (q3, .inl (ax 0, 64, .inl xix)), (n0, .inr (4, [.ref n1, .ref n2, .ref n3, .int (nI z9)])), (n1, .inl (ax 1, cp, .inl fo)), (n2, .inl (ax 0, cp, .inl fl)), (n3, .inl (ax 0, cp, .inl fr)), (b0, .inr (0, [.ref b1, .ref b2, .ref b3, .int (nI (u 1))])), (b1, .inl (ax 0, 11, .inl xlv)), (b2, .inl (ax 0, 121, .inl xmo)), (b3, .inl (ax 0, 121, .inl (fun j => nI (xbo j))))]) (ixn [wt1, bn1]) dm1 ix1 lv1 mo1 bo1 (-1)) hP hD [0, 1, 2, 3, 4, 5, 6, 7, 8, 9, 10, 11] (by decide) rfl
        have hex0 : bnv mo1 bo1 (bn1) := (by assumption)
        have hsp0 : wt1 ≤ 64 := (by first | assumption | omega)
        exact W.vret hx hb hr (fun t ht hW => ⟨⟨ixn [wt1, bn1], rfl, hsp0, ⟨dm1, ix1, lv1, mo1, bo1, (-1), hex0, by rw [ht]; exact hP9, hD9⟩⟩, hS.F ht⟩) hS.2.2 d_Prover_search_68
      · replace c_7 : ¬ 5000 ≤ t1 := fun hq9 => c_7 ((nI_leI (a := 5000) (b := t1) (by decide) (by first | exact Nat.lt_of_lt_of_le (by assumption) (by decide) | exact Nat.lt_of_le_of_lt (by assumption) (by decide) | omega)).mpr hq9)
        refine lv_iload_n hx hb d_Prover_search_33 rfl (lv_at hl1 1 rfl) ?_
        refine lv_aload_n hx hb d_Prover_search_34 rfl (lv_at hl1 0 rfl) ?_
        refine va_get (D := D) (ci := 6) (v := .int s_rows) (C := R_Prover) (T := F_Prover) (N := 9) hx hb hts i_Prover hown hK.1 hP 0 rfl rfl 1 (by decide) (hts _ wd_177) (fun _ h9 => h9) rfl d_Prover_search_35 ?_
        refine lv_icmp_ge (tgt := 68) hx hb d_Prover_search_38 (by decide) (fun c_8 => ?_) (fun c_8 => ?_)
        · rw [← hQe]
          obtain ⟨hP9, hD9⟩ := xw_sub2 (wc := (fun (u : Nat → Nat) (xdm : Nat → Nat) (xix : Nat → Int32) (xlv : Nat → Int32) (xmo : Nat → Int32) (xbo : Nat → Nat) (xfi : Int32) => [(p0, .inr (6, [.ref b0, .int s_rows, .int s_atoms, .int xfi, .ref n0, .ref q1, .ref q2, .ref q3, .int (nI (u 0))])), (q1, .inl (ax 2, rl, .inl ro)), (q2, .inl (ax 0, 64, .inl (fun j => nI (xdm j)))), (q3, .inl (ax 0, 64, .inl xix)), (n0, .inr (4, [.ref n1, .ref n2, .ref n3, .int (nI z9)])), (n1, .inl (ax 1, cp, .inl fo)), (n2, .inl (ax 0, cp, .inl fl)), (n3, .inl (ax 0, cp, .inl fr)), (b0, .inr (0, [.ref b1, .ref b2, .ref b3, .int (nI (u 1))])), (b1, .inl (ax 0, 11, .inl xlv)), (b2, .inl (ax 0, 121, .inl xmo)), (b3, .inl (ax 0, 121, .inl (fun j => nI (xbo j))))]) (ixn [wt1, bn1]) dm1 ix1 lv1 mo1 bo1 (-1)) hP hD [0, 1, 2, 3, 4, 5, 6, 7, 8, 9, 10, 11] (by decide) rfl
          have hex0 : bnv mo1 bo1 (bn1) := (by assumption)
          have hsp0 : wt1 ≤ 64 := (by first | assumption | omega)
          exact W.vret hx hb hr (fun t ht hW => ⟨⟨ixn [wt1, bn1], rfl, hsp0, ⟨dm1, ix1, lv1, mo1, bo1, (-1), hex0, by rw [ht]; exact hP9, hD9⟩⟩, hS.F ht⟩) hS.2.2 d_Prover_search_68
        · refine lv_aload_n hx hb d_Prover_search_41 rfl (lv_at hl1 0 rfl) ?_
          refine lv_iload_n hx hb d_Prover_search_42 rfl (lv_at hl1 1 rfl) ?_
          obtain ⟨hPc, hDc, hFc, hCs⟩ := xw_sub3 (wc := [(p0, .inr (6, [.ref b0, .int s_rows, .int s_atoms, .int (-1), .ref n0, .ref q1, .ref q2, .ref q3, .int (nI wt1)])), (q1, .inl (ax 2, rl, .inl ro)), (q2, .inl (ax 0, 64, .inl (fun j => nI (dm1 j)))), (q3, .inl (ax 0, 64, .inl ix1)), (n0, .inr (4, [.ref n1, .ref n2, .ref n3, .int (nI z9)])), (n1, .inl (ax 1, cp, .inl fo)), (n2, .inl (ax 0, cp, .inl fl)), (n3, .inl (ax 0, cp, .inl fr)), (b0, .inr (0, [.ref b1, .ref b2, .ref b3, .int (nI bn1)])), (b1, .inl (ax 0, 11, .inl lv1)), (b2, .inl (ax 0, 121, .inl mo1)), (b3, .inl (ax 0, 121, .inl (fun j => nI (bo1 j))))]) hP hD hS hA [0, 1, 2, 3, 4, 5, 6, 7, 8, 9, 10, 11] (by decide) rfl
          have hz := xz_of hN hS
          refine va_calli (va_runV (As := [.int x9]) (rest := []) ⟨hx, hb, hml, hown, hts⟩ (c_P_fits l D ax p0 q1 q2 q3 wt1 rl b0 s_rows s_atoms (-1) ro ix1 dm1 n0 n1 n2 n3 cp z9 fo fl fr b1 b2 b3 bn1 lv1 mo1 bo1 x9 H.size (by first | assumption | omega) (by assumption) hz9 hcp hrl hrl2 hnv) (xcV (n := 1) hts wd_834 wd_6 wd_831 wd_833 ps_33 rfl rfl (by decide +kernel) ⟨Nat.le_of_ble_eq_true rfl, Nat.le_of_ble_eq_true rfl⟩) (xpV (ci := 6) (q0 := 0) (As := [.int x9]) hPc hK hz hDc rfl rfl) rfl rfl hl1.1 rfl (lv_room (Nat.le_of_ble_eq_true rfl)) d_Prover_search_43 ⟨Nat.le_of_ble_eq_true rfl, Nat.le_of_ble_eq_true rfl⟩) hS (fun q _ h => hFc q h) hFc (fun r_11 u_9 t H_10 locs ht hvm hw hB hz1 hk1 hS1 => ?_)
          try dsimp only at hw
          obtain ⟨hw, hs_12, hs_13⟩ := hw
          subst hw
          obtain ⟨x_14, x_15, x_16, x_17, x_18, hx_19, hx_20, hP1, hD1⟩ := hB
          rw [ht] at hP1
          have hjn := xw_join3 (wl := [(p0, .inr (6, [.ref b0, .int s_rows, .int s_atoms, .int (-1), .ref n0, .ref q1, .ref q2, .ref q3, .int (nI (u_9 0))])), (q1, .inl (ax 2, rl, .inl ro)), (q2, .inl (ax 0, 64, .inl (fun j => nI (x_14 j)))), (q3, .inl (ax 0, 64, .inl x_15)), (n0, .inr (4, [.ref n1, .ref n2, .ref n3, .int (nI z9)])), (n1, .inl (ax 1, cp, .inl fo)), (n2, .inl (ax 0, cp, .inl fl)), (n3, .inl (ax 0, cp, .inl fr)), (b0, .inr (0, [.ref b1, .ref b2, .ref b3, .int (nI (u_9 1))])), (b1, .inl (ax 0, 11, .inl x_16)), (b2, .inl (ax 0, 121, .inl x_17)), (b3, .inl (ax 0, 121, .inl (fun j => nI (x_18 j))))]) hP hD [0, 1, 2, 3, 4, 5, 6, 7, 8, 9, 10, 11] [] hCs (by decide) (by decide) hk1 hFc hP1 hD1 rfl
          clear hP1 hD1
          clear hPc hDc hFc hCs hz hz1 hk1 ht hvm
          clear hP hD hS
          have hS := hS1
          obtain ⟨hP, hD⟩ := hjn
          clear hS1
          refine lv_if_eq (tgt := 55) hx hb d_Prover_search_46 (by decide) (fun c_21 => ?_) (fun c_21 => ?_)
          · replace c_21 : u_9 2 = 0 := (nI_eq (a := u_9 2) (b := 0) (by first | exact Nat.lt_of_lt_of_le (by assumption) (by decide) | exact Nat.lt_of_le_of_lt (by assumption) (by decide) | omega) (by decide)).mp c_21
            refine lv_iload_n hx hb d_Prover_search_55 rfl (lv_at hl1 1 rfl) ?_
            refine lv_aload_n hx hb d_Prover_search_56 rfl (lv_at hl1 0 rfl) ?_
            obtain ⟨hPc, hDc, hFc, hCs⟩ := xw_sub3 (wc := [(p0, .inr (6, [.ref b0, .int s_rows, .int s_atoms, .int (-1), .ref n0, .ref q1, .ref q2, .ref q3, .int (nI (u_9 0))])), (q1, .inl (ax 2, rl, .inl ro)), (q2, .inl (ax 0, 64, .inl (fun j => nI (x_14 j)))), (q3, .inl (ax 0, 64, .inl x_15))]) hP hD hS hA [0, 1, 2, 3] (by decide) rfl
            have hz := xz_of hN hS
            refine va_calli (va_runV (As := []) (rest := [.int x9]) ⟨hx, hb, hml, hown, hts⟩ (c_P_rowsAlike l D ax p0 q1 q2 q3 (u_9 0) rl b0 s_rows s_atoms (-1) ro x_15 x_14 n0 H_10.size (by first | assumption | omega) (fun i hi => by have h9 := hx_19 i hi; omega) (by first | assumption | omega)) (xcV (n := 0) hts wd_873 wd_6 wd_870 wd_872 ps_40 rfl rfl (by decide +kernel) ⟨Nat.le_of_ble_eq_true rfl, Nat.le_of_ble_eq_true rfl⟩) (xpV (ci := 6) (q0 := 0) (As := []) hPc hK hz hDc rfl rfl) rfl rfl hl1.1 rfl (lv_room (Nat.le_of_ble_eq_true rfl)) d_Prover_search_57 ⟨Nat.le_of_ble_eq_true rfl, Nat.le_of_ble_eq_true rfl⟩) hS (fun q _ h => hFc q h) hFc (fun r_24 u_22 t H_23 locs ht hvm hw hB hz1 hk1 hS1 => ?_)
            try dsimp only at hw
            obtain ⟨hw, hs_25⟩ := hw
            subst hw
            obtain ⟨hP1, hD1⟩ := hB
            rw [ht] at hP1
            have hjn := xw_join3 (wl := [(n0, .inr (4, [.ref n1, .ref n2, .ref n3, .int (nI z9)])), (n1, .inl (ax 1, cp, .inl fo)), (n2, .inl (ax 0, cp, .inl fl)), (n3, .inl (ax 0, cp, .inl fr)), (b0, .inr (0, [.ref b1, .ref b2, .ref b3, .int (nI (u_9 1))])), (b1, .inl (ax 0, 11, .inl x_16)), (b2, .inl (ax 0, 121, .inl x_17)), (b3, .inl (ax 0, 121, .inl (fun j => nI (x_18 j)))), (p0, .inr (6, [.ref b0, .int s_rows, .int s_atoms, .int (-1), .ref n0, .ref q1, .ref q2, .ref q3, .int (nI (u_9 0))])), (q1, .inl (ax 2, rl, .inl ro)), (q2, .inl (ax 0, 64, .inl (fun j => nI (x_14 j)))), (q3, .inl (ax 0, 64, .inl x_15))]) hP hD [0, 1, 2, 3] [4, 5, 6, 7, 8, 9, 10, 11] hCs (by decide) (by decide) hk1 hFc hP1 hD1 rfl
            clear hP1 hD1
            clear hPc hDc hFc hCs hz hz1 hk1 ht hvm
            clear hP hD hS
            have hS := hS1
            obtain ⟨hP, hD⟩ := hjn
            clear hS1
            obtain ⟨vd_26, evd_26⟩ : ∃ y : Int32, y = nI (u_22 0) := ⟨_, rfl⟩
            refine W.eq (g2 := F0 m 60 ls [.int vd_26, .int x9]) (by rw [evd_26]) ?_
            refine lv_iadd hx hb d_Prover_search_60 ?_
            refine lv_topi (fun z_27 ez_27 => ?_)
            refine lv_istore_n (lv' := [(1, .int z_27), (0, .ref p0), (2, .int (nI t1))]) hx hb d_Prover_search_61 rfl hl1 (by decide) rfl (fun ls hl2 => ?_)
            clear hl1; have hl1 := hl2; clear hl2
            refine lv_iinc (v := nI (t1 + 1)) (lv' := [(2, .int (nI (t1 + 1))), (1, .int z_27), (0, .ref p0)]) hx hb d_Prover_search_62 hl1 (k := 2) rfl (nI_add t1 1) (by decide) rfl (fun ls hl2 => ?_)
            clear hl1; have hl1 := hl2; clear hl2
            refine lv_goto (tgt := 26) hx hb d_Prover_search_65 (by decide) ?_
            exact ih_5 (t1 + 1) (u_9 0) (u_9 1) z_27 x_14 x_18 x_15 x_16 x_17 (by first | assumption | omega) (by first | assumption | omega) (by assumption) (by first | assumption | omega) _ _ _ (hP.sub [8, 9, 10, 11, 0, 1, 2, 3, 4, 5, 6, 7] rfl) (hD.sub [8, 9, 10, 11, 0, 1, 2, 3, 4, 5, 6, 7] (by decide) rfl) hS (lv_sub hl1 [2, 1, 0] rfl)
          · replace c_21 : ¬ u_9 2 = 0 := fun hq9 => c_21 ((nI_eq (a := u_9 2) (b := 0) (by first | exact Nat.lt_of_lt_of_le (by assumption) (by decide) | exact Nat.lt_of_le_of_lt (by assumption) (by decide) | omega) (by decide)).mpr hq9)
            refine lv_aload_n hx hb d_Prover_search_49 rfl (lv_at hl1 0 rfl) ?_
            refine lv_iload_n hx hb d_Prover_search_50 rfl (lv_at hl1 1 rfl) ?_
            refine va_put (D := D) (ci := 6) (v := .int x9) (ty := .int) (C := R_Prover) (T := F_Prover) (N := 9) hx hb hts i_Prover t_Prover t_Prover_ok n_Prover hown hK.1 hP hD hS 0 rfl rfl 3 (by decide) (hts _ wd_181) (fun _ h9 => h9) rfl (by decide +kernel) rfl rfl (Nat.le_of_ble_eq_true rfl) d_Prover_search_51 (fun H_28 locs hP1 hD1 hS1 => ?_)
            clear hP hD hS
            have hS := hS1
            have hW7 : (fun w9 : va_W => va_P D classes w9 H_28 ∧ va_D A w9) [(p0, .inr (6, [.ref b0, .int s_rows, .int s_atoms, .int x9, .ref n0, .ref q1, .ref q2, .ref q3, .int (nI (u_9 0))])), (q1, .inl (ax 2, rl, .inl ro)), (q2, .inl (ax 0, 64, .inl (fun j => nI (x_14 j)))), (q3, .inl (ax 0, 64, .inl x_15)), (n0, .inr (4, [.ref n1, .ref n2, .ref n3, .int (nI z9)])), (n1, .inl (ax 1, cp, .inl fo)), (n2, .inl (ax 0, cp, .inl fl)), (n3, .inl (ax 0, cp, .inl fr)), (b0, .inr (0, [.ref b1, .ref b2, .ref b3, .int (nI (u_9 1))])), (b1, .inl (ax 0, 11, .inl x_16)), (b2, .inl (ax 0, 121, .inl x_17)), (b3, .inl (ax 0, 121, .inl (fun j => nI (x_18 j))))] := ⟨hP1, hD1⟩
            obtain ⟨hP, hD⟩ := hW7
            clear hP1 hD1 hS1
            rw [← hQe]
            obtain ⟨hP9, hD9⟩ := xw_sub2 (wc := (fun (u : Nat → Nat) (xdm : Nat → Nat) (xix : Nat → Int32) (xlv : Nat → Int32) (xmo : Nat → Int32) (xbo : Nat → Nat) (xfi : Int32) => [(p0, .inr (6, [.ref b0, .int s_rows, .int s_atoms, .int xfi, .ref n0, .ref q1, .ref q2, .ref q3, .int (nI (u 0))])), (q1, .inl (ax 2, rl, .inl ro)), (q2, .inl (ax 0, 64, .inl (fun j => nI (xdm j)))), (q3, .inl (ax 0, 64, .inl xix)), (n0, .inr (4, [.ref n1, .ref n2, .ref n3, .int (nI z9)])), (n1, .inl (ax 1, cp, .inl fo)), (n2, .inl (ax 0, cp, .inl fl)), (n3, .inl (ax 0, cp, .inl fr)), (b0, .inr (0, [.ref b1, .ref b2, .ref b3, .int (nI (u 1))])), (b1, .inl (ax 0, 11, .inl xlv)), (b2, .inl (ax 0, 121, .inl xmo)), (b3, .inl (ax 0, 121, .inl (fun j => nI (xbo j))))]) (ixn [(u_9 0), (u_9 1)]) x_14 x_15 x_16 x_17 x_18 x9) hP hD [0, 1, 2, 3, 4, 5, 6, 7, 8, 9, 10, 11] (by decide) rfl
            have hex0 : bnv x_17 x_18 ((u_9 1)) := (by assumption)
            have hsp0 : (u_9 0) ≤ 64 := (by first | assumption | omega)
            exact W.vret hx hb hr (fun t ht hW => ⟨⟨ixn [(u_9 0), (u_9 1)], rfl, hsp0, ⟨x_14, x_15, x_16, x_17, x_18, x9, hex0, by rw [ht]; exact hP9, hD9⟩⟩, hS.F ht⟩) hS.2.2 d_Prover_search_54
  · refine lv_aload_n hx hb d_Prover_search_10 rfl (lv_at hl1 0 rfl) ?_
    refine va_get (D := D) (ci := 6) (v := .int s_rows) (C := R_Prover) (T := F_Prover) (N := 9) hx hb hts i_Prover hown hK.1 hP 0 rfl rfl 1 (by decide) (hts _ wd_177) (fun _ h9 => h9) rfl d_Prover_search_11 ?_
    refine lv_goto (tgt := 18) hx hb d_Prover_search_14 (by decide) ?_
    refine lv_istore_n (lv' := [(1, .int s_rows), (0, .ref p0)]) hx hb d_Prover_search_18 rfl hl1 (by decide) rfl (fun ls hl2 => ?_)
    clear hl1; have hl1 := hl2; clear hl2
    refine lv_aload_n hx hb d_Prover_search_19 rfl (lv_at hl1 1 rfl) ?_
    refine lv_iconst (v := (-1)) hx hb d_Prover_search_20 (by decide) ?_
    refine va_put (D := D) (ci := 6) (v := .int (-1)) (ty := .int) (C := R_Prover) (T := F_Prover) (N := 9) hx hb hts i_Prover t_Prover t_Prover_ok n_Prover hown hK.1 hP hD hS 0 rfl rfl 3 (by decide) (hts _ wd_181) (fun _ h9 => h9) rfl (by decide +kernel) rfl rfl (Nat.le_of_ble_eq_true rfl) d_Prover_search_21 (fun H_29 locs hP1 hD1 hS1 => ?_)
    clear hP hD hS
    have hS := hS1
    have hW7 : (fun w9 : va_W => va_P D classes w9 H_29 ∧ va_D A w9) [(p0, .inr (6, [.ref b0, .int s_rows, .int s_atoms, .int (-1), .ref n0, .ref q1, .ref q2, .ref q3, .int (nI wt)])), (q1, .inl (ax 2, rl, .inl ro)), (q2, .inl (ax 0, 64, .inl (fun j => nI (dm j)))), (q3, .inl (ax 0, 64, .inl ix)), (n0, .inr (4, [.ref n1, .ref n2, .ref n3, .int (nI z9)])), (n1, .inl (ax 1, cp, .inl fo)), (n2, .inl (ax 0, cp, .inl fl)), (n3, .inl (ax 0, cp, .inl fr)), (b0, .inr (0, [.ref b1, .ref b2, .ref b3, .int (nI bn)])), (b1, .inl (ax 0, 11, .inl lv)), (b2, .inl (ax 0, 121, .inl mo)), (b3, .inl (ax 0, 121, .inl (fun j => nI (bo j))))] := ⟨hP1, hD1⟩
    obtain ⟨hP, hD⟩ := hW7
    clear hP1 hD1 hS1
    refine lv_iconst (v := 0) hx hb d_Prover_search_24 (by decide) ?_
    refine lv_istore_n (lv' := [(2, .int 0), (1, .int s_rows), (0, .ref p0)]) hx hb d_Prover_search_25 rfl hl1 (by decide) rfl (fun ls hl2 => ?_)
    clear hl1; have hl1 := hl2; clear hl2
    suffices key_30 : ∀ (k : Nat) (t1 wt1 bn1 : Nat) (x9 : Int32) (dm1 bo1 : Nat → Nat) (ix1 lv1 mo1 : Nat → Int32), 5000 - t1 < k → t1 ≤ 5000 → bnv mo1 bo1 bn1 → wt1 ≤ 64 → ∀ (H : Heap) (locs : List Loc) (ls : Array Slot), va_P D classes [(p0, .inr (6, [.ref b0, .int s_rows, .int s_atoms, .int (-1), .ref n0, .ref q1, .ref q2, .ref q3, .int (nI wt1)])), (q1, .inl (ax 2, rl, .inl ro)), (q2, .inl (ax 0, 64, .inl (fun j => nI (dm1 j)))), (q3, .inl (ax 0, 64, .inl ix1)), (n0, .inr (4, [.ref n1, .ref n2, .ref n3, .int (nI z9)])), (n1, .inl (ax 1, cp, .inl fo)), (n2, .inl (ax 0, cp, .inl fl)), (n3, .inl (ax 0, cp, .inl fr)), (b0, .inr (0, [.ref b1, .ref b2, .ref b3, .int (nI bn1)])), (b1, .inl (ax 0, 11, .inl lv1)), (b2, .inl (ax 0, 121, .inl mo1)), (b3, .inl (ax 0, 121, .inl (fun j => nI (bo1 j))))] H → va_D A [(p0, .inr (6, [.ref b0, .int s_rows, .int s_atoms, .int (-1), .ref n0, .ref q1, .ref q2, .ref q3, .int (nI wt1)])), (q1, .inl (ax 2, rl, .inl ro)), (q2, .inl (ax 0, 64, .inl (fun j => nI (dm1 j)))), (q3, .inl (ax 0, 64, .inl ix1)), (n0, .inr (4, [.ref n1, .ref n2, .ref n3, .int (nI z9)])), (n1, .inl (ax 1, cp, .inl fo)), (n2, .inl (ax 0, cp, .inl fl)), (n3, .inl (ax 0, cp, .inl fr)), (b0, .inr (0, [.ref b1, .ref b2, .ref b3, .int (nI bn1)])), (b1, .inl (ax 0, 11, .inl lv1)), (b2, .inl (ax 0, 121, .inl mo1)), (b3, .inl (ax 0, 121, .inl (fun j => nI (bo1 j))))] → va_S A s.heap H locs → lv_has ls 3 [(0, .ref p0), (1, .int x9), (2, .int (nI t1))] → W p l e (headSpec (xws (.code y_Prover_search b_Prover_search 3 none)) ({ frames := 70, cells := 0, slots := 0, locals := 2800 })).room s m ([.ref p0] : List Value).toArray below meth c H locs 0 0 Z9 (F0 m 26 ls []) from key_30 (5000 - 0 + 1) 0 wt bn s_rows dm bo ix lv mo (Nat.lt_succ_self _) (by first | assumption | omega) hbv (by first | assumption | omega) _ _ _ (hP) (hD) hS (lv_sub hl1 [2, 1, 0] rfl)
    intro k_31
    induction k_31 with
    | zero =>
      intro t1 wt1 bn1 x9 dm1 bo1 ix1 lv1 mo1 hk_33
      exact absurd hk_33 (Nat.not_lt_zero _)
    | succ k_31 ih_32 =>
      clear hP hD hS hl1
      intro t1 wt1 bn1 x9 dm1 bo1 ix1 lv1 mo1 hk_33 ht1 hb1 hw1 H locs ls hP hD hS hl1
      refine lv_iload_n hx hb d_Prover_search_26 rfl (lv_at hl1 2 rfl) ?_
      refine lv_sipush (v := 5000) hx hb d_Prover_search_27 (by decide) ?_
      refine lv_icmp_ge (tgt := 68) hx hb d_Prover_search_30 (by decide) (fun c_34 => ?_) (fun c_34 => ?_)
      · replace c_34 : 5000 ≤ t1 := (nI_leI (a := 5000) (b := t1) (by decide) (by first | exact Nat.lt_of_lt_of_le (by assumption) (by decide) | exact Nat.lt_of_le_of_lt (by assumption) (by decide) | omega)).mp c_34
        rw [← hQe]
        obtain ⟨hP9, hD9⟩ := xw_sub2 (wc := (fun (u : Nat → Nat) (xdm : Nat → Nat) (xix : Nat → Int32) (xlv : Nat → Int32) (xmo : Nat → Int32) (xbo : Nat → Nat) (xfi : Int32) => [(p0, .inr (6, [.ref b0, .int s_rows, .int s_atoms, .int xfi, .ref n0, .ref q1, .ref q2, .ref q3, .int (nI (u 0))])), (q1, .inl (ax 2, rl, .inl ro)), (q2, .inl (ax 0, 64, .inl (fun j => nI (xdm j)))), (q3, .inl (ax 0, 64, .inl xix)), (n0, .inr (4, [.ref n1, .ref n2, .ref n3, .int (nI z9)])), (n1, .inl (ax 1, cp, .inl fo)), (n2, .inl (ax 0, cp, .inl fl)), (n3, .inl (ax 0, cp, .inl fr)), (b0, .inr (0, [.ref b1, .ref b2, .ref b3, .int (nI (u 1))])), (b1, .inl (ax 0, 11, .inl xlv)), (b2, .inl (ax 0, 121, .inl xmo)), (b3, .inl (ax 0, 121, .inl (fun j => nI (xbo j))))]) (ixn [wt1, bn1]) dm1 ix1 lv1 mo1 bo1 (-1)) hP hD [0, 1, 2, 3, 4, 5, 6, 7, 8, 9, 10, 11] (by decide) rfl
        have hex0 : bnv mo1 bo1 (bn1) := (by assumption)
        have hsp0 : wt1 ≤ 64 := (by first | assumption | omega)
        exact W.vret hx hb hr (fun t ht hW => ⟨⟨ixn [wt1, bn1], rfl, hsp0, ⟨dm1, ix1, lv1, mo1, bo1, (-1), hex0, by rw [ht]; exact hP9, hD9⟩⟩, hS.F ht⟩) hS.2.2 d_Prover_search_68
      · replace c_34 : ¬ 5000 ≤ t1 := fun hq9 => c_34 ((nI_leI (a := 5000) (b := t1) (by decide) (by first | exact Nat.lt_of_lt_of_le (by assumption) (by decide) | exact Nat.lt_of_le_of_lt (by assumption) (by decide) | omega)).mpr hq9)
        refine lv_iload_n hx hb d_Prover_search_33 rfl (lv_at hl1 1 rfl) ?_
        refine lv_aload_n hx hb d_Prover_search_34 rfl (lv_at hl1 0 rfl) ?_
        refine va_get (D := D) (ci := 6) (v := .int s_rows) (C := R_Prover) (T := F_Prover) (N := 9) hx hb hts i_Prover hown hK.1 hP 0 rfl rfl 1 (by decide) (hts _ wd_177) (fun _ h9 => h9) rfl d_Prover_search_35 ?_
        refine lv_icmp_ge (tgt := 68) hx hb d_Prover_search_38 (by decide) (fun c_35 => ?_) (fun c_35 => ?_)
        · rw [← hQe]
          obtain ⟨hP9, hD9⟩ := xw_sub2 (wc := (fun (u : Nat → Nat) (xdm : Nat → Nat) (xix : Nat → Int32) (xlv : Nat → Int32) (xmo : Nat → Int32) (xbo : Nat → Nat) (xfi : Int32) => [(p0, .inr (6, [.ref b0, .int s_rows, .int s_atoms, .int xfi, .ref n0, .ref q1, .ref q2, .ref q3, .int (nI (u 0))])), (q1, .inl (ax 2, rl, .inl ro)), (q2, .inl (ax 0, 64, .inl (fun j => nI (xdm j)))), (q3, .inl (ax 0, 64, .inl xix)), (n0, .inr (4, [.ref n1, .ref n2, .ref n3, .int (nI z9)])), (n1, .inl (ax 1, cp, .inl fo)), (n2, .inl (ax 0, cp, .inl fl)), (n3, .inl (ax 0, cp, .inl fr)), (b0, .inr (0, [.ref b1, .ref b2, .ref b3, .int (nI (u 1))])), (b1, .inl (ax 0, 11, .inl xlv)), (b2, .inl (ax 0, 121, .inl xmo)), (b3, .inl (ax 0, 121, .inl (fun j => nI (xbo j))))]) (ixn [wt1, bn1]) dm1 ix1 lv1 mo1 bo1 (-1)) hP hD [0, 1, 2, 3, 4, 5, 6, 7, 8, 9, 10, 11] (by decide) rfl
          have hex0 : bnv mo1 bo1 (bn1) := (by assumption)
          have hsp0 : wt1 ≤ 64 := (by first | assumption | omega)
          exact W.vret hx hb hr (fun t ht hW => ⟨⟨ixn [wt1, bn1], rfl, hsp0, ⟨dm1, ix1, lv1, mo1, bo1, (-1), hex0, by rw [ht]; exact hP9, hD9⟩⟩, hS.F ht⟩) hS.2.2 d_Prover_search_68
        · refine lv_aload_n hx hb d_Prover_search_41 rfl (lv_at hl1 0 rfl) ?_
          refine lv_iload_n hx hb d_Prover_search_42 rfl (lv_at hl1 1 rfl) ?_
          obtain ⟨hPc, hDc, hFc, hCs⟩ := xw_sub3 (wc := [(p0, .inr (6, [.ref b0, .int s_rows, .int s_atoms, .int (-1), .ref n0, .ref q1, .ref q2, .ref q3, .int (nI wt1)])), (q1, .inl (ax 2, rl, .inl ro)), (q2, .inl (ax 0, 64, .inl (fun j => nI (dm1 j)))), (q3, .inl (ax 0, 64, .inl ix1)), (n0, .inr (4, [.ref n1, .ref n2, .ref n3, .int (nI z9)])), (n1, .inl (ax 1, cp, .inl fo)), (n2, .inl (ax 0, cp, .inl fl)), (n3, .inl (ax 0, cp, .inl fr)), (b0, .inr (0, [.ref b1, .ref b2, .ref b3, .int (nI bn1)])), (b1, .inl (ax 0, 11, .inl lv1)), (b2, .inl (ax 0, 121, .inl mo1)), (b3, .inl (ax 0, 121, .inl (fun j => nI (bo1 j))))]) hP hD hS hA [0, 1, 2, 3, 4, 5, 6, 7, 8, 9, 10, 11] (by decide) rfl
          have hz := xz_of hN hS
          refine va_calli (va_runV (As := [.int x9]) (rest := []) ⟨hx, hb, hml, hown, hts⟩ (c_P_fits l D ax p0 q1 q2 q3 wt1 rl b0 s_rows s_atoms (-1) ro ix1 dm1 n0 n1 n2 n3 cp z9 fo fl fr b1 b2 b3 bn1 lv1 mo1 bo1 x9 H.size (by first | assumption | omega) (by assumption) hz9 hcp hrl hrl2 hnv) (xcV (n := 1) hts wd_834 wd_6 wd_831 wd_833 ps_33 rfl rfl (by decide +kernel) ⟨Nat.le_of_ble_eq_true rfl, Nat.le_of_ble_eq_true rfl⟩) (xpV (ci := 6) (q0 := 0) (As := [.int x9]) hPc hK hz hDc rfl rfl) rfl rfl hl1.1 rfl (lv_room (Nat.le_of_ble_eq_true rfl)) d_Prover_search_43 ⟨Nat.le_of_ble_eq_true rfl, Nat.le_of_ble_eq_true rfl⟩) hS (fun q _ h => hFc q h) hFc (fun r_38 u_36 t H_37 locs ht hvm hw hB hz1 hk1 hS1 => ?_)
          try dsimp only at hw
          obtain ⟨hw, hs_39, hs_40⟩ := hw
          subst hw
          obtain ⟨x_41, x_42, x_43, x_44, x_45, hx_46, hx_47, hP1, hD1⟩ := hB
          rw [ht] at hP1
          have hjn := xw_join3 (wl := [(p0, .inr (6, [.ref b0, .int s_rows, .int s_atoms, .int (-1), .ref n0, .ref q1, .ref q2, .ref q3, .int (nI (u_36 0))])), (q1, .inl (ax 2, rl, .inl ro)), (q2, .inl (ax 0, 64, .inl (fun j => nI (x_41 j)))), (q3, .inl (ax 0, 64, .inl x_42)), (n0, .inr (4, [.ref n1, .ref n2, .ref n3, .int (nI z9)])), (n1, .inl (ax 1, cp, .inl fo)), (n2, .inl (ax 0, cp, .inl fl)), (n3, .inl (ax 0, cp, .inl fr)), (b0, .inr (0, [.ref b1, .ref b2, .ref b3, .int (nI (u_36 1))])), (b1, .inl (ax 0, 11, .inl x_43)), (b2, .inl (ax 0, 121, .inl x_44)), (b3, .inl (ax 0, 121, .inl (fun j => nI (x_45 j))))]) hP hD [0, 1, 2, 3, 4, 5, 6, 7, 8, 9, 10, 11] [] hCs (by decide) (by decide) hk1 hFc hP1 hD1 rfl
          clear hP1 hD1
          clear hPc hDc hFc hCs hz hz1 hk1 ht hvm
          clear hP hD hS
          have hS := hS1
          obtain ⟨hP, hD⟩ := hjn
          clear hS1
          refine lv_if_eq (tgt := 55) hx hb d_Prover_search_46 (by decide) (fun c_48 => ?_) (fun c_48 => ?_)
          · replace c_48 : u_36 2 = 0 := (nI_eq (a := u_36 2) (b := 0) (by first | exact Nat.lt_of_lt_of_le (by assumption) (by decide) | exact Nat.lt_of_le_of_lt (by assumption) (by decide) | omega) (by decide)).mp c_48
            refine lv_iload_n hx hb d_Prover_search_55 rfl (lv_at hl1 1 rfl) ?_
            refine lv_aload_n hx hb d_Prover_search_56 rfl (lv_at hl1 0 rfl) ?_
            obtain ⟨hPc, hDc, hFc, hCs⟩ := xw_sub3 (wc := [(p0, .inr (6, [.ref b0, .int s_rows, .int s_atoms, .int (-1), .ref n0, .ref q1, .ref q2, .ref q3, .int (nI (u_36 0))])), (q1, .inl (ax 2, rl, .inl ro)), (q2, .inl (ax 0, 64, .inl (fun j => nI (x_41 j)))), (q3, .inl (ax 0, 64, .inl x_42))]) hP hD hS hA [0, 1, 2, 3] (by decide) rfl
            have hz := xz_of hN hS
            refine va_calli (va_runV (As := []) (rest := [.int x9]) ⟨hx, hb, hml, hown, hts⟩ (c_P_rowsAlike l D ax p0 q1 q2 q3 (u_36 0) rl b0 s_rows s_atoms (-1) ro x_42 x_41 n0 H_37.size (by first | assumption | omega) (fun i hi => by have h9 := hx_46 i hi; omega) (by first | assumption | omega)) (xcV (n := 0) hts wd_873 wd_6 wd_870 wd_872 ps_40 rfl rfl (by decide +kernel) ⟨Nat.le_of_ble_eq_true rfl, Nat.le_of_ble_eq_true rfl⟩) (xpV (ci := 6) (q0 := 0) (As := []) hPc hK hz hDc rfl rfl) rfl rfl hl1.1 rfl (lv_room (Nat.le_of_ble_eq_true rfl)) d_Prover_search_57 ⟨Nat.le_of_ble_eq_true rfl, Nat.le_of_ble_eq_true rfl⟩) hS (fun q _ h => hFc q h) hFc (fun r_51 u_49 t H_50 locs ht hvm hw hB hz1 hk1 hS1 => ?_)
            try dsimp only at hw
            obtain ⟨hw, hs_52⟩ := hw
            subst hw
            obtain ⟨hP1, hD1⟩ := hB
            rw [ht] at hP1
            have hjn := xw_join3 (wl := [(n0, .inr (4, [.ref n1, .ref n2, .ref n3, .int (nI z9)])), (n1, .inl (ax 1, cp, .inl fo)), (n2, .inl (ax 0, cp, .inl fl)), (n3, .inl (ax 0, cp, .inl fr)), (b0, .inr (0, [.ref b1, .ref b2, .ref b3, .int (nI (u_36 1))])), (b1, .inl (ax 0, 11, .inl x_43)), (b2, .inl (ax 0, 121, .inl x_44)), (b3, .inl (ax 0, 121, .inl (fun j => nI (x_45 j)))), (p0, .inr (6, [.ref b0, .int s_rows, .int s_atoms, .int (-1), .ref n0, .ref q1, .ref q2, .ref q3, .int (nI (u_36 0))])), (q1, .inl (ax 2, rl, .inl ro)), (q2, .inl (ax 0, 64, .inl (fun j => nI (x_41 j)))), (q3, .inl (ax 0, 64, .inl x_42))]) hP hD [0, 1, 2, 3] [4, 5, 6, 7, 8, 9, 10, 11] hCs (by decide) (by decide) hk1 hFc hP1 hD1 rfl
            clear hP1 hD1
            clear hPc hDc hFc hCs hz hz1 hk1 ht hvm
            clear hP hD hS
            have hS := hS1
            obtain ⟨hP, hD⟩ := hjn
            clear hS1
            obtain ⟨vd_53, evd_53⟩ : ∃ y : Int32, y = nI (u_49 0) := ⟨_, rfl⟩
            refine W.eq (g2 := F0 m 60 ls [.int vd_53, .int x9]) (by rw [evd_53]) ?_
            refine lv_iadd hx hb d_Prover_search_60 ?_
            refine lv_topi (fun z_54 ez_54 => ?_)
            refine lv_istore_n (lv' := [(1, .int z_54), (0, .ref p0), (2, .int (nI t1))]) hx hb d_Prover_search_61 rfl hl1 (by decide) rfl (fun ls hl2 => ?_)
            clear hl1; have hl1 := hl2; clear hl2
            refine lv_iinc (v := nI (t1 + 1)) (lv' := [(2, .int (nI (t1 + 1))), (1, .int z_54), (0, .ref p0)]) hx hb d_Prover_search_62 hl1 (k := 2) rfl (nI_add t1 1) (by decide) rfl (fun ls hl2 => ?_)
            clear hl1; have hl1 := hl2; clear hl2
            refine lv_goto (tgt := 26) hx hb d_Prover_search_65 (by decide) ?_
            exact ih_32 (t1 + 1) (u_36 0) (u_36 1) z_54 x_41 x_45 x_42 x_43 x_44 (by first | assumption | omega) (by first | assumption | omega) (by assumption) (by first | assumption | omega) _ _ _ (hP.sub [8, 9, 10, 11, 0, 1, 2, 3, 4, 5, 6, 7] rfl) (hD.sub [8, 9, 10, 11, 0, 1, 2, 3, 4, 5, 6, 7] (by decide) rfl) hS (lv_sub hl1 [2, 1, 0] rfl)
          · replace c_48 : ¬ u_36 2 = 0 := fun hq9 => c_48 ((nI_eq (a := u_36 2) (b := 0) (by first | exact Nat.lt_of_lt_of_le (by assumption) (by decide) | exact Nat.lt_of_le_of_lt (by assumption) (by decide) | omega) (by decide)).mpr hq9)
            refine lv_aload_n hx hb d_Prover_search_49 rfl (lv_at hl1 0 rfl) ?_
            refine lv_iload_n hx hb d_Prover_search_50 rfl (lv_at hl1 1 rfl) ?_
            refine va_put (D := D) (ci := 6) (v := .int x9) (ty := .int) (C := R_Prover) (T := F_Prover) (N := 9) hx hb hts i_Prover t_Prover t_Prover_ok n_Prover hown hK.1 hP hD hS 0 rfl rfl 3 (by decide) (hts _ wd_181) (fun _ h9 => h9) rfl (by decide +kernel) rfl rfl (Nat.le_of_ble_eq_true rfl) d_Prover_search_51 (fun H_55 locs hP1 hD1 hS1 => ?_)
            clear hP hD hS
            have hS := hS1
            have hW7 : (fun w9 : va_W => va_P D classes w9 H_55 ∧ va_D A w9) [(p0, .inr (6, [.ref b0, .int s_rows, .int s_atoms, .int x9, .ref n0, .ref q1, .ref q2, .ref q3, .int (nI (u_36 0))])), (q1, .inl (ax 2, rl, .inl ro)), (q2, .inl (ax 0, 64, .inl (fun j => nI (x_41 j)))), (q3, .inl (ax 0, 64, .inl x_42)), (n0, .inr (4, [.ref n1, .ref n2, .ref n3, .int (nI z9)])), (n1, .inl (ax 1, cp, .inl fo)), (n2, .inl (ax 0, cp, .inl fl)), (n3, .inl (ax 0, cp, .inl fr)), (b0, .inr (0, [.ref b1, .ref b2, .ref b3, .int (nI (u_36 1))])), (b1, .inl (ax 0, 11, .inl x_43)), (b2, .inl (ax 0, 121, .inl x_44)), (b3, .inl (ax 0, 121, .inl (fun j => nI (x_45 j))))] := ⟨hP1, hD1⟩
            obtain ⟨hP, hD⟩ := hW7
            clear hP1 hD1 hS1
            rw [← hQe]
            obtain ⟨hP9, hD9⟩ := xw_sub2 (wc := (fun (u : Nat → Nat) (xdm : Nat → Nat) (xix : Nat → Int32) (xlv : Nat → Int32) (xmo : Nat → Int32) (xbo : Nat → Nat) (xfi : Int32) => [(p0, .inr (6, [.ref b0, .int s_rows, .int s_atoms, .int xfi, .ref n0, .ref q1, .ref q2, .ref q3, .int (nI (u 0))])), (q1, .inl (ax 2, rl, .inl ro)), (q2, .inl (ax 0, 64, .inl (fun j => nI (xdm j)))), (q3, .inl (ax 0, 64, .inl xix)), (n0, .inr (4, [.ref n1, .ref n2, .ref n3, .int (nI z9)])), (n1, .inl (ax 1, cp, .inl fo)), (n2, .inl (ax 0, cp, .inl fl)), (n3, .inl (ax 0, cp, .inl fr)), (b0, .inr (0, [.ref b1, .ref b2, .ref b3, .int (nI (u 1))])), (b1, .inl (ax 0, 11, .inl xlv)), (b2, .inl (ax 0, 121, .inl xmo)), (b3, .inl (ax 0, 121, .inl (fun j => nI (xbo j))))]) (ixn [(u_36 0), (u_36 1)]) x_41 x_42 x_43 x_44 x_45 x9) hP hD [0, 1, 2, 3, 4, 5, 6, 7, 8, 9, 10, 11] (by decide) rfl
            have hex0 : bnv x_44 x_45 ((u_36 1)) := (by assumption)
            have hsp0 : (u_36 0) ≤ 64 := (by first | assumption | omega)
            exact W.vret hx hb hr (fun t ht hW => ⟨⟨ixn [(u_36 0), (u_36 1)], rfl, hsp0, ⟨x_41, x_42, x_43, x_44, x_45, x9, hex0, by rw [ht]; exact hP9, hD9⟩⟩, hS.F ht⟩) hS.2.2 d_Prover_search_54
