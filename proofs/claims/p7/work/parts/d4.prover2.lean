theorem ps_33 : Cond.selects "TripleDesk$Prover" ⟨"TripleDesk$Prover", "fits", "(I)Z"⟩ ⟨"TripleDesk$Prover", "fits", "(I)Z"⟩ ∈ lw_gd := ps_in (q := (⟨"TripleDesk$Prover", "fits", "(I)Z"⟩, 9)) (i := 33) (by decide +kernel)
theorem ps_35 : Cond.selects "TripleDesk$Prover" ⟨"TripleDesk$Prover", "comparison", "(I)I"⟩ ⟨"TripleDesk$Prover", "comparison", "(I)I"⟩ ∈ lw_gd := ps_in (q := (⟨"TripleDesk$Prover", "comparison", "(I)I"⟩, 9)) (i := 35) (by decide +kernel)
theorem ps_39 : Cond.selects "TripleDesk$Prover" ⟨"TripleDesk$Prover", "divide", "(III)V"⟩ ⟨"TripleDesk$Prover", "divide", "(III)V"⟩ ∈ lw_gd := ps_in (q := (⟨"TripleDesk$Prover", "divide", "(III)V"⟩, 9)) (i := 39) (by decide +kernel)
theorem ps_40 : Cond.selects "TripleDesk$Prover" ⟨"TripleDesk$Prover", "rowsAlike", "()I"⟩ ⟨"TripleDesk$Prover", "rowsAlike", "()I"⟩ ∈ lw_gd := ps_in (q := (⟨"TripleDesk$Prover", "rowsAlike", "()I"⟩, 9)) (i := 40) (by decide +kernel)
theorem wd_119 : ((Jvm.Cond.fieldLink "TripleDesk$Prover" (33 : Nat) "TripleDesk$Nodes" "size" "I")) ∈ lw_gd := lw_gd_in (i := 119) (by decide +kernel) rfl
theorem wd_175 : ((Jvm.Cond.fieldLink "TripleDesk$Prover" (12 : Nat) "TripleDesk$Prover" "bounds" "LTripleDesk$Bounds;")) ∈ lw_gd := lw_gd_in (i := 175) (by decide +kernel) rfl
theorem wd_177 : ((Jvm.Cond.fieldLink "TripleDesk$Prover" (54 : Nat) "TripleDesk$Prover" "rows" "I")) ∈ lw_gd := lw_gd_in (i := 177) (by decide +kernel) rfl
theorem wd_179 : ((Jvm.Cond.fieldLink "TripleDesk$Prover" (43 : Nat) "TripleDesk$Prover" "atoms" "I")) ∈ lw_gd := lw_gd_in (i := 179) (by decide +kernel) rfl
theorem wd_181 : ((Jvm.Cond.fieldLink "TripleDesk$Prover" (73 : Nat) "TripleDesk$Prover" "first" "I")) ∈ lw_gd := lw_gd_in (i := 181) (by decide +kernel) rfl
theorem wd_770 : ((Jvm.Cond.instanceMethod ({ cls := "TripleDesk$Nodes", name := "root", desc := "()I" } : Jvm.MethodName))) ∈ lw_gd := lw_gd_in (i := 770) (by decide +kernel) rfl
theorem wd_771 : ((Jvm.Cond.selects "TripleDesk$Nodes" ({ cls := "TripleDesk$Nodes", name := "root", desc := "()I" } : Jvm.MethodName) ({ cls := "TripleDesk$Nodes", name := "root", desc := "()I" } : Jvm.MethodName))) ∈ lw_gd := lw_gd_in (i := 771) (by decide +kernel) rfl
theorem wd_772 : ((Jvm.Cond.code ({ cls := "TripleDesk$Nodes", name := "root", desc := "()I" } : Jvm.MethodName) prog_6_method_3_code (1 : Nat) (Option.some Jvm.ClassFile.FieldType.int))) ∈ lw_gd := lw_gd_in (i := 772) (by decide +kernel) rfl
theorem wd_822 : ((Jvm.Cond.methodLink "TripleDesk$Prover" (63 : Nat) ({ cls := "TripleDesk$Prover", name := "limited", desc := "(I)S" } : Jvm.MethodName))) ∈ lw_gd := lw_gd_in (i := 822) (by decide +kernel) rfl
theorem wd_823 : ((Jvm.Cond.static ({ cls := "TripleDesk$Prover", name := "limited", desc := "(I)S" } : Jvm.MethodName))) ∈ lw_gd := lw_gd_in (i := 823) (by decide +kernel) rfl
theorem wd_824 : ((Jvm.Cond.code ({ cls := "TripleDesk$Prover", name := "limited", desc := "(I)S" } : Jvm.MethodName) prog_8_method_4_code (1 : Nat) (Option.some Jvm.ClassFile.FieldType.short))) ∈ lw_gd := lw_gd_in (i := 824) (by decide +kernel) rfl
theorem wd_826 : ((Jvm.Cond.methodLink "TripleDesk$Prover" (50 : Nat) ({ cls := "TripleDesk$Nodes", name := "root", desc := "()I" } : Jvm.MethodName))) ∈ lw_gd := lw_gd_in (i := 826) (by decide +kernel) rfl
theorem wd_831 : ((Jvm.Cond.methodLink "TripleDesk$Prover" (76 : Nat) ({ cls := "TripleDesk$Prover", name := "fits", desc := "(I)Z" } : Jvm.MethodName))) ∈ lw_gd := lw_gd_in (i := 831) (by decide +kernel) rfl
theorem wd_833 : ((Jvm.Cond.instanceMethod ({ cls := "TripleDesk$Prover", name := "fits", desc := "(I)Z" } : Jvm.MethodName))) ∈ lw_gd := lw_gd_in (i := 833) (by decide +kernel) rfl
theorem wd_834 : ((Jvm.Cond.code ({ cls := "TripleDesk$Prover", name := "fits", desc := "(I)Z" } : Jvm.MethodName) prog_8_method_6_code (5 : Nat) (Option.some Jvm.ClassFile.FieldType.boolean))) ∈ lw_gd := lw_gd_in (i := 834) (by decide +kernel) rfl
theorem wd_835 : ((Jvm.Cond.methodLink "TripleDesk$Prover" (83 : Nat) ({ cls := "TripleDesk$Bounds", name := "clear", desc := "()V" } : Jvm.MethodName))) ∈ lw_gd := lw_gd_in (i := 835) (by decide +kernel) rfl
theorem wd_836 : ((Jvm.Cond.instanceMethod ({ cls := "TripleDesk$Bounds", name := "clear", desc := "()V" } : Jvm.MethodName))) ∈ lw_gd := lw_gd_in (i := 836) (by decide +kernel) rfl
theorem wd_837 : ((Jvm.Cond.selects "TripleDesk$Bounds" ({ cls := "TripleDesk$Bounds", name := "clear", desc := "()V" } : Jvm.MethodName) ({ cls := "TripleDesk$Bounds", name := "clear", desc := "()V" } : Jvm.MethodName))) ∈ lw_gd := lw_gd_in (i := 837) (by decide +kernel) rfl
theorem wd_838 : ((Jvm.Cond.code ({ cls := "TripleDesk$Bounds", name := "clear", desc := "()V" } : Jvm.MethodName) prog_2_method_2_code (2 : Nat) (Option.none : Option Jvm.ClassFile.FieldType))) ∈ lw_gd := lw_gd_in (i := 838) (by decide +kernel) rfl
theorem wd_843 : ((Jvm.Cond.methodLink "TripleDesk$Prover" (93 : Nat) ({ cls := "TripleDesk$Prover", name := "comparison", desc := "(I)I" } : Jvm.MethodName))) ∈ lw_gd := lw_gd_in (i := 843) (by decide +kernel) rfl
theorem wd_845 : ((Jvm.Cond.instanceMethod ({ cls := "TripleDesk$Prover", name := "comparison", desc := "(I)I" } : Jvm.MethodName))) ∈ lw_gd := lw_gd_in (i := 845) (by decide +kernel) rfl
theorem wd_846 : ((Jvm.Cond.code ({ cls := "TripleDesk$Prover", name := "comparison", desc := "(I)I" } : Jvm.MethodName) prog_8_method_9_code (3 : Nat) (Option.some Jvm.ClassFile.FieldType.int))) ∈ lw_gd := lw_gd_in (i := 846) (by decide +kernel) rfl
theorem wd_847 : ((Jvm.Cond.methodLink "TripleDesk$Prover" (97 : Nat) ({ cls := "TripleDesk$Bounds", name := "take", desc := "(III)Z" } : Jvm.MethodName))) ∈ lw_gd := lw_gd_in (i := 847) (by decide +kernel) rfl
theorem wd_848 : ((Jvm.Cond.instanceMethod ({ cls := "TripleDesk$Bounds", name := "take", desc := "(III)Z" } : Jvm.MethodName))) ∈ lw_gd := lw_gd_in (i := 848) (by decide +kernel) rfl
theorem wd_849 : ((Jvm.Cond.selects "TripleDesk$Bounds" ({ cls := "TripleDesk$Bounds", name := "take", desc := "(III)Z" } : Jvm.MethodName) ({ cls := "TripleDesk$Bounds", name := "take", desc := "(III)Z" } : Jvm.MethodName))) ∈ lw_gd := lw_gd_in (i := 849) (by decide +kernel) rfl
theorem wd_850 : ((Jvm.Cond.code ({ cls := "TripleDesk$Bounds", name := "take", desc := "(III)Z" } : Jvm.MethodName) prog_2_method_4_code (7 : Nat) (Option.some Jvm.ClassFile.FieldType.boolean))) ∈ lw_gd := lw_gd_in (i := 850) (by decide +kernel) rfl
theorem wd_863 : ((Jvm.Cond.methodLink "TripleDesk$Prover" (101 : Nat) ({ cls := "TripleDesk$Prover", name := "divide", desc := "(III)V" } : Jvm.MethodName))) ∈ lw_gd := lw_gd_in (i := 863) (by decide +kernel) rfl
theorem wd_865 : ((Jvm.Cond.instanceMethod ({ cls := "TripleDesk$Prover", name := "divide", desc := "(III)V" } : Jvm.MethodName))) ∈ lw_gd := lw_gd_in (i := 865) (by decide +kernel) rfl
theorem wd_866 : ((Jvm.Cond.code ({ cls := "TripleDesk$Prover", name := "divide", desc := "(III)V" } : Jvm.MethodName) prog_8_method_10_code (9 : Nat) (Option.none : Option Jvm.ClassFile.FieldType))) ∈ lw_gd := lw_gd_in (i := 866) (by decide +kernel) rfl
theorem wd_870 : ((Jvm.Cond.methodLink "TripleDesk$Prover" (80 : Nat) ({ cls := "TripleDesk$Prover", name := "rowsAlike", desc := "()I" } : Jvm.MethodName))) ∈ lw_gd := lw_gd_in (i := 870) (by decide +kernel) rfl
theorem wd_872 : ((Jvm.Cond.instanceMethod ({ cls := "TripleDesk$Prover", name := "rowsAlike", desc := "()I" } : Jvm.MethodName))) ∈ lw_gd := lw_gd_in (i := 872) (by decide +kernel) rfl
theorem wd_873 : ((Jvm.Cond.code ({ cls := "TripleDesk$Prover", name := "rowsAlike", desc := "()I" } : Jvm.MethodName) prog_8_method_7_code (3 : Nat) (Option.some Jvm.ClassFile.FieldType.int))) ∈ lw_gd := lw_gd_in (i := 873) (by decide +kernel) rfl
abbrev b_Prover_countNode : ByteArray := prog_8_method_3_code
def y_Prover_countNode : MethodName := ⟨R_Prover, "countNode", "(I)V"⟩
theorem d_Prover_countNode_0 : decode b_Prover_countNode 0 = .ok (.aload_n 0, 1) := by decide +kernel
theorem d_Prover_countNode_1 : decode b_Prover_countNode 1 = .ok (.getfield 29, 3) := by decide +kernel
theorem d_Prover_countNode_4 : decode b_Prover_countNode 4 = .ok (.getfield 39, 3) := by decide +kernel
theorem d_Prover_countNode_7 : decode b_Prover_countNode 7 = .ok (.iload_n 1, 1) := by decide +kernel
theorem d_Prover_countNode_8 : decode b_Prover_countNode 8 = .ok (.baload, 1) := by decide +kernel
theorem d_Prover_countNode_9 : decode b_Prover_countNode 9 = .ok (.istore_n 2, 1) := by decide +kernel
theorem d_Prover_countNode_10 : decode b_Prover_countNode 10 = .ok (.iconst 2, 1) := by decide +kernel
theorem d_Prover_countNode_11 : decode b_Prover_countNode 11 = .ok (.iload_n 1, 1) := by decide +kernel
theorem d_Prover_countNode_12 : decode b_Prover_countNode 12 = .ok (.imul, 1) := by decide +kernel
theorem d_Prover_countNode_13 : decode b_Prover_countNode 13 = .ok (.istore_n 3, 1) := by decide +kernel
theorem d_Prover_countNode_14 : decode b_Prover_countNode 14 = .ok (.iload_n 3, 1) := by decide +kernel
theorem d_Prover_countNode_15 : decode b_Prover_countNode 15 = .ok (.iconst 1, 1) := by decide +kernel
theorem d_Prover_countNode_16 : decode b_Prover_countNode 16 = .ok (.iadd, 1) := by decide +kernel
theorem d_Prover_countNode_17 : decode b_Prover_countNode 17 = .ok (.istore 4, 2) := by decide +kernel
theorem d_Prover_countNode_19 : decode b_Prover_countNode 19 = .ok (.iload_n 2, 1) := by decide +kernel
theorem d_Prover_countNode_20 : decode b_Prover_countNode 20 = .ok (.bipush 6, 2) := by decide +kernel
theorem d_Prover_countNode_22 : decode b_Prover_countNode 22 = .ok (.if_icmp .ge 49, 3) := by decide +kernel
theorem d_Prover_countNode_25 : decode b_Prover_countNode 25 = .ok (.aload_n 0, 1) := by decide +kernel
theorem d_Prover_countNode_26 : decode b_Prover_countNode 26 = .ok (.dup, 1) := by decide +kernel
theorem d_Prover_countNode_27 : decode b_Prover_countNode 27 = .ok (.getfield 43, 3) := by decide +kernel
theorem d_Prover_countNode_30 : decode b_Prover_countNode 30 = .ok (.iconst 1, 1) := by decide +kernel
theorem d_Prover_countNode_31 : decode b_Prover_countNode 31 = .ok (.iadd, 1) := by decide +kernel
theorem d_Prover_countNode_32 : decode b_Prover_countNode 32 = .ok (.putfield 43, 3) := by decide +kernel
theorem d_Prover_countNode_35 : decode b_Prover_countNode 35 = .ok (.aload_n 0, 1) := by decide +kernel
theorem d_Prover_countNode_36 : decode b_Prover_countNode 36 = .ok (.getfield 18, 3) := by decide +kernel
theorem d_Prover_countNode_39 : decode b_Prover_countNode 39 = .ok (.iload 4, 2) := by decide +kernel
theorem d_Prover_countNode_41 : decode b_Prover_countNode 41 = .ok (.iload_n 2, 1) := by decide +kernel
theorem d_Prover_countNode_42 : decode b_Prover_countNode 42 = .ok (.iconst 5, 1) := by decide +kernel
theorem d_Prover_countNode_43 : decode b_Prover_countNode 43 = .ok (.if_icmp .ne 7, 3) := by decide +kernel
theorem d_Prover_countNode_46 : decode b_Prover_countNode 46 = .ok (.iconst 2, 1) := by decide +kernel
theorem d_Prover_countNode_47 : decode b_Prover_countNode 47 = .ok (.goto 4, 3) := by decide +kernel
theorem d_Prover_countNode_50 : decode b_Prover_countNode 50 = .ok (.iconst 1, 1) := by decide +kernel
theorem d_Prover_countNode_51 : decode b_Prover_countNode 51 = .ok (.i2s, 1) := by decide +kernel
theorem d_Prover_countNode_52 : decode b_Prover_countNode 52 = .ok (.sastore, 1) := by decide +kernel
theorem d_Prover_countNode_53 : decode b_Prover_countNode 53 = .ok (.aload_n 0, 1) := by decide +kernel
theorem d_Prover_countNode_54 : decode b_Prover_countNode 54 = .ok (.getfield 18, 3) := by decide +kernel
theorem d_Prover_countNode_57 : decode b_Prover_countNode 57 = .ok (.iload_n 3, 1) := by decide +kernel
theorem d_Prover_countNode_58 : decode b_Prover_countNode 58 = .ok (.iload_n 2, 1) := by decide +kernel
theorem d_Prover_countNode_59 : decode b_Prover_countNode 59 = .ok (.iconst 4, 1) := by decide +kernel
theorem d_Prover_countNode_60 : decode b_Prover_countNode 60 = .ok (.if_icmp .ne 7, 3) := by decide +kernel
theorem d_Prover_countNode_63 : decode b_Prover_countNode 63 = .ok (.iconst 2, 1) := by decide +kernel
theorem d_Prover_countNode_64 : decode b_Prover_countNode 64 = .ok (.goto 4, 3) := by decide +kernel
theorem d_Prover_countNode_67 : decode b_Prover_countNode 67 = .ok (.iconst 1, 1) := by decide +kernel
theorem d_Prover_countNode_68 : decode b_Prover_countNode 68 = .ok (.i2s, 1) := by decide +kernel
theorem d_Prover_countNode_69 : decode b_Prover_countNode 69 = .ok (.sastore, 1) := by decide +kernel
theorem d_Prover_countNode_70 : decode b_Prover_countNode 70 = .ok (.return_, 1) := by decide +kernel
theorem d_Prover_countNode_71 : decode b_Prover_countNode 71 = .ok (.iconst 2, 1) := by decide +kernel
theorem d_Prover_countNode_72 : decode b_Prover_countNode 72 = .ok (.aload_n 0, 1) := by decide +kernel
theorem d_Prover_countNode_73 : decode b_Prover_countNode 73 = .ok (.getfield 29, 3) := by decide +kernel
theorem d_Prover_countNode_76 : decode b_Prover_countNode 76 = .ok (.getfield 57, 3) := by decide +kernel
theorem d_Prover_countNode_79 : decode b_Prover_countNode 79 = .ok (.iload_n 1, 1) := by decide +kernel
theorem d_Prover_countNode_80 : decode b_Prover_countNode 80 = .ok (.iaload, 1) := by decide +kernel
theorem d_Prover_countNode_81 : decode b_Prover_countNode 81 = .ok (.imul, 1) := by decide +kernel
theorem d_Prover_countNode_82 : decode b_Prover_countNode 82 = .ok (.istore 5, 2) := by decide +kernel
theorem d_Prover_countNode_84 : decode b_Prover_countNode 84 = .ok (.iload_n 2, 1) := by decide +kernel
theorem d_Prover_countNode_85 : decode b_Prover_countNode 85 = .ok (.bipush 6, 2) := by decide +kernel
theorem d_Prover_countNode_87 : decode b_Prover_countNode 87 = .ok (.if_icmp .ne 33, 3) := by decide +kernel
theorem d_Prover_countNode_90 : decode b_Prover_countNode 90 = .ok (.aload_n 0, 1) := by decide +kernel
theorem d_Prover_countNode_91 : decode b_Prover_countNode 91 = .ok (.getfield 18, 3) := by decide +kernel
theorem d_Prover_countNode_94 : decode b_Prover_countNode 94 = .ok (.iload 4, 2) := by decide +kernel
theorem d_Prover_countNode_96 : decode b_Prover_countNode 96 = .ok (.aload_n 0, 1) := by decide +kernel
theorem d_Prover_countNode_97 : decode b_Prover_countNode 97 = .ok (.getfield 18, 3) := by decide +kernel
theorem d_Prover_countNode_100 : decode b_Prover_countNode 100 = .ok (.iload 5, 2) := by decide +kernel
theorem d_Prover_countNode_102 : decode b_Prover_countNode 102 = .ok (.saload, 1) := by decide +kernel
theorem d_Prover_countNode_103 : decode b_Prover_countNode 103 = .ok (.sastore, 1) := by decide +kernel
theorem d_Prover_countNode_104 : decode b_Prover_countNode 104 = .ok (.aload_n 0, 1) := by decide +kernel
theorem d_Prover_countNode_105 : decode b_Prover_countNode 105 = .ok (.getfield 18, 3) := by decide +kernel
theorem d_Prover_countNode_108 : decode b_Prover_countNode 108 = .ok (.iload_n 3, 1) := by decide +kernel
theorem d_Prover_countNode_109 : decode b_Prover_countNode 109 = .ok (.aload_n 0, 1) := by decide +kernel
theorem d_Prover_countNode_110 : decode b_Prover_countNode 110 = .ok (.getfield 18, 3) := by decide +kernel
theorem d_Prover_countNode_113 : decode b_Prover_countNode 113 = .ok (.iload 5, 2) := by decide +kernel
theorem d_Prover_countNode_115 : decode b_Prover_countNode 115 = .ok (.iconst 1, 1) := by decide +kernel
theorem d_Prover_countNode_116 : decode b_Prover_countNode 116 = .ok (.iadd, 1) := by decide +kernel
theorem d_Prover_countNode_117 : decode b_Prover_countNode 117 = .ok (.saload, 1) := by decide +kernel
theorem d_Prover_countNode_118 : decode b_Prover_countNode 118 = .ok (.sastore, 1) := by decide +kernel
theorem d_Prover_countNode_119 : decode b_Prover_countNode 119 = .ok (.return_, 1) := by decide +kernel
theorem d_Prover_countNode_120 : decode b_Prover_countNode 120 = .ok (.iconst 2, 1) := by decide +kernel
theorem d_Prover_countNode_121 : decode b_Prover_countNode 121 = .ok (.aload_n 0, 1) := by decide +kernel
theorem d_Prover_countNode_122 : decode b_Prover_countNode 122 = .ok (.getfield 29, 3) := by decide +kernel
theorem d_Prover_countNode_125 : decode b_Prover_countNode 125 = .ok (.getfield 60, 3) := by decide +kernel
theorem d_Prover_countNode_128 : decode b_Prover_countNode 128 = .ok (.iload_n 1, 1) := by decide +kernel
theorem d_Prover_countNode_129 : decode b_Prover_countNode 129 = .ok (.iaload, 1) := by decide +kernel
theorem d_Prover_countNode_130 : decode b_Prover_countNode 130 = .ok (.imul, 1) := by decide +kernel
theorem d_Prover_countNode_131 : decode b_Prover_countNode 131 = .ok (.istore 6, 2) := by decide +kernel
theorem d_Prover_countNode_133 : decode b_Prover_countNode 133 = .ok (.iload_n 2, 1) := by decide +kernel
theorem d_Prover_countNode_134 : decode b_Prover_countNode 134 = .ok (.bipush 7, 2) := by decide +kernel
theorem d_Prover_countNode_136 : decode b_Prover_countNode 136 = .ok (.if_icmp .ne 7, 3) := by decide +kernel
theorem d_Prover_countNode_139 : decode b_Prover_countNode 139 = .ok (.iconst 1, 1) := by decide +kernel
theorem d_Prover_countNode_140 : decode b_Prover_countNode 140 = .ok (.goto 4, 3) := by decide +kernel
theorem d_Prover_countNode_143 : decode b_Prover_countNode 143 = .ok (.iconst 0, 1) := by decide +kernel
theorem d_Prover_countNode_144 : decode b_Prover_countNode 144 = .ok (.istore 7, 2) := by decide +kernel
theorem d_Prover_countNode_146 : decode b_Prover_countNode 146 = .ok (.iconst 1, 1) := by decide +kernel
theorem d_Prover_countNode_147 : decode b_Prover_countNode 147 = .ok (.iload 7, 2) := by decide +kernel
theorem d_Prover_countNode_149 : decode b_Prover_countNode 149 = .ok (.isub, 1) := by decide +kernel
theorem d_Prover_countNode_150 : decode b_Prover_countNode 150 = .ok (.istore 8, 2) := by decide +kernel
theorem d_Prover_countNode_152 : decode b_Prover_countNode 152 = .ok (.aload_n 0, 1) := by decide +kernel
theorem d_Prover_countNode_153 : decode b_Prover_countNode 153 = .ok (.getfield 18, 3) := by decide +kernel
theorem d_Prover_countNode_156 : decode b_Prover_countNode 156 = .ok (.iload_n 3, 1) := by decide +kernel
theorem d_Prover_countNode_157 : decode b_Prover_countNode 157 = .ok (.iload 7, 2) := by decide +kernel
theorem d_Prover_countNode_159 : decode b_Prover_countNode 159 = .ok (.iadd, 1) := by decide +kernel
theorem d_Prover_countNode_160 : decode b_Prover_countNode 160 = .ok (.aload_n 0, 1) := by decide +kernel
theorem d_Prover_countNode_161 : decode b_Prover_countNode 161 = .ok (.getfield 18, 3) := by decide +kernel
theorem d_Prover_countNode_164 : decode b_Prover_countNode 164 = .ok (.iload 5, 2) := by decide +kernel
theorem d_Prover_countNode_166 : decode b_Prover_countNode 166 = .ok (.iload 7, 2) := by decide +kernel
theorem d_Prover_countNode_168 : decode b_Prover_countNode 168 = .ok (.iadd, 1) := by decide +kernel
theorem d_Prover_countNode_169 : decode b_Prover_countNode 169 = .ok (.saload, 1) := by decide +kernel
theorem d_Prover_countNode_170 : decode b_Prover_countNode 170 = .ok (.aload_n 0, 1) := by decide +kernel
theorem d_Prover_countNode_171 : decode b_Prover_countNode 171 = .ok (.getfield 18, 3) := by decide +kernel
theorem d_Prover_countNode_174 : decode b_Prover_countNode 174 = .ok (.iload 6, 2) := by decide +kernel
theorem d_Prover_countNode_176 : decode b_Prover_countNode 176 = .ok (.iload 7, 2) := by decide +kernel
theorem d_Prover_countNode_178 : decode b_Prover_countNode 178 = .ok (.iadd, 1) := by decide +kernel
theorem d_Prover_countNode_179 : decode b_Prover_countNode 179 = .ok (.saload, 1) := by decide +kernel
theorem d_Prover_countNode_180 : decode b_Prover_countNode 180 = .ok (.imul, 1) := by decide +kernel
theorem d_Prover_countNode_181 : decode b_Prover_countNode 181 = .ok (.invokestatic 63, 3) := by decide +kernel
theorem d_Prover_countNode_184 : decode b_Prover_countNode 184 = .ok (.sastore, 1) := by decide +kernel
theorem d_Prover_countNode_185 : decode b_Prover_countNode 185 = .ok (.aload_n 0, 1) := by decide +kernel
theorem d_Prover_countNode_186 : decode b_Prover_countNode 186 = .ok (.getfield 18, 3) := by decide +kernel
theorem d_Prover_countNode_189 : decode b_Prover_countNode 189 = .ok (.iload_n 3, 1) := by decide +kernel
theorem d_Prover_countNode_190 : decode b_Prover_countNode 190 = .ok (.iload 8, 2) := by decide +kernel
theorem d_Prover_countNode_192 : decode b_Prover_countNode 192 = .ok (.iadd, 1) := by decide +kernel
theorem d_Prover_countNode_193 : decode b_Prover_countNode 193 = .ok (.aload_n 0, 1) := by decide +kernel
theorem d_Prover_countNode_194 : decode b_Prover_countNode 194 = .ok (.getfield 18, 3) := by decide +kernel
theorem d_Prover_countNode_197 : decode b_Prover_countNode 197 = .ok (.iload 5, 2) := by decide +kernel
theorem d_Prover_countNode_199 : decode b_Prover_countNode 199 = .ok (.iload 8, 2) := by decide +kernel
theorem d_Prover_countNode_201 : decode b_Prover_countNode 201 = .ok (.iadd, 1) := by decide +kernel
theorem d_Prover_countNode_202 : decode b_Prover_countNode 202 = .ok (.saload, 1) := by decide +kernel
theorem d_Prover_countNode_203 : decode b_Prover_countNode 203 = .ok (.aload_n 0, 1) := by decide +kernel
theorem d_Prover_countNode_204 : decode b_Prover_countNode 204 = .ok (.getfield 18, 3) := by decide +kernel
theorem d_Prover_countNode_207 : decode b_Prover_countNode 207 = .ok (.iload 6, 2) := by decide +kernel
theorem d_Prover_countNode_209 : decode b_Prover_countNode 209 = .ok (.iload 8, 2) := by decide +kernel
theorem d_Prover_countNode_211 : decode b_Prover_countNode 211 = .ok (.iadd, 1) := by decide +kernel
theorem d_Prover_countNode_212 : decode b_Prover_countNode 212 = .ok (.saload, 1) := by decide +kernel
theorem d_Prover_countNode_213 : decode b_Prover_countNode 213 = .ok (.iadd, 1) := by decide +kernel
theorem d_Prover_countNode_214 : decode b_Prover_countNode 214 = .ok (.invokestatic 63, 3) := by decide +kernel
theorem d_Prover_countNode_217 : decode b_Prover_countNode 217 = .ok (.sastore, 1) := by decide +kernel
theorem d_Prover_countNode_218 : decode b_Prover_countNode 218 = .ok (.return_, 1) := by decide +kernel
set_option maxHeartbeats 40000000 in
set_option maxRecDepth 100000 in
theorem c_P_countNode (l : Launch) (D : va_G) (ax : Nat → ClassId) (p0 q1 q2 q3 wt rl b0 : Nat) (s_rows s_atoms s_first : Int32) (ro ix : Nat → Int32) (dm : Nat → Nat) (n0 n1 n2 n3 cp z9 : Nat) (fo fl fr : Nat → Int32) (nd an : Nat) (ls9 : List sgT) (sz : Nat) (hnd : nd < z9) (hz9 : z9 ≤ cp) (hcp : cp ≤ 100000) (hrl : 2 * z9 ≤ rl) (hrl2 : rl ≤ 300000) (hnv : ndv fo fl fr z9) (hnl : ndl fo fl fr ls9) (hll : ls9.length = z9) (hnb9 : nbl 21483 ls9) (hro1 : roQ8 ls9 nd ro) (han : an = atn8 (olf ls9) nd) : Met l y_Prover_countNode (xws (.code y_Prover_countNode b_Prover_countNode 9 none)) ({ frames := 20, cells := 0, slots := 0, locals := 800 }) (va_Pc [.ref p0, .int (nI nd)] (xo D ax [(p0, .inr (6, [.ref b0, .int s_rows, .int (nI an), .int s_first, .ref n0, .ref q1, .ref q2, .ref q3, .int (nI wt)])), (q1, .inl (ax 2, rl, .inl ro)), (q2, .inl (ax 0, 64, .inl (fun j => nI (dm j)))), (q3, .inl (ax 0, 64, .inl ix)), (n0, .inr (4, [.ref n1, .ref n2, .ref n3, .int (nI z9)])), (n1, .inl (ax 1, cp, .inl fo)), (n2, .inl (ax 0, cp, .inl fl)), (n3, .inl (ax 0, cp, .inl fr))] sz)) ((va_Qv (fun (u : Nat → Nat) => (u 0 = atn8 (olf ls9) (nd + 1))) (fun (u : Nat → Nat) (t9 : State) => ∃ xro : Nat → Int32, (roQ8 ls9 (nd + 1) xro) ∧ va_P D classes [(p0, .inr (6, [.ref b0, .int s_rows, .int (nI (u 0)), .int s_first, .ref n0, .ref q1, .ref q2, .ref q3, .int (nI wt)])), (q1, .inl (ax 2, rl, .inl xro)), (q2, .inl (ax 0, 64, .inl (fun j => nI (dm j)))), (q3, .inl (ax 0, 64, .inl ix)), (n0, .inr (4, [.ref n1, .ref n2, .ref n3, .int (nI z9)])), (n1, .inl (ax 1, cp, .inl fo)), (n2, .inl (ax 0, cp, .inl fl)), (n3, .inl (ax 0, cp, .inl fr))] t9.heap ∧ va_D (va_A [(p0, .inr (6, [.ref b0, .int s_rows, .int (nI an), .int s_first, .ref n0, .ref q1, .ref q2, .ref q3, .int (nI wt)])), (q1, .inl (ax 2, rl, .inl ro)), (q2, .inl (ax 0, 64, .inl (fun j => nI (dm j)))), (q3, .inl (ax 0, 64, .inl ix)), (n0, .inr (4, [.ref n1, .ref n2, .ref n3, .int (nI z9)])), (n1, .inl (ax 1, cp, .inl fo)), (n2, .inl (ax 0, cp, .inl fl)), (n3, .inl (ax 0, cp, .inl fr))] sz) [(p0, .inr (6, [.ref b0, .int s_rows, .int (nI (u 0)), .int s_first, .ref n0, .ref q1, .ref q2, .ref q3, .int (nI wt)])), (q1, .inl (ax 2, rl, .inl xro)), (q2, .inl (ax 0, 64, .inl (fun j => nI (dm j)))), (q3, .inl (ax 0, 64, .inl ix)), (n0, .inr (4, [.ref n1, .ref n2, .ref n3, .int (nI z9)])), (n1, .inl (ax 1, cp, .inl fo)), (n2, .inl (ax 0, cp, .inl fl)), (n3, .inl (ax 0, cp, .inl fr))]) (va_A [(p0, .inr (6, [.ref b0, .int s_rows, .int (nI an), .int s_first, .ref n0, .ref q1, .ref q2, .ref q3, .int (nI wt)])), (q1, .inl (ax 2, rl, .inl ro)), (q2, .inl (ax 0, 64, .inl (fun j => nI (dm j)))), (q3, .inl (ax 0, 64, .inl ix)), (n0, .inr (4, [.ref n1, .ref n2, .ref n3, .int (nI z9)])), (n1, .inl (ax 1, cp, .inl fo)), (n2, .inl (ax 0, cp, .inl fl)), (n3, .inl (ax 0, cp, .inl fr))] sz))) 0 0 (va_A [(p0, .inr (6, [.ref b0, .int s_rows, .int (nI an), .int s_first, .ref n0, .ref q1, .ref q2, .ref q3, .int (nI wt)])), (q1, .inl (ax 2, rl, .inl ro)), (q2, .inl (ax 0, 64, .inl (fun j => nI (dm j)))), (q3, .inl (ax 0, 64, .inl ix)), (n0, .inr (4, [.ref n1, .ref n2, .ref n3, .int (nI z9)])), (n1, .inl (ax 1, cp, .inl fo)), (n2, .inl (ax 0, cp, .inl fl)), (n3, .inl (ax 0, cp, .inl fr))] sz) := by
  refine Met.ofW (cc := b_Prover_countNode) (maxL := 9) (ret := none) (by decide) rfl ?_
  intro p e s m args below meth c s₁ B hml hv
  obtain ⟨rfl, hsz, hP, hK, hD0⟩ := hv
  have hx := B.exec
  have hb := B.bytes
  have hr := B.returns
  have hts := xw_hts B.pre
  have hown : s.vm.findClass R_Prover = some m.cls := findClass_of_methodNamed B.named
  have hlocks := B.notSynchronized
  subst hsz
  have hD := hD0.self (sz := s.heap.size)
  have hN := xz_entry hP
  generalize hAe : va_A [(p0, .inr (6, [.ref b0, .int s_rows, .int (nI an), .int s_first, .ref n0, .ref q1, .ref q2, .ref q3, .int (nI wt)])), (q1, .inl (ax 2, rl, .inl ro)), (q2, .inl (ax 0, 64, .inl (fun j => nI (dm j)))), (q3, .inl (ax 0, 64, .inl ix)), (n0, .inr (4, [.ref n1, .ref n2, .ref n3, .int (nI z9)])), (n1, .inl (ax 1, cp, .inl fo)), (n2, .inl (ax 0, cp, .inl fl)), (n3, .inl (ax 0, cp, .inl fr))] s.heap.size = A at hD hN ⊢
  have hA : ∀ q : Nat, s.heap.size ≤ q → A q := fun q h => by rw [← hAe]; exact Or.inr h
  have hS : va_S A s.heap s.heap [] := va_S.rf
  have hl0 := lv_entry ([.ref p0, .int (nI nd)]) (n := 9) (Nat.le_of_ble_eq_true rfl)
  rw [lg_entry_eq]
  generalize (lg_sl ([.ref p0, .int (nI nd)]) ++ List.replicate (9 - (lg_sl ([.ref p0, .int (nI nd)])).length) Slot.unset).toArray = ls at hl0 ⊢
  have hl1 : lv_has ls 9 [(0, .ref p0), (1, .int (nI nd))] := hl0
  refine xw_gen (fun Z9 hQe => ?_)
  obtain ⟨o9, ho1, ho2, hnp⟩ := nd_p (hnv nd hnd)
  have hop9 := opn9 hnl hnb9 (by first | assumption | omega) (by first | assumption | omega) ho2
  refine lv_aload_n hx hb d_Prover_countNode_0 rfl (lv_at hl1 0 rfl) ?_
  refine va_get (D := D) (ci := 6) (v := .ref n0) (C := R_Prover) (T := F_Prover) (N := 9) hx hb hts i_Prover hown hK.1 hP 0 rfl rfl 4 (by decide) (hts _ wd_183) (fun _ h9 => h9) rfl d_Prover_countNode_1 ?_
  refine va_get (D := D) (ci := 4) (v := .ref n1) (C := R_Nodes) (T := F_Nodes) (N := 4) hx hb hts i_Nodes hown hK.1 hP 4 rfl rfl 0 (by decide) (hts _ wd_104) (fun _ h9 => h9) rfl d_Prover_countNode_4 ?_
  refine lv_iload_n hx hb d_Prover_countNode_7 rfl (lv_at hl1 1 rfl) ?_
  refine va_bald hx hb hK.1 hP 5 1 rfl rfl (vp_in_nI (by first | assumption | omega) (by first | exact Nat.lt_of_lt_of_le (by assumption) (by decide) | exact Nat.lt_of_le_of_lt (by assumption) (by decide) | omega)) d_Prover_countNode_8 ?_
  refine W.eq (g2 := F0 m 9 ls [.int (fo nd)]) (by rw [nI_clamp (by first | exact Nat.lt_of_lt_of_le (by assumption) (by decide) | exact Nat.lt_of_le_of_lt (by assumption) (by decide) | omega)]) ?_
  refine W.eq (g2 := F0 m 9 ls [.int (nI o9)]) (by rw [ho2]) ?_
  refine lv_istore_n (lv' := [(2, .int (nI o9)), (0, .ref p0), (1, .int (nI nd))]) hx hb d_Prover_countNode_9 rfl hl1 (by decide) rfl (fun ls hl2 => ?_)
  clear hl1; have hl1 := hl2; clear hl2
  refine lv_iconst (v := 2) hx hb d_Prover_countNode_10 (by decide) ?_
  refine lv_iload_n hx hb d_Prover_countNode_11 rfl (lv_at hl1 2 rfl) ?_
  refine lv_imul hx hb d_Prover_countNode_12 ?_
  refine lv_topi (fun z_1 ez_1 => ?_)
  have ez_1 : z_1 = nI (2 * nd) := ez_1.trans (pk_mul 2 nd)
  subst ez_1
  refine lv_istore_n (lv' := [(3, .int (nI (2 * nd))), (2, .int (nI o9)), (0, .ref p0), (1, .int (nI nd))]) hx hb d_Prover_countNode_13 rfl hl1 (by decide) rfl (fun ls hl2 => ?_)
  clear hl1; have hl1 := hl2; clear hl2
  refine lv_iload_n hx hb d_Prover_countNode_14 rfl (lv_at hl1 0 rfl) ?_
  refine lv_iconst (v := 1) hx hb d_Prover_countNode_15 (by decide) ?_
  refine lv_iadd hx hb d_Prover_countNode_16 ?_
  refine lv_topi (fun z_2 ez_2 => ?_)
  have ez_2 : z_2 = nI (2 * nd + 1) := ez_2.trans (nI_add (2 * nd) 1)
  subst ez_2
  refine lv_istore (lv' := [(4, .int (nI (2 * nd + 1))), (3, .int (nI (2 * nd))), (2, .int (nI o9)), (0, .ref p0), (1, .int (nI nd))]) hx hb d_Prover_countNode_17 hl1 (by decide) rfl (fun ls hl2 => ?_)
  clear hl1; have hl1 := hl2; clear hl2
  refine lv_iload_n hx hb d_Prover_countNode_19 rfl (lv_at hl1 2 rfl) ?_
  refine lv_bipush (v := 6) hx hb d_Prover_countNode_20 (by decide) ?_
  refine lv_icmp_ge (tgt := 71) hx hb d_Prover_countNode_22 (by decide) (fun c_3 => ?_) (fun c_3 => ?_)
  · replace c_3 : 6 ≤ o9 := (nI_leI (a := 6) (b := o9) (by decide) (by first | exact Nat.lt_of_lt_of_le (by assumption) (by decide) | exact Nat.lt_of_le_of_lt (by assumption) (by decide) | omega)).mp c_3
    obtain ⟨a9, ha1, ha2⟩ := hnp.2.1 (by first | assumption | omega)
    refine lv_iconst (v := 2) hx hb d_Prover_countNode_71 (by decide) ?_
    refine lv_aload_n hx hb d_Prover_countNode_72 rfl (lv_at hl1 3 rfl) ?_
    refine va_get (D := D) (ci := 6) (v := .ref n0) (C := R_Prover) (T := F_Prover) (N := 9) hx hb hts i_Prover hown hK.1 hP 0 rfl rfl 4 (by decide) (hts _ wd_183) (fun _ h9 => h9) rfl d_Prover_countNode_73 ?_
    refine va_get (D := D) (ci := 4) (v := .ref n2) (C := R_Nodes) (T := F_Nodes) (N := 4) hx hb hts i_Nodes hown hK.1 hP 4 rfl rfl 1 (by decide) (hts _ wd_110) (fun _ h9 => h9) rfl d_Prover_countNode_76 ?_
    refine lv_iload_n hx hb d_Prover_countNode_79 rfl (lv_at hl1 4 rfl) ?_
    refine va_iald hx hb hK.1 hP 6 0 rfl rfl (vp_in_nI (by first | assumption | omega) (by first | exact Nat.lt_of_lt_of_le (by assumption) (by decide) | exact Nat.lt_of_le_of_lt (by assumption) (by decide) | omega)) d_Prover_countNode_80 ?_
    refine W.eq (g2 := F0 m 81 ls [.int (fl nd), .int 2]) (by rw [nI_clamp (by first | exact Nat.lt_of_lt_of_le (by assumption) (by decide) | exact Nat.lt_of_le_of_lt (by assumption) (by decide) | omega)]) ?_
    refine W.eq (g2 := F0 m 81 ls [.int (nI a9), .int 2]) (by rw [ha2]) ?_
    refine lv_imul hx hb d_Prover_countNode_81 ?_
    refine lv_topi (fun z_4 ez_4 => ?_)
    have ez_4 : z_4 = nI (2 * a9) := ez_4.trans (pk_mul 2 a9)
    subst ez_4
    refine lv_istore (lv' := [(5, .int (nI (2 * a9))), (4, .int (nI (2 * nd + 1))), (3, .int (nI (2 * nd))), (2, .int (nI o9)), (0, .ref p0), (1, .int (nI nd))]) hx hb d_Prover_countNode_82 hl1 (by decide) rfl (fun ls hl2 => ?_)
    clear hl1; have hl1 := hl2; clear hl2
    refine lv_iload_n hx hb d_Prover_countNode_84 rfl (lv_at hl1 3 rfl) ?_
    refine lv_bipush (v := 6) hx hb d_Prover_countNode_85 (by decide) ?_
    refine lv_icmp_ne (tgt := 120) hx hb d_Prover_countNode_87 (by decide) (fun c_5 => ?_) (fun c_5 => ?_)
    · replace c_5 : ¬ o9 = 6 := fun hq9 => c_5 ((nI_eq (a := o9) (b := 6) (by first | exact Nat.lt_of_lt_of_le (by assumption) (by decide) | exact Nat.lt_of_le_of_lt (by assumption) (by decide) | omega) (by decide)).mpr hq9)
      obtain ⟨c9, hc1, hc2⟩ := hnp.2.2 (by first | assumption | omega)
      obtain ⟨ea9, ec9⟩ := pr_b hnl (by first | assumption | omega) hop9 (by first | assumption | omega) ha1 hc1 (by first | assumption | omega) ha2 hc2
      refine lv_iconst (v := 2) hx hb d_Prover_countNode_120 (by decide) ?_
      refine lv_aload_n hx hb d_Prover_countNode_121 rfl (lv_at hl1 4 rfl) ?_
      refine va_get (D := D) (ci := 6) (v := .ref n0) (C := R_Prover) (T := F_Prover) (N := 9) hx hb hts i_Prover hown hK.1 hP 0 rfl rfl 4 (by decide) (hts _ wd_183) (fun _ h9 => h9) rfl d_Prover_countNode_122 ?_
      refine va_get (D := D) (ci := 4) (v := .ref n3) (C := R_Nodes) (T := F_Nodes) (N := 4) hx hb hts i_Nodes hown hK.1 hP 4 rfl rfl 2 (by decide) (hts _ wd_115) (fun _ h9 => h9) rfl d_Prover_countNode_125 ?_
      refine lv_iload_n hx hb d_Prover_countNode_128 rfl (lv_at hl1 5 rfl) ?_
      refine va_iald hx hb hK.1 hP 7 0 rfl rfl (vp_in_nI (by first | assumption | omega) (by first | exact Nat.lt_of_lt_of_le (by assumption) (by decide) | exact Nat.lt_of_le_of_lt (by assumption) (by decide) | omega)) d_Prover_countNode_129 ?_
      refine W.eq (g2 := F0 m 130 ls [.int (fr nd), .int 2]) (by rw [nI_clamp (by first | exact Nat.lt_of_lt_of_le (by assumption) (by decide) | exact Nat.lt_of_le_of_lt (by assumption) (by decide) | omega)]) ?_
      refine W.eq (g2 := F0 m 130 ls [.int (nI c9), .int 2]) (by rw [hc2]) ?_
      refine lv_imul hx hb d_Prover_countNode_130 ?_
      refine lv_topi (fun z_6 ez_6 => ?_)
      have ez_6 : z_6 = nI (2 * c9) := ez_6.trans (pk_mul 2 c9)
      subst ez_6
      refine lv_istore (lv' := [(6, .int (nI (2 * c9))), (5, .int (nI (2 * a9))), (4, .int (nI (2 * nd + 1))), (3, .int (nI (2 * nd))), (2, .int (nI o9)), (0, .ref p0), (1, .int (nI nd))]) hx hb d_Prover_countNode_131 hl1 (by decide) rfl (fun ls hl2 => ?_)
      clear hl1; have hl1 := hl2; clear hl2
      refine lv_iload_n hx hb d_Prover_countNode_133 rfl (lv_at hl1 4 rfl) ?_
      refine lv_bipush (v := 7) hx hb d_Prover_countNode_134 (by decide) ?_
      refine lv_icmp_ne (tgt := 143) hx hb d_Prover_countNode_136 (by decide) (fun c_7 => ?_) (fun c_7 => ?_)
      · replace c_7 : ¬ o9 = 7 := fun hq9 => c_7 ((nI_eq (a := o9) (b := 7) (by first | exact Nat.lt_of_lt_of_le (by assumption) (by decide) | exact Nat.lt_of_le_of_lt (by assumption) (by decide) | omega) (by decide)).mpr hq9)
        refine lv_iconst (v := 0) hx hb d_Prover_countNode_143 (by decide) ?_
        refine lv_istore (lv' := [(7, .int 0), (6, .int (nI (2 * c9))), (5, .int (nI (2 * a9))), (4, .int (nI (2 * nd + 1))), (3, .int (nI (2 * nd))), (2, .int (nI o9)), (0, .ref p0), (1, .int (nI nd))]) hx hb d_Prover_countNode_144 hl1 (by decide) rfl (fun ls hl2 => ?_)
        clear hl1; have hl1 := hl2; clear hl2
        refine lv_iconst (v := 1) hx hb d_Prover_countNode_146 (by decide) ?_
        refine lv_iload hx hb d_Prover_countNode_147 (lv_at hl1 0 rfl) ?_
        refine lv_isub hx hb d_Prover_countNode_149 ?_
        refine lv_topi (fun z_8 ez_8 => ?_)
        have ez_8 : z_8 = 1 := ez_8.trans (by first | rfl | decide)
        subst ez_8
        refine lv_istore (lv' := [(8, .int 1), (7, .int 0), (6, .int (nI (2 * c9))), (5, .int (nI (2 * a9))), (4, .int (nI (2 * nd + 1))), (3, .int (nI (2 * nd))), (2, .int (nI o9)), (0, .ref p0), (1, .int (nI nd))]) hx hb d_Prover_countNode_150 hl1 (by decide) rfl (fun ls hl2 => ?_)
        clear hl1; have hl1 := hl2; clear hl2
        refine lv_aload_n hx hb d_Prover_countNode_152 rfl (lv_at hl1 7 rfl) ?_
        refine va_get (D := D) (ci := 6) (v := .ref q1) (C := R_Prover) (T := F_Prover) (N := 9) hx hb hts i_Prover hown hK.1 hP 0 rfl rfl 5 (by decide) (hts _ wd_184) (fun _ h9 => h9) rfl d_Prover_countNode_153 ?_
        refine lv_iload_n hx hb d_Prover_countNode_156 rfl (lv_at hl1 5 rfl) ?_
        refine lv_iload hx hb d_Prover_countNode_157 (lv_at hl1 1 rfl) ?_
        refine lv_iadd hx hb d_Prover_countNode_159 ?_
        refine lv_topi (fun z_9 ez_9 => ?_)
        have ez_9 : z_9 = nI (2 * nd + 0) := ez_9.trans (nI_add (2 * nd) 0)
        subst ez_9
        refine lv_aload_n hx hb d_Prover_countNode_160 rfl (lv_at hl1 7 rfl) ?_
        refine va_get (D := D) (ci := 6) (v := .ref q1) (C := R_Prover) (T := F_Prover) (N := 9) hx hb hts i_Prover hown hK.1 hP 0 rfl rfl 5 (by decide) (hts _ wd_184) (fun _ h9 => h9) rfl d_Prover_countNode_161 ?_
        refine lv_iload hx hb d_Prover_countNode_164 (lv_at hl1 3 rfl) ?_
        refine lv_iload hx hb d_Prover_countNode_166 (lv_at hl1 1 rfl) ?_
        refine lv_iadd hx hb d_Prover_countNode_168 ?_
        refine lv_topi (fun z_10 ez_10 => ?_)
        have ez_10 : z_10 = nI (2 * a9 + 0) := ez_10.trans (nI_add (2 * a9) 0)
        subst ez_10
        refine va_sald hx hb hK.1 hP 1 2 rfl rfl (vp_in_nI (by first | assumption | omega) (by first | exact Nat.lt_of_lt_of_le (by assumption) (by decide) | exact Nat.lt_of_le_of_lt (by assumption) (by decide) | omega)) d_Prover_countNode_169 ?_
        refine W.eq (g2 := F0 m 170 ls [.int (ro (2 * a9 + 0)), .int (nI (2 * nd + 0)), .ref q1]) (by rw [nI_clamp (by first | exact Nat.lt_of_lt_of_le (by assumption) (by decide) | exact Nat.lt_of_le_of_lt (by assumption) (by decide) | omega)]) ?_
        have hro9 : ro (2 * a9 + 0) = nI (rwo (olf ls9) (2 * a9 + 0)) := by first | exact hro1 _ (by first | assumption | omega) | (rw [upd_ne (by first | assumption | omega)]; exact hro1 _ (by first | assumption | omega))
        have hrp_11 := rwo_pos (o := olf ls9) (d := 2 * a9 + 0)
        have hrp_11q := rwo_le (o := olf ls9) (d := 2 * a9 + 0)
        refine W.eq (g2 := F0 m 170 ls [.int (nI (rwo (olf ls9) (2 * a9 + 0))), .int (nI (2 * nd + 0)), .ref q1]) (by rw [hro9]) ?_
        clear hro9
        refine lv_aload_n hx hb d_Prover_countNode_170 rfl (lv_at hl1 7 rfl) ?_
        refine va_get (D := D) (ci := 6) (v := .ref q1) (C := R_Prover) (T := F_Prover) (N := 9) hx hb hts i_Prover hown hK.1 hP 0 rfl rfl 5 (by decide) (hts _ wd_184) (fun _ h9 => h9) rfl d_Prover_countNode_171 ?_
        refine lv_iload hx hb d_Prover_countNode_174 (lv_at hl1 2 rfl) ?_
        refine lv_iload hx hb d_Prover_countNode_176 (lv_at hl1 1 rfl) ?_
        refine lv_iadd hx hb d_Prover_countNode_178 ?_
        refine lv_topi (fun z_12 ez_12 => ?_)
        have ez_12 : z_12 = nI (2 * c9 + 0) := ez_12.trans (nI_add (2 * c9) 0)
        subst ez_12
        refine va_sald hx hb hK.1 hP 1 2 rfl rfl (vp_in_nI (by first | assumption | omega) (by first | exact Nat.lt_of_lt_of_le (by assumption) (by decide) | exact Nat.lt_of_le_of_lt (by assumption) (by decide) | omega)) d_Prover_countNode_179 ?_
        refine W.eq (g2 := F0 m 180 ls [.int (ro (2 * c9 + 0)), .int (nI (rwo (olf ls9) (2 * a9 + 0))), .int (nI (2 * nd + 0)), .ref q1]) (by rw [nI_clamp (by first | exact Nat.lt_of_lt_of_le (by assumption) (by decide) | exact Nat.lt_of_le_of_lt (by assumption) (by decide) | omega)]) ?_
        have hro9 : ro (2 * c9 + 0) = nI (rwo (olf ls9) (2 * c9 + 0)) := by first | exact hro1 _ (by first | assumption | omega) | (rw [upd_ne (by first | assumption | omega)]; exact hro1 _ (by first | assumption | omega))
        have hrp_13 := rwo_pos (o := olf ls9) (d := 2 * c9 + 0)
        have hrp_13q := rwo_le (o := olf ls9) (d := 2 * c9 + 0)
        refine W.eq (g2 := F0 m 180 ls [.int (nI (rwo (olf ls9) (2 * c9 + 0))), .int (nI (rwo (olf ls9) (2 * a9 + 0))), .int (nI (2 * nd + 0)), .ref q1]) (by rw [hro9]) ?_
        clear hro9
        refine lv_imul hx hb d_Prover_countNode_180 ?_
        refine lv_topi (fun z_14 ez_14 => ?_)
        have ez_14 : z_14 = nI ((rwo (olf ls9) (2 * a9 + 0)) * (rwo (olf ls9) (2 * c9 + 0))) := ez_14.trans (pk_mul (rwo (olf ls9) (2 * a9 + 0)) (rwo (olf ls9) (2 * c9 + 0)))
        subst ez_14
        obtain ⟨hPc, hDc, hFc, hCs⟩ := xw_sub3 (wc := []) hP hD hS hA [] (by decide) rfl
        have hz := xz_of hN hS
        refine va_calli (va_runS (As := [.int (nI ((rwo (olf ls9) (2 * a9 + 0)) * (rwo (olf ls9) (2 * c9 + 0))))]) (rest := [.int (nI (2 * nd + 0)), .ref q1]) ⟨hx, hb, hml, hown, hts⟩ (c_P_limited l D ax ((rwo (olf ls9) (2 * a9 + 0)) * (rwo (olf ls9) (2 * c9 + 0))) s.heap.size (by first | omega | exact Nat.lt_of_le_of_lt (show _ ≤ 5001 * 5001 from Nat.mul_le_mul (by assumption) (by assumption)) (by decide))) (xcS (n := 1) hts wd_824 wd_6 wd_822 wd_823 rfl rfl (by decide +kernel) ⟨Nat.le_of_ble_eq_true rfl, Nat.le_of_ble_eq_true rfl⟩) (xpS (As := [.int (nI ((rwo (olf ls9) (2 * a9 + 0)) * (rwo (olf ls9) (2 * c9 + 0))))]) hPc hK hz hDc) rfl rfl hl1.1 rfl (lv_room (Nat.le_of_ble_eq_true rfl)) d_Prover_countNode_181 ⟨Nat.le_of_ble_eq_true rfl, Nat.le_of_ble_eq_true rfl⟩) hS (fun q _ h => hFc q h) hFc (fun r_17 u_15 t H_16 locs ht hvm hw hB hz1 hk1 hS1 => ?_)
        try dsimp only at hw
        obtain ⟨hw, hs_18, hs_19⟩ := hw
        subst hw
        obtain ⟨hP1, hD1⟩ := hB
        rw [ht] at hP1
        have hjn := xw_join3 (wl := [(p0, .inr (6, [.ref b0, .int s_rows, .int (nI an), .int s_first, .ref n0, .ref q1, .ref q2, .ref q3, .int (nI wt)])), (q1, .inl (ax 2, rl, .inl ro)), (q2, .inl (ax 0, 64, .inl (fun j => nI (dm j)))), (q3, .inl (ax 0, 64, .inl ix)), (n0, .inr (4, [.ref n1, .ref n2, .ref n3, .int (nI z9)])), (n1, .inl (ax 1, cp, .inl fo)), (n2, .inl (ax 0, cp, .inl fl)), (n3, .inl (ax 0, cp, .inl fr))]) hP hD [] [0, 1, 2, 3, 4, 5, 6, 7] hCs (by decide) (by decide) hk1 hFc hP1 hD1 rfl
        clear hP1 hD1
        clear hPc hDc hFc hCs hz hz1 hk1 ht hvm
        clear hP hD hS
        have hS := hS1
        obtain ⟨hP, hD⟩ := hjn
        clear hS1
        refine va_sast hx hb hK.1 hP hD hS 1 2 rfl rfl (vp_in_nI (by first | assumption | omega) (by first | exact Nat.lt_of_lt_of_le (by assumption) (by decide) | exact Nat.lt_of_le_of_lt (by assumption) (by decide) | omega)) d_Prover_countNode_184 (fun H_20 locs hP1 hD1 hS1 => ?_)
        rw [nI_clamp (by first | exact Nat.lt_of_lt_of_le (by assumption) (by decide) | exact Nat.lt_of_le_of_lt (by assumption) (by decide) | omega)] at hP1 hD1
        clear hP hD hS
        have hS := hS1
        have hW7 : (fun w9 : va_W => va_P D classes w9 H_20 ∧ va_D A w9) [(p0, .inr (6, [.ref b0, .int s_rows, .int (nI an), .int s_first, .ref n0, .ref q1, .ref q2, .ref q3, .int (nI wt)])), (q1, .inl (ax 2, rl, .inl (upd ro (2 * nd + 0) (vp_nar .short (nI (u_15 0)))))), (q2, .inl (ax 0, 64, .inl (fun j => nI (dm j)))), (q3, .inl (ax 0, 64, .inl ix)), (n0, .inr (4, [.ref n1, .ref n2, .ref n3, .int (nI z9)])), (n1, .inl (ax 1, cp, .inl fo)), (n2, .inl (ax 0, cp, .inl fl)), (n3, .inl (ax 0, cp, .inl fr))] := ⟨hP1, hD1⟩
        obtain ⟨hP, hD⟩ := hW7
        clear hP1 hD1 hS1
        refine lv_aload_n hx hb d_Prover_countNode_185 rfl (lv_at hl1 7 rfl) ?_
        refine va_get (D := D) (ci := 6) (v := .ref q1) (C := R_Prover) (T := F_Prover) (N := 9) hx hb hts i_Prover hown hK.1 hP 0 rfl rfl 5 (by decide) (hts _ wd_184) (fun _ h9 => h9) rfl d_Prover_countNode_186 ?_
        refine lv_iload_n hx hb d_Prover_countNode_189 rfl (lv_at hl1 5 rfl) ?_
        refine lv_iload hx hb d_Prover_countNode_190 (lv_at hl1 0 rfl) ?_
        refine lv_iadd hx hb d_Prover_countNode_192 ?_
        refine lv_topi (fun z_21 ez_21 => ?_)
        have ez_21 : z_21 = nI (2 * nd + 1) := ez_21.trans (nI_add (2 * nd) 1)
        subst ez_21
        refine lv_aload_n hx hb d_Prover_countNode_193 rfl (lv_at hl1 7 rfl) ?_
        refine va_get (D := D) (ci := 6) (v := .ref q1) (C := R_Prover) (T := F_Prover) (N := 9) hx hb hts i_Prover hown hK.1 hP 0 rfl rfl 5 (by decide) (hts _ wd_184) (fun _ h9 => h9) rfl d_Prover_countNode_194 ?_
        refine lv_iload hx hb d_Prover_countNode_197 (lv_at hl1 3 rfl) ?_
        refine lv_iload hx hb d_Prover_countNode_199 (lv_at hl1 0 rfl) ?_
        refine lv_iadd hx hb d_Prover_countNode_201 ?_
        refine lv_topi (fun z_22 ez_22 => ?_)
        have ez_22 : z_22 = nI (2 * a9 + 1) := ez_22.trans (nI_add (2 * a9) 1)
        subst ez_22
        refine va_sald hx hb hK.1 hP 1 2 rfl rfl (vp_in_nI (by first | assumption | omega) (by first | exact Nat.lt_of_lt_of_le (by assumption) (by decide) | exact Nat.lt_of_le_of_lt (by assumption) (by decide) | omega)) d_Prover_countNode_202 ?_
        refine W.eq (g2 := F0 m 203 ls [.int ((upd ro (2 * nd + 0) (vp_nar .short (nI (u_15 0)))) (2 * a9 + 1)), .int (nI (2 * nd + 1)), .ref q1]) (by rw [nI_clamp (by first | exact Nat.lt_of_lt_of_le (by assumption) (by decide) | exact Nat.lt_of_le_of_lt (by assumption) (by decide) | omega)]) ?_
        have hro9 : (upd ro (2 * nd + 0) (vp_nar .short (nI (u_15 0)))) (2 * a9 + 1) = nI (rwo (olf ls9) (2 * a9 + 1)) := by first | exact hro1 _ (by first | assumption | omega) | (rw [upd_ne (by first | assumption | omega)]; exact hro1 _ (by first | assumption | omega))
        have hrp_23 := rwo_pos (o := olf ls9) (d := 2 * a9 + 1)
        have hrp_23q := rwo_le (o := olf ls9) (d := 2 * a9 + 1)
        refine W.eq (g2 := F0 m 203 ls [.int (nI (rwo (olf ls9) (2 * a9 + 1))), .int (nI (2 * nd + 1)), .ref q1]) (by rw [hro9]) ?_
        clear hro9
        refine lv_aload_n hx hb d_Prover_countNode_203 rfl (lv_at hl1 7 rfl) ?_
        refine va_get (D := D) (ci := 6) (v := .ref q1) (C := R_Prover) (T := F_Prover) (N := 9) hx hb hts i_Prover hown hK.1 hP 0 rfl rfl 5 (by decide) (hts _ wd_184) (fun _ h9 => h9) rfl d_Prover_countNode_204 ?_
        refine lv_iload hx hb d_Prover_countNode_207 (lv_at hl1 2 rfl) ?_
        refine lv_iload hx hb d_Prover_countNode_209 (lv_at hl1 0 rfl) ?_
        refine lv_iadd hx hb d_Prover_countNode_211 ?_
        refine lv_topi (fun z_24 ez_24 => ?_)
        have ez_24 : z_24 = nI (2 * c9 + 1) := ez_24.trans (nI_add (2 * c9) 1)
        subst ez_24
        refine va_sald hx hb hK.1 hP 1 2 rfl rfl (vp_in_nI (by first | assumption | omega) (by first | exact Nat.lt_of_lt_of_le (by assumption) (by decide) | exact Nat.lt_of_le_of_lt (by assumption) (by decide) | omega)) d_Prover_countNode_212 ?_
        refine W.eq (g2 := F0 m 213 ls [.int ((upd ro (2 * nd + 0) (vp_nar .short (nI (u_15 0)))) (2 * c9 + 1)), .int (nI (rwo (olf ls9) (2 * a9 + 1))), .int (nI (2 * nd + 1)), .ref q1]) (by rw [nI_clamp (by first | exact Nat.lt_of_lt_of_le (by assumption) (by decide) | exact Nat.lt_of_le_of_lt (by assumption) (by decide) | omega)]) ?_
        have hro9 : (upd ro (2 * nd + 0) (vp_nar .short (nI (u_15 0)))) (2 * c9 + 1) = nI (rwo (olf ls9) (2 * c9 + 1)) := by first | exact hro1 _ (by first | assumption | omega) | (rw [upd_ne (by first | assumption | omega)]; exact hro1 _ (by first | assumption | omega))
        have hrp_25 := rwo_pos (o := olf ls9) (d := 2 * c9 + 1)
        have hrp_25q := rwo_le (o := olf ls9) (d := 2 * c9 + 1)
        refine W.eq (g2 := F0 m 213 ls [.int (nI (rwo (olf ls9) (2 * c9 + 1))), .int (nI (rwo (olf ls9) (2 * a9 + 1))), .int (nI (2 * nd + 1)), .ref q1]) (by rw [hro9]) ?_
        clear hro9
        refine lv_iadd hx hb d_Prover_countNode_213 ?_
        refine lv_topi (fun z_26 ez_26 => ?_)
        have ez_26 : z_26 = nI (rwo (olf ls9) (2 * a9 + 1) + rwo (olf ls9) (2 * c9 + 1)) := ez_26.trans (nI_add (rwo (olf ls9) (2 * a9 + 1)) (rwo (olf ls9) (2 * c9 + 1)))
        subst ez_26
        obtain ⟨hPc, hDc, hFc, hCs⟩ := xw_sub3 (wc := []) hP hD hS hA [] (by decide) rfl
        have hz := xz_of hN hS
        refine va_calli (va_runS (As := [.int (nI (rwo (olf ls9) (2 * a9 + 1) + rwo (olf ls9) (2 * c9 + 1)))]) (rest := [.int (nI (2 * nd + 1)), .ref q1]) ⟨hx, hb, hml, hown, hts⟩ (c_P_limited l D ax (rwo (olf ls9) (2 * a9 + 1) + rwo (olf ls9) (2 * c9 + 1)) H_20.size (by first | omega | exact Nat.lt_of_le_of_lt (show _ ≤ 5001 * 5001 from Nat.mul_le_mul (by assumption) (by assumption)) (by decide))) (xcS (n := 1) hts wd_824 wd_6 wd_822 wd_823 rfl rfl (by decide +kernel) ⟨Nat.le_of_ble_eq_true rfl, Nat.le_of_ble_eq_true rfl⟩) (xpS (As := [.int (nI (rwo (olf ls9) (2 * a9 + 1) + rwo (olf ls9) (2 * c9 + 1)))]) hPc hK hz hDc) rfl rfl hl1.1 rfl (lv_room (Nat.le_of_ble_eq_true rfl)) d_Prover_countNode_214 ⟨Nat.le_of_ble_eq_true rfl, Nat.le_of_ble_eq_true rfl⟩) hS (fun q _ h => hFc q h) hFc (fun r_29 u_27 t H_28 locs ht hvm hw hB hz1 hk1 hS1 => ?_)
        try dsimp only at hw
        obtain ⟨hw, hs_30, hs_31⟩ := hw
        subst hw
        obtain ⟨hP1, hD1⟩ := hB
        rw [ht] at hP1
        have hjn := xw_join3 (wl := [(p0, .inr (6, [.ref b0, .int s_rows, .int (nI an), .int s_first, .ref n0, .ref q1, .ref q2, .ref q3, .int (nI wt)])), (q1, .inl (ax 2, rl, .inl (upd ro (2 * nd + 0) (vp_nar .short (nI (u_15 0)))))), (q2, .inl (ax 0, 64, .inl (fun j => nI (dm j)))), (q3, .inl (ax 0, 64, .inl ix)), (n0, .inr (4, [.ref n1, .ref n2, .ref n3, .int (nI z9)])), (n1, .inl (ax 1, cp, .inl fo)), (n2, .inl (ax 0, cp, .inl fl)), (n3, .inl (ax 0, cp, .inl fr))]) hP hD [] [0, 1, 2, 3, 4, 5, 6, 7] hCs (by decide) (by decide) hk1 hFc hP1 hD1 rfl
        clear hP1 hD1
        clear hPc hDc hFc hCs hz hz1 hk1 ht hvm
        clear hP hD hS
        have hS := hS1
        obtain ⟨hP, hD⟩ := hjn
        clear hS1
        refine va_sast hx hb hK.1 hP hD hS 1 2 rfl rfl (vp_in_nI (by first | assumption | omega) (by first | exact Nat.lt_of_lt_of_le (by assumption) (by decide) | exact Nat.lt_of_le_of_lt (by assumption) (by decide) | omega)) d_Prover_countNode_217 (fun H_32 locs hP1 hD1 hS1 => ?_)
        rw [nI_clamp (by first | exact Nat.lt_of_lt_of_le (by assumption) (by decide) | exact Nat.lt_of_le_of_lt (by assumption) (by decide) | omega)] at hP1 hD1
        clear hP hD hS
        have hS := hS1
        have hW7 : (fun w9 : va_W => va_P D classes w9 H_32 ∧ va_D A w9) [(p0, .inr (6, [.ref b0, .int s_rows, .int (nI an), .int s_first, .ref n0, .ref q1, .ref q2, .ref q3, .int (nI wt)])), (q1, .inl (ax 2, rl, .inl (upd (upd ro (2 * nd + 0) (vp_nar .short (nI (u_15 0)))) (2 * nd + 1) (vp_nar .short (nI (u_27 0)))))), (q2, .inl (ax 0, 64, .inl (fun j => nI (dm j)))), (q3, .inl (ax 0, 64, .inl ix)), (n0, .inr (4, [.ref n1, .ref n2, .ref n3, .int (nI z9)])), (n1, .inl (ax 1, cp, .inl fo)), (n2, .inl (ax 0, cp, .inl fl)), (n3, .inl (ax 0, cp, .inl fr))] := ⟨hP1, hD1⟩
        obtain ⟨hP, hD⟩ := hW7
        clear hP1 hD1 hS1
        rw [← hQe]
        obtain ⟨hP9, hD9⟩ := xw_sub2 (wc := (fun (u : Nat → Nat) (xro : Nat → Int32) => [(p0, .inr (6, [.ref b0, .int s_rows, .int (nI (u 0)), .int s_first, .ref n0, .ref q1, .ref q2, .ref q3, .int (nI wt)])), (q1, .inl (ax 2, rl, .inl xro)), (q2, .inl (ax 0, 64, .inl (fun j => nI (dm j)))), (q3, .inl (ax 0, 64, .inl ix)), (n0, .inr (4, [.ref n1, .ref n2, .ref n3, .int (nI z9)])), (n1, .inl (ax 1, cp, .inl fo)), (n2, .inl (ax 0, cp, .inl fl)), (n3, .inl (ax 0, cp, .inl fr))]) (ixn [an]) (upd (upd ro (2 * nd + 0) (vp_nar .short (nI (u_15 0)))) (2 * nd + 1) (vp_nar .short (nI (u_27 0))))) hP hD [0, 1, 2, 3, 4, 5, 6, 7] (by decide) rfl
        have hex0 : roQ8 ls9 (nd + 1) (upd (upd ro (2 * nd + 0) (vp_nar .short (nI (u_15 0)))) (2 * nd + 1) (vp_nar .short (nI (u_27 0)))) := (by first | exact roQ8_s1 hro1 ((vpn8 (by first | assumption | omega)).trans (congrArg nI (hs_18.trans (ro8_b (l := ls9) (k := nd) (b := 1) (e := 0) (show 7 ≤ (ath ls9 nd).1 by omega) (show (ath ls9 nd).1 ≤ 8 by omega) (by first | assumption | omega) ea9 ec9 rfl (by first | exact Or.inl ⟨show (ath ls9 nd).1 = 7 by omega, rfl⟩ | exact Or.inr ⟨show ¬ (ath ls9 nd).1 = 7 by omega, rfl⟩)).1))) ((vpn8 (by first | assumption | omega)).trans (congrArg nI (hs_30.trans (ro8_b (l := ls9) (k := nd) (b := 1) (e := 0) (show 7 ≤ (ath ls9 nd).1 by omega) (show (ath ls9 nd).1 ≤ 8 by omega) (by first | assumption | omega) ea9 ec9 rfl (by first | exact Or.inl ⟨show (ath ls9 nd).1 = 7 by omega, rfl⟩ | exact Or.inr ⟨show ¬ (ath ls9 nd).1 = 7 by omega, rfl⟩)).2))) | exact roQ8_s2 hro1 ((vpn8 (by first | assumption | omega)).trans (congrArg nI (hs_18.trans (ro8_b (l := ls9) (k := nd) (b := 0) (e := 1) (show 7 ≤ (ath ls9 nd).1 by omega) (show (ath ls9 nd).1 ≤ 8 by omega) (by first | assumption | omega) ea9 ec9 rfl (by first | exact Or.inl ⟨show (ath ls9 nd).1 = 7 by omega, rfl⟩ | exact Or.inr ⟨show ¬ (ath ls9 nd).1 = 7 by omega, rfl⟩)).1))) ((vpn8 (by first | assumption | omega)).trans (congrArg nI (hs_30.trans (ro8_b (l := ls9) (k := nd) (b := 0) (e := 1) (show 7 ≤ (ath ls9 nd).1 by omega) (show (ath ls9 nd).1 ≤ 8 by omega) (by first | assumption | omega) ea9 ec9 rfl (by first | exact Or.inl ⟨show (ath ls9 nd).1 = 7 by omega, rfl⟩ | exact Or.inr ⟨show ¬ (ath ls9 nd).1 = 7 by omega, rfl⟩)).2))))
        have hsp0 : an = atn8 (olf ls9) (nd + 1) := (atn8_o han (show ¬ (ath ls9 nd).1 < 6 by omega))
        exact W.vret hx hb hr (fun t ht hW => ⟨⟨ixn [an], rfl, hsp0, ⟨(upd (upd ro (2 * nd + 0) (vp_nar .short (nI (u_15 0)))) (2 * nd + 1) (vp_nar .short (nI (u_27 0)))), hex0, by rw [ht]; exact hP9, hD9⟩⟩, hS.F ht⟩) hS.2.2 d_Prover_countNode_218
      · replace c_7 : o9 = 7 := (nI_eq (a := o9) (b := 7) (by first | exact Nat.lt_of_lt_of_le (by assumption) (by decide) | exact Nat.lt_of_le_of_lt (by assumption) (by decide) | omega) (by decide)).mp c_7
        refine lv_iconst (v := 1) hx hb d_Prover_countNode_139 (by decide) ?_
        refine lv_goto (tgt := 144) hx hb d_Prover_countNode_140 (by decide) ?_
        refine lv_istore (lv' := [(7, .int 1), (6, .int (nI (2 * c9))), (5, .int (nI (2 * a9))), (4, .int (nI (2 * nd + 1))), (3, .int (nI (2 * nd))), (2, .int (nI o9)), (0, .ref p0), (1, .int (nI nd))]) hx hb d_Prover_countNode_144 hl1 (by decide) rfl (fun ls hl2 => ?_)
        clear hl1; have hl1 := hl2; clear hl2
        refine lv_iconst (v := 1) hx hb d_Prover_countNode_146 (by decide) ?_
        refine lv_iload hx hb d_Prover_countNode_147 (lv_at hl1 0 rfl) ?_
        refine lv_isub hx hb d_Prover_countNode_149 ?_
        refine lv_topi (fun z_33 ez_33 => ?_)
        have ez_33 : z_33 = 0 := ez_33.trans (by first | rfl | decide)
        subst ez_33
        refine lv_istore (lv' := [(8, .int 0), (7, .int 1), (6, .int (nI (2 * c9))), (5, .int (nI (2 * a9))), (4, .int (nI (2 * nd + 1))), (3, .int (nI (2 * nd))), (2, .int (nI o9)), (0, .ref p0), (1, .int (nI nd))]) hx hb d_Prover_countNode_150 hl1 (by decide) rfl (fun ls hl2 => ?_)
        clear hl1; have hl1 := hl2; clear hl2
        refine lv_aload_n hx hb d_Prover_countNode_152 rfl (lv_at hl1 7 rfl) ?_
        refine va_get (D := D) (ci := 6) (v := .ref q1) (C := R_Prover) (T := F_Prover) (N := 9) hx hb hts i_Prover hown hK.1 hP 0 rfl rfl 5 (by decide) (hts _ wd_184) (fun _ h9 => h9) rfl d_Prover_countNode_153 ?_
        refine lv_iload_n hx hb d_Prover_countNode_156 rfl (lv_at hl1 5 rfl) ?_
        refine lv_iload hx hb d_Prover_countNode_157 (lv_at hl1 1 rfl) ?_
        refine lv_iadd hx hb d_Prover_countNode_159 ?_
        refine lv_topi (fun z_34 ez_34 => ?_)
        have ez_34 : z_34 = nI (2 * nd + 1) := ez_34.trans (nI_add (2 * nd) 1)
        subst ez_34
        refine lv_aload_n hx hb d_Prover_countNode_160 rfl (lv_at hl1 7 rfl) ?_
        refine va_get (D := D) (ci := 6) (v := .ref q1) (C := R_Prover) (T := F_Prover) (N := 9) hx hb hts i_Prover hown hK.1 hP 0 rfl rfl 5 (by decide) (hts _ wd_184) (fun _ h9 => h9) rfl d_Prover_countNode_161 ?_
        refine lv_iload hx hb d_Prover_countNode_164 (lv_at hl1 3 rfl) ?_
        refine lv_iload hx hb d_Prover_countNode_166 (lv_at hl1 1 rfl) ?_
        refine lv_iadd hx hb d_Prover_countNode_168 ?_
        refine lv_topi (fun z_35 ez_35 => ?_)
        have ez_35 : z_35 = nI (2 * a9 + 1) := ez_35.trans (nI_add (2 * a9) 1)
        subst ez_35
        refine va_sald hx hb hK.1 hP 1 2 rfl rfl (vp_in_nI (by first | assumption | omega) (by first | exact Nat.lt_of_lt_of_le (by assumption) (by decide) | exact Nat.lt_of_le_of_lt (by assumption) (by decide) | omega)) d_Prover_countNode_169 ?_
        refine W.eq (g2 := F0 m 170 ls [.int (ro (2 * a9 + 1)), .int (nI (2 * nd + 1)), .ref q1]) (by rw [nI_clamp (by first | exact Nat.lt_of_lt_of_le (by assumption) (by decide) | exact Nat.lt_of_le_of_lt (by assumption) (by decide) | omega)]) ?_
        have hro9 : ro (2 * a9 + 1) = nI (rwo (olf ls9) (2 * a9 + 1)) := by first | exact hro1 _ (by first | assumption | omega) | (rw [upd_ne (by first | assumption | omega)]; exact hro1 _ (by first | assumption | omega))
        have hrp_36 := rwo_pos (o := olf ls9) (d := 2 * a9 + 1)
        have hrp_36q := rwo_le (o := olf ls9) (d := 2 * a9 + 1)
        refine W.eq (g2 := F0 m 170 ls [.int (nI (rwo (olf ls9) (2 * a9 + 1))), .int (nI (2 * nd + 1)), .ref q1]) (by rw [hro9]) ?_
        clear hro9
        refine lv_aload_n hx hb d_Prover_countNode_170 rfl (lv_at hl1 7 rfl) ?_
        refine va_get (D := D) (ci := 6) (v := .ref q1) (C := R_Prover) (T := F_Prover) (N := 9) hx hb hts i_Prover hown hK.1 hP 0 rfl rfl 5 (by decide) (hts _ wd_184) (fun _ h9 => h9) rfl d_Prover_countNode_171 ?_
        refine lv_iload hx hb d_Prover_countNode_174 (lv_at hl1 2 rfl) ?_
        refine lv_iload hx hb d_Prover_countNode_176 (lv_at hl1 1 rfl) ?_
        refine lv_iadd hx hb d_Prover_countNode_178 ?_
        refine lv_topi (fun z_37 ez_37 => ?_)
        have ez_37 : z_37 = nI (2 * c9 + 1) := ez_37.trans (nI_add (2 * c9) 1)
        subst ez_37
        refine va_sald hx hb hK.1 hP 1 2 rfl rfl (vp_in_nI (by first | assumption | omega) (by first | exact Nat.lt_of_lt_of_le (by assumption) (by decide) | exact Nat.lt_of_le_of_lt (by assumption) (by decide) | omega)) d_Prover_countNode_179 ?_
        refine W.eq (g2 := F0 m 180 ls [.int (ro (2 * c9 + 1)), .int (nI (rwo (olf ls9) (2 * a9 + 1))), .int (nI (2 * nd + 1)), .ref q1]) (by rw [nI_clamp (by first | exact Nat.lt_of_lt_of_le (by assumption) (by decide) | exact Nat.lt_of_le_of_lt (by assumption) (by decide) | omega)]) ?_
        have hro9 : ro (2 * c9 + 1) = nI (rwo (olf ls9) (2 * c9 + 1)) := by first | exact hro1 _ (by first | assumption | omega) | (rw [upd_ne (by first | assumption | omega)]; exact hro1 _ (by first | assumption | omega))
        have hrp_38 := rwo_pos (o := olf ls9) (d := 2 * c9 + 1)
        have hrp_38q := rwo_le (o := olf ls9) (d := 2 * c9 + 1)
        refine W.eq (g2 := F0 m 180 ls [.int (nI (rwo (olf ls9) (2 * c9 + 1))), .int (nI (rwo (olf ls9) (2 * a9 + 1))), .int (nI (2 * nd + 1)), .ref q1]) (by rw [hro9]) ?_
        clear hro9
        refine lv_imul hx hb d_Prover_countNode_180 ?_
        refine lv_topi (fun z_39 ez_39 => ?_)
        have ez_39 : z_39 = nI ((rwo (olf ls9) (2 * a9 + 1)) * (rwo (olf ls9) (2 * c9 + 1))) := ez_39.trans (pk_mul (rwo (olf ls9) (2 * a9 + 1)) (rwo (olf ls9) (2 * c9 + 1)))
        subst ez_39
        obtain ⟨hPc, hDc, hFc, hCs⟩ := xw_sub3 (wc := []) hP hD hS hA [] (by decide) rfl
        have hz := xz_of hN hS
        refine va_calli (va_runS (As := [.int (nI ((rwo (olf ls9) (2 * a9 + 1)) * (rwo (olf ls9) (2 * c9 + 1))))]) (rest := [.int (nI (2 * nd + 1)), .ref q1]) ⟨hx, hb, hml, hown, hts⟩ (c_P_limited l D ax ((rwo (olf ls9) (2 * a9 + 1)) * (rwo (olf ls9) (2 * c9 + 1))) s.heap.size (by first | omega | exact Nat.lt_of_le_of_lt (show _ ≤ 5001 * 5001 from Nat.mul_le_mul (by assumption) (by assumption)) (by decide))) (xcS (n := 1) hts wd_824 wd_6 wd_822 wd_823 rfl rfl (by decide +kernel) ⟨Nat.le_of_ble_eq_true rfl, Nat.le_of_ble_eq_true rfl⟩) (xpS (As := [.int (nI ((rwo (olf ls9) (2 * a9 + 1)) * (rwo (olf ls9) (2 * c9 + 1))))]) hPc hK hz hDc) rfl rfl hl1.1 rfl (lv_room (Nat.le_of_ble_eq_true rfl)) d_Prover_countNode_181 ⟨Nat.le_of_ble_eq_true rfl, Nat.le_of_ble_eq_true rfl⟩) hS (fun q _ h => hFc q h) hFc (fun r_42 u_40 t H_41 locs ht hvm hw hB hz1 hk1 hS1 => ?_)
        try dsimp only at hw
        obtain ⟨hw, hs_43, hs_44⟩ := hw
        subst hw
        obtain ⟨hP1, hD1⟩ := hB
        rw [ht] at hP1
        have hjn := xw_join3 (wl := [(p0, .inr (6, [.ref b0, .int s_rows, .int (nI an), .int s_first, .ref n0, .ref q1, .ref q2, .ref q3, .int (nI wt)])), (q1, .inl (ax 2, rl, .inl ro)), (q2, .inl (ax 0, 64, .inl (fun j => nI (dm j)))), (q3, .inl (ax 0, 64, .inl ix)), (n0, .inr (4, [.ref n1, .ref n2, .ref n3, .int (nI z9)])), (n1, .inl (ax 1, cp, .inl fo)), (n2, .inl (ax 0, cp, .inl fl)), (n3, .inl (ax 0, cp, .inl fr))]) hP hD [] [0, 1, 2, 3, 4, 5, 6, 7] hCs (by decide) (by decide) hk1 hFc hP1 hD1 rfl
        clear hP1 hD1
        clear hPc hDc hFc hCs hz hz1 hk1 ht hvm
        clear hP hD hS
        have hS := hS1
        obtain ⟨hP, hD⟩ := hjn
        clear hS1
        refine va_sast hx hb hK.1 hP hD hS 1 2 rfl rfl (vp_in_nI (by first | assumption | omega) (by first | exact Nat.lt_of_lt_of_le (by assumption) (by decide) | exact Nat.lt_of_le_of_lt (by assumption) (by decide) | omega)) d_Prover_countNode_184 (fun H_45 locs hP1 hD1 hS1 => ?_)
        rw [nI_clamp (by first | exact Nat.lt_of_lt_of_le (by assumption) (by decide) | exact Nat.lt_of_le_of_lt (by assumption) (by decide) | omega)] at hP1 hD1
        clear hP hD hS
        have hS := hS1
        have hW7 : (fun w9 : va_W => va_P D classes w9 H_45 ∧ va_D A w9) [(p0, .inr (6, [.ref b0, .int s_rows, .int (nI an), .int s_first, .ref n0, .ref q1, .ref q2, .ref q3, .int (nI wt)])), (q1, .inl (ax 2, rl, .inl (upd ro (2 * nd + 1) (vp_nar .short (nI (u_40 0)))))), (q2, .inl (ax 0, 64, .inl (fun j => nI (dm j)))), (q3, .inl (ax 0, 64, .inl ix)), (n0, .inr (4, [.ref n1, .ref n2, .ref n3, .int (nI z9)])), (n1, .inl (ax 1, cp, .inl fo)), (n2, .inl (ax 0, cp, .inl fl)), (n3, .inl (ax 0, cp, .inl fr))] := ⟨hP1, hD1⟩
        obtain ⟨hP, hD⟩ := hW7
        clear hP1 hD1 hS1
        refine lv_aload_n hx hb d_Prover_countNode_185 rfl (lv_at hl1 7 rfl) ?_
        refine va_get (D := D) (ci := 6) (v := .ref q1) (C := R_Prover) (T := F_Prover) (N := 9) hx hb hts i_Prover hown hK.1 hP 0 rfl rfl 5 (by decide) (hts _ wd_184) (fun _ h9 => h9) rfl d_Prover_countNode_186 ?_
        refine lv_iload_n hx hb d_Prover_countNode_189 rfl (lv_at hl1 5 rfl) ?_
        refine lv_iload hx hb d_Prover_countNode_190 (lv_at hl1 0 rfl) ?_
        refine lv_iadd hx hb d_Prover_countNode_192 ?_
        refine lv_topi (fun z_46 ez_46 => ?_)
        have ez_46 : z_46 = nI (2 * nd + 0) := ez_46.trans (nI_add (2 * nd) 0)
        subst ez_46
        refine lv_aload_n hx hb d_Prover_countNode_193 rfl (lv_at hl1 7 rfl) ?_
        refine va_get (D := D) (ci := 6) (v := .ref q1) (C := R_Prover) (T := F_Prover) (N := 9) hx hb hts i_Prover hown hK.1 hP 0 rfl rfl 5 (by decide) (hts _ wd_184) (fun _ h9 => h9) rfl d_Prover_countNode_194 ?_
        refine lv_iload hx hb d_Prover_countNode_197 (lv_at hl1 3 rfl) ?_
        refine lv_iload hx hb d_Prover_countNode_199 (lv_at hl1 0 rfl) ?_
        refine lv_iadd hx hb d_Prover_countNode_201 ?_
        refine lv_topi (fun z_47 ez_47 => ?_)
        have ez_47 : z_47 = nI (2 * a9 + 0) := ez_47.trans (nI_add (2 * a9) 0)
        subst ez_47
        refine va_sald hx hb hK.1 hP 1 2 rfl rfl (vp_in_nI (by first | assumption | omega) (by first | exact Nat.lt_of_lt_of_le (by assumption) (by decide) | exact Nat.lt_of_le_of_lt (by assumption) (by decide) | omega)) d_Prover_countNode_202 ?_
        refine W.eq (g2 := F0 m 203 ls [.int ((upd ro (2 * nd + 1) (vp_nar .short (nI (u_40 0)))) (2 * a9 + 0)), .int (nI (2 * nd + 0)), .ref q1]) (by rw [nI_clamp (by first | exact Nat.lt_of_lt_of_le (by assumption) (by decide) | exact Nat.lt_of_le_of_lt (by assumption) (by decide) | omega)]) ?_
        have hro9 : (upd ro (2 * nd + 1) (vp_nar .short (nI (u_40 0)))) (2 * a9 + 0) = nI (rwo (olf ls9) (2 * a9 + 0)) := by first | exact hro1 _ (by first | assumption | omega) | (rw [upd_ne (by first | assumption | omega)]; exact hro1 _ (by first | assumption | omega))
        have hrp_48 := rwo_pos (o := olf ls9) (d := 2 * a9 + 0)
        have hrp_48q := rwo_le (o := olf ls9) (d := 2 * a9 + 0)
        refine W.eq (g2 := F0 m 203 ls [.int (nI (rwo (olf ls9) (2 * a9 + 0))), .int (nI (2 * nd + 0)), .ref q1]) (by rw [hro9]) ?_
        clear hro9
        refine lv_aload_n hx hb d_Prover_countNode_203 rfl (lv_at hl1 7 rfl) ?_
        refine va_get (D := D) (ci := 6) (v := .ref q1) (C := R_Prover) (T := F_Prover) (N := 9) hx hb hts i_Prover hown hK.1 hP 0 rfl rfl 5 (by decide) (hts _ wd_184) (fun _ h9 => h9) rfl d_Prover_countNode_204 ?_
        refine lv_iload hx hb d_Prover_countNode_207 (lv_at hl1 2 rfl) ?_
        refine lv_iload hx hb d_Prover_countNode_209 (lv_at hl1 0 rfl) ?_
        refine lv_iadd hx hb d_Prover_countNode_211 ?_
        refine lv_topi (fun z_49 ez_49 => ?_)
        have ez_49 : z_49 = nI (2 * c9 + 0) := ez_49.trans (nI_add (2 * c9) 0)
        subst ez_49
        refine va_sald hx hb hK.1 hP 1 2 rfl rfl (vp_in_nI (by first | assumption | omega) (by first | exact Nat.lt_of_lt_of_le (by assumption) (by decide) | exact Nat.lt_of_le_of_lt (by assumption) (by decide) | omega)) d_Prover_countNode_212 ?_
        refine W.eq (g2 := F0 m 213 ls [.int ((upd ro (2 * nd + 1) (vp_nar .short (nI (u_40 0)))) (2 * c9 + 0)), .int (nI (rwo (olf ls9) (2 * a9 + 0))), .int (nI (2 * nd + 0)), .ref q1]) (by rw [nI_clamp (by first | exact Nat.lt_of_lt_of_le (by assumption) (by decide) | exact Nat.lt_of_le_of_lt (by assumption) (by decide) | omega)]) ?_
        have hro9 : (upd ro (2 * nd + 1) (vp_nar .short (nI (u_40 0)))) (2 * c9 + 0) = nI (rwo (olf ls9) (2 * c9 + 0)) := by first | exact hro1 _ (by first | assumption | omega) | (rw [upd_ne (by first | assumption | omega)]; exact hro1 _ (by first | assumption | omega))
        have hrp_50 := rwo_pos (o := olf ls9) (d := 2 * c9 + 0)
        have hrp_50q := rwo_le (o := olf ls9) (d := 2 * c9 + 0)
        refine W.eq (g2 := F0 m 213 ls [.int (nI (rwo (olf ls9) (2 * c9 + 0))), .int (nI (rwo (olf ls9) (2 * a9 + 0))), .int (nI (2 * nd + 0)), .ref q1]) (by rw [hro9]) ?_
        clear hro9
        refine lv_iadd hx hb d_Prover_countNode_213 ?_
        refine lv_topi (fun z_51 ez_51 => ?_)
        have ez_51 : z_51 = nI (rwo (olf ls9) (2 * a9 + 0) + rwo (olf ls9) (2 * c9 + 0)) := ez_51.trans (nI_add (rwo (olf ls9) (2 * a9 + 0)) (rwo (olf ls9) (2 * c9 + 0)))
        subst ez_51
        obtain ⟨hPc, hDc, hFc, hCs⟩ := xw_sub3 (wc := []) hP hD hS hA [] (by decide) rfl
        have hz := xz_of hN hS
        refine va_calli (va_runS (As := [.int (nI (rwo (olf ls9) (2 * a9 + 0) + rwo (olf ls9) (2 * c9 + 0)))]) (rest := [.int (nI (2 * nd + 0)), .ref q1]) ⟨hx, hb, hml, hown, hts⟩ (c_P_limited l D ax (rwo (olf ls9) (2 * a9 + 0) + rwo (olf ls9) (2 * c9 + 0)) H_45.size (by first | omega | exact Nat.lt_of_le_of_lt (show _ ≤ 5001 * 5001 from Nat.mul_le_mul (by assumption) (by assumption)) (by decide))) (xcS (n := 1) hts wd_824 wd_6 wd_822 wd_823 rfl rfl (by decide +kernel) ⟨Nat.le_of_ble_eq_true rfl, Nat.le_of_ble_eq_true rfl⟩) (xpS (As := [.int (nI (rwo (olf ls9) (2 * a9 + 0) + rwo (olf ls9) (2 * c9 + 0)))]) hPc hK hz hDc) rfl rfl hl1.1 rfl (lv_room (Nat.le_of_ble_eq_true rfl)) d_Prover_countNode_214 ⟨Nat.le_of_ble_eq_true rfl, Nat.le_of_ble_eq_true rfl⟩) hS (fun q _ h => hFc q h) hFc (fun r_54 u_52 t H_53 locs ht hvm hw hB hz1 hk1 hS1 => ?_)
        try dsimp only at hw
        obtain ⟨hw, hs_55, hs_56⟩ := hw
        subst hw
        obtain ⟨hP1, hD1⟩ := hB
        rw [ht] at hP1
        have hjn := xw_join3 (wl := [(p0, .inr (6, [.ref b0, .int s_rows, .int (nI an), .int s_first, .ref n0, .ref q1, .ref q2, .ref q3, .int (nI wt)])), (q1, .inl (ax 2, rl, .inl (upd ro (2 * nd + 1) (vp_nar .short (nI (u_40 0)))))), (q2, .inl (ax 0, 64, .inl (fun j => nI (dm j)))), (q3, .inl (ax 0, 64, .inl ix)), (n0, .inr (4, [.ref n1, .ref n2, .ref n3, .int (nI z9)])), (n1, .inl (ax 1, cp, .inl fo)), (n2, .inl (ax 0, cp, .inl fl)), (n3, .inl (ax 0, cp, .inl fr))]) hP hD [] [0, 1, 2, 3, 4, 5, 6, 7] hCs (by decide) (by decide) hk1 hFc hP1 hD1 rfl
        clear hP1 hD1
        clear hPc hDc hFc hCs hz hz1 hk1 ht hvm
        clear hP hD hS
        have hS := hS1
        obtain ⟨hP, hD⟩ := hjn
        clear hS1
        refine va_sast hx hb hK.1 hP hD hS 1 2 rfl rfl (vp_in_nI (by first | assumption | omega) (by first | exact Nat.lt_of_lt_of_le (by assumption) (by decide) | exact Nat.lt_of_le_of_lt (by assumption) (by decide) | omega)) d_Prover_countNode_217 (fun H_57 locs hP1 hD1 hS1 => ?_)
        rw [nI_clamp (by first | exact Nat.lt_of_lt_of_le (by assumption) (by decide) | exact Nat.lt_of_le_of_lt (by assumption) (by decide) | omega)] at hP1 hD1
        clear hP hD hS
        have hS := hS1
        have hW7 : (fun w9 : va_W => va_P D classes w9 H_57 ∧ va_D A w9) [(p0, .inr (6, [.ref b0, .int s_rows, .int (nI an), .int s_first, .ref n0, .ref q1, .ref q2, .ref q3, .int (nI wt)])), (q1, .inl (ax 2, rl, .inl (upd (upd ro (2 * nd + 1) (vp_nar .short (nI (u_40 0)))) (2 * nd + 0) (vp_nar .short (nI (u_52 0)))))), (q2, .inl (ax 0, 64, .inl (fun j => nI (dm j)))), (q3, .inl (ax 0, 64, .inl ix)), (n0, .inr (4, [.ref n1, .ref n2, .ref n3, .int (nI z9)])), (n1, .inl (ax 1, cp, .inl fo)), (n2, .inl (ax 0, cp, .inl fl)), (n3, .inl (ax 0, cp, .inl fr))] := ⟨hP1, hD1⟩
        obtain ⟨hP, hD⟩ := hW7
        clear hP1 hD1 hS1
        rw [← hQe]
        obtain ⟨hP9, hD9⟩ := xw_sub2 (wc := (fun (u : Nat → Nat) (xro : Nat → Int32) => [(p0, .inr (6, [.ref b0, .int s_rows, .int (nI (u 0)), .int s_first, .ref n0, .ref q1, .ref q2, .ref q3, .int (nI wt)])), (q1, .inl (ax 2, rl, .inl xro)), (q2, .inl (ax 0, 64, .inl (fun j => nI (dm j)))), (q3, .inl (ax 0, 64, .inl ix)), (n0, .inr (4, [.ref n1, .ref n2, .ref n3, .int (nI z9)])), (n1, .inl (ax 1, cp, .inl fo)), (n2, .inl (ax 0, cp, .inl fl)), (n3, .inl (ax 0, cp, .inl fr))]) (ixn [an]) (upd (upd ro (2 * nd + 1) (vp_nar .short (nI (u_40 0)))) (2 * nd + 0) (vp_nar .short (nI (u_52 0))))) hP hD [0, 1, 2, 3, 4, 5, 6, 7] (by decide) rfl
        have hex0 : roQ8 ls9 (nd + 1) (upd (upd ro (2 * nd + 1) (vp_nar .short (nI (u_40 0)))) (2 * nd + 0) (vp_nar .short (nI (u_52 0)))) := (by first | exact roQ8_s1 hro1 ((vpn8 (by first | assumption | omega)).trans (congrArg nI (hs_43.trans (ro8_b (l := ls9) (k := nd) (b := 1) (e := 0) (show 7 ≤ (ath ls9 nd).1 by omega) (show (ath ls9 nd).1 ≤ 8 by omega) (by first | assumption | omega) ea9 ec9 rfl (by first | exact Or.inl ⟨show (ath ls9 nd).1 = 7 by omega, rfl⟩ | exact Or.inr ⟨show ¬ (ath ls9 nd).1 = 7 by omega, rfl⟩)).1))) ((vpn8 (by first | assumption | omega)).trans (congrArg nI (hs_55.trans (ro8_b (l := ls9) (k := nd) (b := 1) (e := 0) (show 7 ≤ (ath ls9 nd).1 by omega) (show (ath ls9 nd).1 ≤ 8 by omega) (by first | assumption | omega) ea9 ec9 rfl (by first | exact Or.inl ⟨show (ath ls9 nd).1 = 7 by omega, rfl⟩ | exact Or.inr ⟨show ¬ (ath ls9 nd).1 = 7 by omega, rfl⟩)).2))) | exact roQ8_s2 hro1 ((vpn8 (by first | assumption | omega)).trans (congrArg nI (hs_43.trans (ro8_b (l := ls9) (k := nd) (b := 0) (e := 1) (show 7 ≤ (ath ls9 nd).1 by omega) (show (ath ls9 nd).1 ≤ 8 by omega) (by first | assumption | omega) ea9 ec9 rfl (by first | exact Or.inl ⟨show (ath ls9 nd).1 = 7 by omega, rfl⟩ | exact Or.inr ⟨show ¬ (ath ls9 nd).1 = 7 by omega, rfl⟩)).1))) ((vpn8 (by first | assumption | omega)).trans (congrArg nI (hs_55.trans (ro8_b (l := ls9) (k := nd) (b := 0) (e := 1) (show 7 ≤ (ath ls9 nd).1 by omega) (show (ath ls9 nd).1 ≤ 8 by omega) (by first | assumption | omega) ea9 ec9 rfl (by first | exact Or.inl ⟨show (ath ls9 nd).1 = 7 by omega, rfl⟩ | exact Or.inr ⟨show ¬ (ath ls9 nd).1 = 7 by omega, rfl⟩)).2))))
        have hsp0 : an = atn8 (olf ls9) (nd + 1) := (atn8_o han (show ¬ (ath ls9 nd).1 < 6 by omega))
        exact W.vret hx hb hr (fun t ht hW => ⟨⟨ixn [an], rfl, hsp0, ⟨(upd (upd ro (2 * nd + 1) (vp_nar .short (nI (u_40 0)))) (2 * nd + 0) (vp_nar .short (nI (u_52 0)))), hex0, by rw [ht]; exact hP9, hD9⟩⟩, hS.F ht⟩) hS.2.2 d_Prover_countNode_218
    · replace c_5 : o9 = 6 := (nI_eq (a := o9) (b := 6) (by first | exact Nat.lt_of_lt_of_le (by assumption) (by decide) | exact Nat.lt_of_le_of_lt (by assumption) (by decide) | omega) (by decide)).mp c_5
      have ea9 := pr_n hnl (by first | assumption | omega) hop9 (by first | assumption | omega) ha1 (by first | assumption | omega) ha2
      obtain ⟨er1, er2⟩ := ro8_n (l := ls9) (k := nd) (show (ath ls9 nd).1 = 6 by omega) (by first | assumption | omega) ea9
      refine lv_aload_n hx hb d_Prover_countNode_90 rfl (lv_at hl1 4 rfl) ?_
      refine va_get (D := D) (ci := 6) (v := .ref q1) (C := R_Prover) (T := F_Prover) (N := 9) hx hb hts i_Prover hown hK.1 hP 0 rfl rfl 5 (by decide) (hts _ wd_184) (fun _ h9 => h9) rfl d_Prover_countNode_91 ?_
      refine lv_iload hx hb d_Prover_countNode_94 (lv_at hl1 1 rfl) ?_
      refine lv_aload_n hx hb d_Prover_countNode_96 rfl (lv_at hl1 4 rfl) ?_
      refine va_get (D := D) (ci := 6) (v := .ref q1) (C := R_Prover) (T := F_Prover) (N := 9) hx hb hts i_Prover hown hK.1 hP 0 rfl rfl 5 (by decide) (hts _ wd_184) (fun _ h9 => h9) rfl d_Prover_countNode_97 ?_
      refine lv_iload hx hb d_Prover_countNode_100 (lv_at hl1 0 rfl) ?_
      refine va_sald hx hb hK.1 hP 1 2 rfl rfl (vp_in_nI (by first | assumption | omega) (by first | exact Nat.lt_of_lt_of_le (by assumption) (by decide) | exact Nat.lt_of_le_of_lt (by assumption) (by decide) | omega)) d_Prover_countNode_102 ?_
      refine W.eq (g2 := F0 m 103 ls [.int (ro (2 * a9)), .int (nI (2 * nd + 1)), .ref q1]) (by rw [nI_clamp (by first | exact Nat.lt_of_lt_of_le (by assumption) (by decide) | exact Nat.lt_of_le_of_lt (by assumption) (by decide) | omega)]) ?_
      have hro9 : ro (2 * a9) = nI (rwo (olf ls9) (2 * a9)) := by first | exact hro1 _ (by first | assumption | omega) | (rw [upd_ne (by first | assumption | omega)]; exact hro1 _ (by first | assumption | omega))
      have hrp_58 := rwo_pos (o := olf ls9) (d := 2 * a9)
      have hrp_58q := rwo_le (o := olf ls9) (d := 2 * a9)
      refine W.eq (g2 := F0 m 103 ls [.int (nI (rwo (olf ls9) (2 * a9))), .int (nI (2 * nd + 1)), .ref q1]) (by rw [hro9]) ?_
      clear hro9
      refine va_sast hx hb hK.1 hP hD hS 1 2 rfl rfl (vp_in_nI (by first | assumption | omega) (by first | exact Nat.lt_of_lt_of_le (by assumption) (by decide) | exact Nat.lt_of_le_of_lt (by assumption) (by decide) | omega)) d_Prover_countNode_103 (fun H_59 locs hP1 hD1 hS1 => ?_)
      rw [nI_clamp (by first | exact Nat.lt_of_lt_of_le (by assumption) (by decide) | exact Nat.lt_of_le_of_lt (by assumption) (by decide) | omega)] at hP1 hD1
      clear hP hD hS
      have hS := hS1
      have hW7 : (fun w9 : va_W => va_P D classes w9 H_59 ∧ va_D A w9) [(p0, .inr (6, [.ref b0, .int s_rows, .int (nI an), .int s_first, .ref n0, .ref q1, .ref q2, .ref q3, .int (nI wt)])), (q1, .inl (ax 2, rl, .inl (upd ro (2 * nd + 1) (vp_nar .short (nI (rwo (olf ls9) (2 * a9))))))), (q2, .inl (ax 0, 64, .inl (fun j => nI (dm j)))), (q3, .inl (ax 0, 64, .inl ix)), (n0, .inr (4, [.ref n1, .ref n2, .ref n3, .int (nI z9)])), (n1, .inl (ax 1, cp, .inl fo)), (n2, .inl (ax 0, cp, .inl fl)), (n3, .inl (ax 0, cp, .inl fr))] := ⟨hP1, hD1⟩
      obtain ⟨hP, hD⟩ := hW7
      clear hP1 hD1 hS1
      refine lv_aload_n hx hb d_Prover_countNode_104 rfl (lv_at hl1 4 rfl) ?_
      refine va_get (D := D) (ci := 6) (v := .ref q1) (C := R_Prover) (T := F_Prover) (N := 9) hx hb hts i_Prover hown hK.1 hP 0 rfl rfl 5 (by decide) (hts _ wd_184) (fun _ h9 => h9) rfl d_Prover_countNode_105 ?_
      refine lv_iload_n hx hb d_Prover_countNode_108 rfl (lv_at hl1 2 rfl) ?_
      refine lv_aload_n hx hb d_Prover_countNode_109 rfl (lv_at hl1 4 rfl) ?_
      refine va_get (D := D) (ci := 6) (v := .ref q1) (C := R_Prover) (T := F_Prover) (N := 9) hx hb hts i_Prover hown hK.1 hP 0 rfl rfl 5 (by decide) (hts _ wd_184) (fun _ h9 => h9) rfl d_Prover_countNode_110 ?_
      refine lv_iload hx hb d_Prover_countNode_113 (lv_at hl1 0 rfl) ?_
      refine lv_iconst (v := 1) hx hb d_Prover_countNode_115 (by decide) ?_
      refine lv_iadd hx hb d_Prover_countNode_116 ?_
      refine lv_topi (fun z_60 ez_60 => ?_)
      have ez_60 : z_60 = nI (2 * a9 + 1) := ez_60.trans (nI_add (2 * a9) 1)
      subst ez_60
      refine va_sald hx hb hK.1 hP 1 2 rfl rfl (vp_in_nI (by first | assumption | omega) (by first | exact Nat.lt_of_lt_of_le (by assumption) (by decide) | exact Nat.lt_of_le_of_lt (by assumption) (by decide) | omega)) d_Prover_countNode_117 ?_
      refine W.eq (g2 := F0 m 118 ls [.int ((upd ro (2 * nd + 1) (vp_nar .short (nI (rwo (olf ls9) (2 * a9))))) (2 * a9 + 1)), .int (nI (2 * nd)), .ref q1]) (by rw [nI_clamp (by first | exact Nat.lt_of_lt_of_le (by assumption) (by decide) | exact Nat.lt_of_le_of_lt (by assumption) (by decide) | omega)]) ?_
      have hro9 : (upd ro (2 * nd + 1) (vp_nar .short (nI (rwo (olf ls9) (2 * a9))))) (2 * a9 + 1) = nI (rwo (olf ls9) (2 * a9 + 1)) := by first | exact hro1 _ (by first | assumption | omega) | (rw [upd_ne (by first | assumption | omega)]; exact hro1 _ (by first | assumption | omega))
      have hrp_61 := rwo_pos (o := olf ls9) (d := 2 * a9 + 1)
      have hrp_61q := rwo_le (o := olf ls9) (d := 2 * a9 + 1)
      refine W.eq (g2 := F0 m 118 ls [.int (nI (rwo (olf ls9) (2 * a9 + 1))), .int (nI (2 * nd)), .ref q1]) (by rw [hro9]) ?_
      clear hro9
      refine va_sast hx hb hK.1 hP hD hS 1 2 rfl rfl (vp_in_nI (by first | assumption | omega) (by first | exact Nat.lt_of_lt_of_le (by assumption) (by decide) | exact Nat.lt_of_le_of_lt (by assumption) (by decide) | omega)) d_Prover_countNode_118 (fun H_62 locs hP1 hD1 hS1 => ?_)
      rw [nI_clamp (by first | exact Nat.lt_of_lt_of_le (by assumption) (by decide) | exact Nat.lt_of_le_of_lt (by assumption) (by decide) | omega)] at hP1 hD1
      clear hP hD hS
      have hS := hS1
      have hW7 : (fun w9 : va_W => va_P D classes w9 H_62 ∧ va_D A w9) [(p0, .inr (6, [.ref b0, .int s_rows, .int (nI an), .int s_first, .ref n0, .ref q1, .ref q2, .ref q3, .int (nI wt)])), (q1, .inl (ax 2, rl, .inl (upd (upd ro (2 * nd + 1) (vp_nar .short (nI (rwo (olf ls9) (2 * a9))))) (2 * nd) (vp_nar .short (nI (rwo (olf ls9) (2 * a9 + 1))))))), (q2, .inl (ax 0, 64, .inl (fun j => nI (dm j)))), (q3, .inl (ax 0, 64, .inl ix)), (n0, .inr (4, [.ref n1, .ref n2, .ref n3, .int (nI z9)])), (n1, .inl (ax 1, cp, .inl fo)), (n2, .inl (ax 0, cp, .inl fl)), (n3, .inl (ax 0, cp, .inl fr))] := ⟨hP1, hD1⟩
      obtain ⟨hP, hD⟩ := hW7
      clear hP1 hD1 hS1
      rw [← hQe]
      obtain ⟨hP9, hD9⟩ := xw_sub2 (wc := (fun (u : Nat → Nat) (xro : Nat → Int32) => [(p0, .inr (6, [.ref b0, .int s_rows, .int (nI (u 0)), .int s_first, .ref n0, .ref q1, .ref q2, .ref q3, .int (nI wt)])), (q1, .inl (ax 2, rl, .inl xro)), (q2, .inl (ax 0, 64, .inl (fun j => nI (dm j)))), (q3, .inl (ax 0, 64, .inl ix)), (n0, .inr (4, [.ref n1, .ref n2, .ref n3, .int (nI z9)])), (n1, .inl (ax 1, cp, .inl fo)), (n2, .inl (ax 0, cp, .inl fl)), (n3, .inl (ax 0, cp, .inl fr))]) (ixn [an]) (upd (upd ro (2 * nd + 1) (vp_nar .short (nI (rwo (olf ls9) (2 * a9))))) (2 * nd) (vp_nar .short (nI (rwo (olf ls9) (2 * a9 + 1)))))) hP hD [0, 1, 2, 3, 4, 5, 6, 7] (by decide) rfl
      have hex0 : roQ8 ls9 (nd + 1) (upd (upd ro (2 * nd + 1) (vp_nar .short (nI (rwo (olf ls9) (2 * a9))))) (2 * nd) (vp_nar .short (nI (rwo (olf ls9) (2 * a9 + 1))))) := (roQ8_s1 hro1 ((vpn8 (by first | assumption | omega)).trans (congrArg nI er1)) ((vpn8 (by first | assumption | omega)).trans (congrArg nI er2)))
      have hsp0 : an = atn8 (olf ls9) (nd + 1) := (atn8_o han (show ¬ (ath ls9 nd).1 < 6 by omega))
      exact W.vret hx hb hr (fun t ht hW => ⟨⟨ixn [an], rfl, hsp0, ⟨(upd (upd ro (2 * nd + 1) (vp_nar .short (nI (rwo (olf ls9) (2 * a9))))) (2 * nd) (vp_nar .short (nI (rwo (olf ls9) (2 * a9 + 1))))), hex0, by rw [ht]; exact hP9, hD9⟩⟩, hS.F ht⟩) hS.2.2 d_Prover_countNode_119
  · replace c_3 : ¬ 6 ≤ o9 := fun hq9 => c_3 ((nI_leI (a := 6) (b := o9) (by decide) (by first | exact Nat.lt_of_lt_of_le (by assumption) (by decide) | exact Nat.lt_of_le_of_lt (by assumption) (by decide) | omega)).mpr hq9)
    refine lv_aload_n hx hb d_Prover_countNode_25 rfl (lv_at hl1 3 rfl) ?_
    refine lv_dup hx hb d_Prover_countNode_26 rfl ?_
    refine va_get (D := D) (ci := 6) (v := .int (nI an)) (C := R_Prover) (T := F_Prover) (N := 9) hx hb hts i_Prover hown hK.1 hP 0 rfl rfl 2 (by decide) (hts _ wd_179) (fun _ h9 => h9) rfl d_Prover_countNode_27 ?_
    refine lv_iconst (v := 1) hx hb d_Prover_countNode_30 (by decide) ?_
    refine lv_iadd hx hb d_Prover_countNode_31 ?_
    refine lv_topi (fun z_63 ez_63 => ?_)
    have ez_63 : z_63 = nI (an + 1) := ez_63.trans (nI_add an 1)
    subst ez_63
    refine va_put (D := D) (ci := 6) (v := .int (nI (an + 1))) (ty := .int) (C := R_Prover) (T := F_Prover) (N := 9) hx hb hts i_Prover t_Prover t_Prover_ok n_Prover hown hK.1 hP hD hS 0 rfl rfl 2 (by decide) (hts _ wd_179) (fun _ h9 => h9) rfl (by decide +kernel) rfl rfl (Nat.le_of_ble_eq_true rfl) d_Prover_countNode_32 (fun H_64 locs hP1 hD1 hS1 => ?_)
    clear hP hD hS
    have hS := hS1
    have hW7 : (fun w9 : va_W => va_P D classes w9 H_64 ∧ va_D A w9) [(p0, .inr (6, [.ref b0, .int s_rows, .int (nI (an + 1)), .int s_first, .ref n0, .ref q1, .ref q2, .ref q3, .int (nI wt)])), (q1, .inl (ax 2, rl, .inl ro)), (q2, .inl (ax 0, 64, .inl (fun j => nI (dm j)))), (q3, .inl (ax 0, 64, .inl ix)), (n0, .inr (4, [.ref n1, .ref n2, .ref n3, .int (nI z9)])), (n1, .inl (ax 1, cp, .inl fo)), (n2, .inl (ax 0, cp, .inl fl)), (n3, .inl (ax 0, cp, .inl fr))] := ⟨hP1, hD1⟩
    obtain ⟨hP, hD⟩ := hW7
    clear hP1 hD1 hS1
    refine lv_aload_n hx hb d_Prover_countNode_35 rfl (lv_at hl1 3 rfl) ?_
    refine va_get (D := D) (ci := 6) (v := .ref q1) (C := R_Prover) (T := F_Prover) (N := 9) hx hb hts i_Prover hown hK.1 hP 0 rfl rfl 5 (by decide) (hts _ wd_184) (fun _ h9 => h9) rfl d_Prover_countNode_36 ?_
    refine lv_iload hx hb d_Prover_countNode_39 (lv_at hl1 0 rfl) ?_
    refine lv_iload_n hx hb d_Prover_countNode_41 rfl (lv_at hl1 2 rfl) ?_
    refine lv_iconst (v := 5) hx hb d_Prover_countNode_42 (by decide) ?_
    refine lv_icmp_ne (tgt := 50) hx hb d_Prover_countNode_43 (by decide) (fun c_65 => ?_) (fun c_65 => ?_)
    · replace c_65 : ¬ o9 = 5 := fun hq9 => c_65 ((nI_eq (a := o9) (b := 5) (by first | exact Nat.lt_of_lt_of_le (by assumption) (by decide) | exact Nat.lt_of_le_of_lt (by assumption) (by decide) | omega) (by decide)).mpr hq9)
      refine lv_iconst (v := 1) hx hb d_Prover_countNode_50 (by decide) ?_
      refine lv_i2s hx hb d_Prover_countNode_51 rfl ?_
      refine lv_topi (fun z_66 ez_66 => ?_)
      have ez_66 : z_66 = 1 := ez_66.trans (by first | rfl | decide)
      subst ez_66
      refine va_sast hx hb hK.1 hP hD hS 1 2 rfl rfl (vp_in_nI (by first | assumption | omega) (by first | exact Nat.lt_of_lt_of_le (by assumption) (by decide) | exact Nat.lt_of_le_of_lt (by assumption) (by decide) | omega)) d_Prover_countNode_52 (fun H_67 locs hP1 hD1 hS1 => ?_)
      rw [nI_clamp (by first | exact Nat.lt_of_lt_of_le (by assumption) (by decide) | exact Nat.lt_of_le_of_lt (by assumption) (by decide) | omega)] at hP1 hD1
      clear hP hD hS
      have hS := hS1
      have hW7 : (fun w9 : va_W => va_P D classes w9 H_67 ∧ va_D A w9) [(p0, .inr (6, [.ref b0, .int s_rows, .int (nI (an + 1)), .int s_first, .ref n0, .ref q1, .ref q2, .ref q3, .int (nI wt)])), (q1, .inl (ax 2, rl, .inl (upd ro (2 * nd + 1) 1))), (q2, .inl (ax 0, 64, .inl (fun j => nI (dm j)))), (q3, .inl (ax 0, 64, .inl ix)), (n0, .inr (4, [.ref n1, .ref n2, .ref n3, .int (nI z9)])), (n1, .inl (ax 1, cp, .inl fo)), (n2, .inl (ax 0, cp, .inl fl)), (n3, .inl (ax 0, cp, .inl fr))] := ⟨hP1, hD1⟩
      obtain ⟨hP, hD⟩ := hW7
      clear hP1 hD1 hS1
      refine lv_aload_n hx hb d_Prover_countNode_53 rfl (lv_at hl1 3 rfl) ?_
      refine va_get (D := D) (ci := 6) (v := .ref q1) (C := R_Prover) (T := F_Prover) (N := 9) hx hb hts i_Prover hown hK.1 hP 0 rfl rfl 5 (by decide) (hts _ wd_184) (fun _ h9 => h9) rfl d_Prover_countNode_54 ?_
      refine lv_iload_n hx hb d_Prover_countNode_57 rfl (lv_at hl1 1 rfl) ?_
      refine lv_iload_n hx hb d_Prover_countNode_58 rfl (lv_at hl1 2 rfl) ?_
      refine lv_iconst (v := 4) hx hb d_Prover_countNode_59 (by decide) ?_
      refine lv_icmp_ne (tgt := 67) hx hb d_Prover_countNode_60 (by decide) (fun c_68 => ?_) (fun c_68 => ?_)
      · replace c_68 : ¬ o9 = 4 := fun hq9 => c_68 ((nI_eq (a := o9) (b := 4) (by first | exact Nat.lt_of_lt_of_le (by assumption) (by decide) | exact Nat.lt_of_le_of_lt (by assumption) (by decide) | omega) (by decide)).mpr hq9)
        refine lv_iconst (v := 1) hx hb d_Prover_countNode_67 (by decide) ?_
        refine lv_i2s hx hb d_Prover_countNode_68 rfl ?_
        refine lv_topi (fun z_69 ez_69 => ?_)
        have ez_69 : z_69 = 1 := ez_69.trans (by first | rfl | decide)
        subst ez_69
        refine va_sast hx hb hK.1 hP hD hS 1 2 rfl rfl (vp_in_nI (by first | assumption | omega) (by first | exact Nat.lt_of_lt_of_le (by assumption) (by decide) | exact Nat.lt_of_le_of_lt (by assumption) (by decide) | omega)) d_Prover_countNode_69 (fun H_70 locs hP1 hD1 hS1 => ?_)
        rw [nI_clamp (by first | exact Nat.lt_of_lt_of_le (by assumption) (by decide) | exact Nat.lt_of_le_of_lt (by assumption) (by decide) | omega)] at hP1 hD1
        clear hP hD hS
        have hS := hS1
        have hW7 : (fun w9 : va_W => va_P D classes w9 H_70 ∧ va_D A w9) [(p0, .inr (6, [.ref b0, .int s_rows, .int (nI (an + 1)), .int s_first, .ref n0, .ref q1, .ref q2, .ref q3, .int (nI wt)])), (q1, .inl (ax 2, rl, .inl (upd (upd ro (2 * nd + 1) 1) (2 * nd) 1))), (q2, .inl (ax 0, 64, .inl (fun j => nI (dm j)))), (q3, .inl (ax 0, 64, .inl ix)), (n0, .inr (4, [.ref n1, .ref n2, .ref n3, .int (nI z9)])), (n1, .inl (ax 1, cp, .inl fo)), (n2, .inl (ax 0, cp, .inl fl)), (n3, .inl (ax 0, cp, .inl fr))] := ⟨hP1, hD1⟩
        obtain ⟨hP, hD⟩ := hW7
        clear hP1 hD1 hS1
        rw [← hQe]
        obtain ⟨hP9, hD9⟩ := xw_sub2 (wc := (fun (u : Nat → Nat) (xro : Nat → Int32) => [(p0, .inr (6, [.ref b0, .int s_rows, .int (nI (u 0)), .int s_first, .ref n0, .ref q1, .ref q2, .ref q3, .int (nI wt)])), (q1, .inl (ax 2, rl, .inl xro)), (q2, .inl (ax 0, 64, .inl (fun j => nI (dm j)))), (q3, .inl (ax 0, 64, .inl ix)), (n0, .inr (4, [.ref n1, .ref n2, .ref n3, .int (nI z9)])), (n1, .inl (ax 1, cp, .inl fo)), (n2, .inl (ax 0, cp, .inl fl)), (n3, .inl (ax 0, cp, .inl fr))]) (ixn [(an + 1)]) (upd (upd ro (2 * nd + 1) 1) (2 * nd) 1)) hP hD [0, 1, 2, 3, 4, 5, 6, 7] (by decide) rfl
        have hex0 : roQ8 ls9 (nd + 1) (upd (upd ro (2 * nd + 1) 1) (2 * nd) 1) := (roQ8_s1 hro1 (congrArg nI (ro8_a1 (x := 1) (show (ath ls9 nd).1 < 6 by omega) (by first | exact Or.inl ⟨show (ath ls9 nd).1 = 5 by omega, rfl⟩ | exact Or.inr ⟨show ¬ (ath ls9 nd).1 = 5 by omega, rfl⟩))) (congrArg nI (ro8_a0 (x := 1) (show (ath ls9 nd).1 < 6 by omega) (by first | exact Or.inl ⟨show (ath ls9 nd).1 = 4 by omega, rfl⟩ | exact Or.inr ⟨show ¬ (ath ls9 nd).1 = 4 by omega, rfl⟩))))
        have hsp0 : (an + 1) = atn8 (olf ls9) (nd + 1) := (atn8_y han (show (ath ls9 nd).1 < 6 by omega))
        exact W.vret hx hb hr (fun t ht hW => ⟨⟨ixn [(an + 1)], rfl, hsp0, ⟨(upd (upd ro (2 * nd + 1) 1) (2 * nd) 1), hex0, by rw [ht]; exact hP9, hD9⟩⟩, hS.F ht⟩) hS.2.2 d_Prover_countNode_70
      · replace c_68 : o9 = 4 := (nI_eq (a := o9) (b := 4) (by first | exact Nat.lt_of_lt_of_le (by assumption) (by decide) | exact Nat.lt_of_le_of_lt (by assumption) (by decide) | omega) (by decide)).mp c_68
        refine lv_iconst (v := 2) hx hb d_Prover_countNode_63 (by decide) ?_
        refine lv_goto (tgt := 68) hx hb d_Prover_countNode_64 (by decide) ?_
        refine lv_i2s hx hb d_Prover_countNode_68 rfl ?_
        refine lv_topi (fun z_71 ez_71 => ?_)
        have ez_71 : z_71 = 2 := ez_71.trans (by first | rfl | decide)
        subst ez_71
        refine va_sast hx hb hK.1 hP hD hS 1 2 rfl rfl (vp_in_nI (by first | assumption | omega) (by first | exact Nat.lt_of_lt_of_le (by assumption) (by decide) | exact Nat.lt_of_le_of_lt (by assumption) (by decide) | omega)) d_Prover_countNode_69 (fun H_72 locs hP1 hD1 hS1 => ?_)
        rw [nI_clamp (by first | exact Nat.lt_of_lt_of_le (by assumption) (by decide) | exact Nat.lt_of_le_of_lt (by assumption) (by decide) | omega)] at hP1 hD1
        clear hP hD hS
        have hS := hS1
        have hW7 : (fun w9 : va_W => va_P D classes w9 H_72 ∧ va_D A w9) [(p0, .inr (6, [.ref b0, .int s_rows, .int (nI (an + 1)), .int s_first, .ref n0, .ref q1, .ref q2, .ref q3, .int (nI wt)])), (q1, .inl (ax 2, rl, .inl (upd (upd ro (2 * nd + 1) 1) (2 * nd) 2))), (q2, .inl (ax 0, 64, .inl (fun j => nI (dm j)))), (q3, .inl (ax 0, 64, .inl ix)), (n0, .inr (4, [.ref n1, .ref n2, .ref n3, .int (nI z9)])), (n1, .inl (ax 1, cp, .inl fo)), (n2, .inl (ax 0, cp, .inl fl)), (n3, .inl (ax 0, cp, .inl fr))] := ⟨hP1, hD1⟩
        obtain ⟨hP, hD⟩ := hW7
        clear hP1 hD1 hS1
        rw [← hQe]
        obtain ⟨hP9, hD9⟩ := xw_sub2 (wc := (fun (u : Nat → Nat) (xro : Nat → Int32) => [(p0, .inr (6, [.ref b0, .int s_rows, .int (nI (u 0)), .int s_first, .ref n0, .ref q1, .ref q2, .ref q3, .int (nI wt)])), (q1, .inl (ax 2, rl, .inl xro)), (q2, .inl (ax 0, 64, .inl (fun j => nI (dm j)))), (q3, .inl (ax 0, 64, .inl ix)), (n0, .inr (4, [.ref n1, .ref n2, .ref n3, .int (nI z9)])), (n1, .inl (ax 1, cp, .inl fo)), (n2, .inl (ax 0, cp, .inl fl)), (n3, .inl (ax 0, cp, .inl fr))]) (ixn [(an + 1)]) (upd (upd ro (2 * nd + 1) 1) (2 * nd) 2)) hP hD [0, 1, 2, 3, 4, 5, 6, 7] (by decide) rfl
        have hex0 : roQ8 ls9 (nd + 1) (upd (upd ro (2 * nd + 1) 1) (2 * nd) 2) := (roQ8_s1 hro1 (congrArg nI (ro8_a1 (x := 1) (show (ath ls9 nd).1 < 6 by omega) (by first | exact Or.inl ⟨show (ath ls9 nd).1 = 5 by omega, rfl⟩ | exact Or.inr ⟨show ¬ (ath ls9 nd).1 = 5 by omega, rfl⟩))) (congrArg nI (ro8_a0 (x := 2) (show (ath ls9 nd).1 < 6 by omega) (by first | exact Or.inl ⟨show (ath ls9 nd).1 = 4 by omega, rfl⟩ | exact Or.inr ⟨show ¬ (ath ls9 nd).1 = 4 by omega, rfl⟩))))
        have hsp0 : (an + 1) = atn8 (olf ls9) (nd + 1) := (atn8_y han (show (ath ls9 nd).1 < 6 by omega))
        exact W.vret hx hb hr (fun t ht hW => ⟨⟨ixn [(an + 1)], rfl, hsp0, ⟨(upd (upd ro (2 * nd + 1) 1) (2 * nd) 2), hex0, by rw [ht]; exact hP9, hD9⟩⟩, hS.F ht⟩) hS.2.2 d_Prover_countNode_70
    · replace c_65 : o9 = 5 := (nI_eq (a := o9) (b := 5) (by first | exact Nat.lt_of_lt_of_le (by assumption) (by decide) | exact Nat.lt_of_le_of_lt (by assumption) (by decide) | omega) (by decide)).mp c_65
      refine lv_iconst (v := 2) hx hb d_Prover_countNode_46 (by decide) ?_
      refine lv_goto (tgt := 51) hx hb d_Prover_countNode_47 (by decide) ?_
      refine lv_i2s hx hb d_Prover_countNode_51 rfl ?_
      refine lv_topi (fun z_73 ez_73 => ?_)
      have ez_73 : z_73 = 2 := ez_73.trans (by first | rfl | decide)
      subst ez_73
      refine va_sast hx hb hK.1 hP hD hS 1 2 rfl rfl (vp_in_nI (by first | assumption | omega) (by first | exact Nat.lt_of_lt_of_le (by assumption) (by decide) | exact Nat.lt_of_le_of_lt (by assumption) (by decide) | omega)) d_Prover_countNode_52 (fun H_74 locs hP1 hD1 hS1 => ?_)
      rw [nI_clamp (by first | exact Nat.lt_of_lt_of_le (by assumption) (by decide) | exact Nat.lt_of_le_of_lt (by assumption) (by decide) | omega)] at hP1 hD1
      clear hP hD hS
      have hS := hS1
      have hW7 : (fun w9 : va_W => va_P D classes w9 H_74 ∧ va_D A w9) [(p0, .inr (6, [.ref b0, .int s_rows, .int (nI (an + 1)), .int s_first, .ref n0, .ref q1, .ref q2, .ref q3, .int (nI wt)])), (q1, .inl (ax 2, rl, .inl (upd ro (2 * nd + 1) 2))), (q2, .inl (ax 0, 64, .inl (fun j => nI (dm j)))), (q3, .inl (ax 0, 64, .inl ix)), (n0, .inr (4, [.ref n1, .ref n2, .ref n3, .int (nI z9)])), (n1, .inl (ax 1, cp, .inl fo)), (n2, .inl (ax 0, cp, .inl fl)), (n3, .inl (ax 0, cp, .inl fr))] := ⟨hP1, hD1⟩
      obtain ⟨hP, hD⟩ := hW7
      clear hP1 hD1 hS1
      refine lv_aload_n hx hb d_Prover_countNode_53 rfl (lv_at hl1 3 rfl) ?_
      refine va_get (D := D) (ci := 6) (v := .ref q1) (C := R_Prover) (T := F_Prover) (N := 9) hx hb hts i_Prover hown hK.1 hP 0 rfl rfl 5 (by decide) (hts _ wd_184) (fun _ h9 => h9) rfl d_Prover_countNode_54 ?_
      refine lv_iload_n hx hb d_Prover_countNode_57 rfl (lv_at hl1 1 rfl) ?_
      refine lv_iload_n hx hb d_Prover_countNode_58 rfl (lv_at hl1 2 rfl) ?_
      refine lv_iconst (v := 4) hx hb d_Prover_countNode_59 (by decide) ?_
      refine lv_icmp_ne (tgt := 67) hx hb d_Prover_countNode_60 (by decide) (fun c_75 => ?_) (fun c_75 => ?_)
      · replace c_75 : ¬ o9 = 4 := fun hq9 => c_75 ((nI_eq (a := o9) (b := 4) (by first | exact Nat.lt_of_lt_of_le (by assumption) (by decide) | exact Nat.lt_of_le_of_lt (by assumption) (by decide) | omega) (by decide)).mpr hq9)
        refine lv_iconst (v := 1) hx hb d_Prover_countNode_67 (by decide) ?_
        refine lv_i2s hx hb d_Prover_countNode_68 rfl ?_
        refine lv_topi (fun z_76 ez_76 => ?_)
        have ez_76 : z_76 = 1 := ez_76.trans (by first | rfl | decide)
        subst ez_76
        refine va_sast hx hb hK.1 hP hD hS 1 2 rfl rfl (vp_in_nI (by first | assumption | omega) (by first | exact Nat.lt_of_lt_of_le (by assumption) (by decide) | exact Nat.lt_of_le_of_lt (by assumption) (by decide) | omega)) d_Prover_countNode_69 (fun H_77 locs hP1 hD1 hS1 => ?_)
        rw [nI_clamp (by first | exact Nat.lt_of_lt_of_le (by assumption) (by decide) | exact Nat.lt_of_le_of_lt (by assumption) (by decide) | omega)] at hP1 hD1
        clear hP hD hS
        have hS := hS1
        have hW7 : (fun w9 : va_W => va_P D classes w9 H_77 ∧ va_D A w9) [(p0, .inr (6, [.ref b0, .int s_rows, .int (nI (an + 1)), .int s_first, .ref n0, .ref q1, .ref q2, .ref q3, .int (nI wt)])), (q1, .inl (ax 2, rl, .inl (upd (upd ro (2 * nd + 1) 2) (2 * nd) 1))), (q2, .inl (ax 0, 64, .inl (fun j => nI (dm j)))), (q3, .inl (ax 0, 64, .inl ix)), (n0, .inr (4, [.ref n1, .ref n2, .ref n3, .int (nI z9)])), (n1, .inl (ax 1, cp, .inl fo)), (n2, .inl (ax 0, cp, .inl fl)), (n3, .inl (ax 0, cp, .inl fr))] := ⟨hP1, hD1⟩
        obtain ⟨hP, hD⟩ := hW7
        clear hP1 hD1 hS1
        rw [← hQe]
        obtain ⟨hP9, hD9⟩ := xw_sub2 (wc := (fun (u : Nat → Nat) (xro : Nat → Int32) => [(p0, .inr (6, [.ref b0, .int s_rows, .int (nI (u 0)), .int s_first, .ref n0, .ref q1, .ref q2, .ref q3, .int (nI wt)])), (q1, .inl (ax 2, rl, .inl xro)), (q2, .inl (ax 0, 64, .inl (fun j => nI (dm j)))), (q3, .inl (ax 0, 64, .inl ix)), (n0, .inr (4, [.ref n1, .ref n2, .ref n3, .int (nI z9)])), (n1, .inl (ax 1, cp, .inl fo)), (n2, .inl (ax 0, cp, .inl fl)), (n3, .inl (ax 0, cp, .inl fr))]) (ixn [(an + 1)]) (upd (upd ro (2 * nd + 1) 2) (2 * nd) 1)) hP hD [0, 1, 2, 3, 4, 5, 6, 7] (by decide) rfl
        have hex0 : roQ8 ls9 (nd + 1) (upd (upd ro (2 * nd + 1) 2) (2 * nd) 1) := (roQ8_s1 hro1 (congrArg nI (ro8_a1 (x := 2) (show (ath ls9 nd).1 < 6 by omega) (by first | exact Or.inl ⟨show (ath ls9 nd).1 = 5 by omega, rfl⟩ | exact Or.inr ⟨show ¬ (ath ls9 nd).1 = 5 by omega, rfl⟩))) (congrArg nI (ro8_a0 (x := 1) (show (ath ls9 nd).1 < 6 by omega) (by first | exact Or.inl ⟨show (ath ls9 nd).1 = 4 by omega, rfl⟩ | exact Or.inr ⟨show ¬ (ath ls9 nd).1 = 4 by omega, rfl⟩))))
        have hsp0 : (an + 1) = atn8 (olf ls9) (nd + 1) := (atn8_y han (show (ath ls9 nd).1 < 6 by omega))
        exact W.vret hx hb hr (fun t ht hW => ⟨⟨ixn [(an + 1)], rfl, hsp0, ⟨(upd (upd ro (2 * nd + 1) 2) (2 * nd) 1), hex0, by rw [ht]; exact hP9, hD9⟩⟩, hS.F ht⟩) hS.2.2 d_Prover_countNode_70
      · replace c_75 : o9 = 4 := (nI_eq (a := o9) (b := 4) (by first | exact Nat.lt_of_lt_of_le (by assumption) (by decide) | exact Nat.lt_of_le_of_lt (by assumption) (by decide) | omega) (by decide)).mp c_75
        refine lv_iconst (v := 2) hx hb d_Prover_countNode_63 (by decide) ?_
        refine lv_goto (tgt := 68) hx hb d_Prover_countNode_64 (by decide) ?_
        refine lv_i2s hx hb d_Prover_countNode_68 rfl ?_
        refine lv_topi (fun z_78 ez_78 => ?_)
        have ez_78 : z_78 = 2 := ez_78.trans (by first | rfl | decide)
        subst ez_78
        refine va_sast hx hb hK.1 hP hD hS 1 2 rfl rfl (vp_in_nI (by first | assumption | omega) (by first | exact Nat.lt_of_lt_of_le (by assumption) (by decide) | exact Nat.lt_of_le_of_lt (by assumption) (by decide) | omega)) d_Prover_countNode_69 (fun H_79 locs hP1 hD1 hS1 => ?_)
        rw [nI_clamp (by first | exact Nat.lt_of_lt_of_le (by assumption) (by decide) | exact Nat.lt_of_le_of_lt (by assumption) (by decide) | omega)] at hP1 hD1
        clear hP hD hS
        have hS := hS1
        have hW7 : (fun w9 : va_W => va_P D classes w9 H_79 ∧ va_D A w9) [(p0, .inr (6, [.ref b0, .int s_rows, .int (nI (an + 1)), .int s_first, .ref n0, .ref q1, .ref q2, .ref q3, .int (nI wt)])), (q1, .inl (ax 2, rl, .inl (upd (upd ro (2 * nd + 1) 2) (2 * nd) 2))), (q2, .inl (ax 0, 64, .inl (fun j => nI (dm j)))), (q3, .inl (ax 0, 64, .inl ix)), (n0, .inr (4, [.ref n1, .ref n2, .ref n3, .int (nI z9)])), (n1, .inl (ax 1, cp, .inl fo)), (n2, .inl (ax 0, cp, .inl fl)), (n3, .inl (ax 0, cp, .inl fr))] := ⟨hP1, hD1⟩
        obtain ⟨hP, hD⟩ := hW7
        clear hP1 hD1 hS1
        rw [← hQe]
        obtain ⟨hP9, hD9⟩ := xw_sub2 (wc := (fun (u : Nat → Nat) (xro : Nat → Int32) => [(p0, .inr (6, [.ref b0, .int s_rows, .int (nI (u 0)), .int s_first, .ref n0, .ref q1, .ref q2, .ref q3, .int (nI wt)])), (q1, .inl (ax 2, rl, .inl xro)), (q2, .inl (ax 0, 64, .inl (fun j => nI (dm j)))), (q3, .inl (ax 0, 64, .inl ix)), (n0, .inr (4, [.ref n1, .ref n2, .ref n3, .int (nI z9)])), (n1, .inl (ax 1, cp, .inl fo)), (n2, .inl (ax 0, cp, .inl fl)), (n3, .inl (ax 0, cp, .inl fr))]) (ixn [(an + 1)]) (upd (upd ro (2 * nd + 1) 2) (2 * nd) 2)) hP hD [0, 1, 2, 3, 4, 5, 6, 7] (by decide) rfl
        have hex0 : roQ8 ls9 (nd + 1) (upd (upd ro (2 * nd + 1) 2) (2 * nd) 2) := (roQ8_s1 hro1 (congrArg nI (ro8_a1 (x := 2) (show (ath ls9 nd).1 < 6 by omega) (by first | exact Or.inl ⟨show (ath ls9 nd).1 = 5 by omega, rfl⟩ | exact Or.inr ⟨show ¬ (ath ls9 nd).1 = 5 by omega, rfl⟩))) (congrArg nI (ro8_a0 (x := 2) (show (ath ls9 nd).1 < 6 by omega) (by first | exact Or.inl ⟨show (ath ls9 nd).1 = 4 by omega, rfl⟩ | exact Or.inr ⟨show ¬ (ath ls9 nd).1 = 4 by omega, rfl⟩))))
        have hsp0 : (an + 1) = atn8 (olf ls9) (nd + 1) := (atn8_y han (show (ath ls9 nd).1 < 6 by omega))
        exact W.vret hx hb hr (fun t ht hW => ⟨⟨ixn [(an + 1)], rfl, hsp0, ⟨(upd (upd ro (2 * nd + 1) 2) (2 * nd) 2), hex0, by rw [ht]; exact hP9, hD9⟩⟩, hS.F ht⟩) hS.2.2 d_Prover_countNode_70
abbrev b_Prover_rowsAlike : ByteArray := prog_8_method_7_code
def y_Prover_rowsAlike : MethodName := ⟨R_Prover, "rowsAlike", "()I"⟩
theorem d_Prover_rowsAlike_0 : decode b_Prover_rowsAlike 0 = .ok (.iconst 1, 1) := by decide +kernel
theorem d_Prover_rowsAlike_1 : decode b_Prover_rowsAlike 1 = .ok (.istore_n 1, 1) := by decide +kernel
theorem d_Prover_rowsAlike_2 : decode b_Prover_rowsAlike 2 = .ok (.iconst 0, 1) := by decide +kernel
theorem d_Prover_rowsAlike_3 : decode b_Prover_rowsAlike 3 = .ok (.istore_n 2, 1) := by decide +kernel
theorem d_Prover_rowsAlike_4 : decode b_Prover_rowsAlike 4 = .ok (.iload_n 2, 1) := by decide +kernel
theorem d_Prover_rowsAlike_5 : decode b_Prover_rowsAlike 5 = .ok (.aload_n 0, 1) := by decide +kernel
theorem d_Prover_rowsAlike_6 : decode b_Prover_rowsAlike 6 = .ok (.getfield 86, 3) := by decide +kernel
theorem d_Prover_rowsAlike_9 : decode b_Prover_rowsAlike 9 = .ok (.if_icmp .ge 23, 3) := by decide +kernel
theorem d_Prover_rowsAlike_12 : decode b_Prover_rowsAlike 12 = .ok (.iload_n 1, 1) := by decide +kernel
theorem d_Prover_rowsAlike_13 : decode b_Prover_rowsAlike 13 = .ok (.aload_n 0, 1) := by decide +kernel
theorem d_Prover_rowsAlike_14 : decode b_Prover_rowsAlike 14 = .ok (.getfield 18, 3) := by decide +kernel
theorem d_Prover_rowsAlike_17 : decode b_Prover_rowsAlike 17 = .ok (.aload_n 0, 1) := by decide +kernel
theorem d_Prover_rowsAlike_18 : decode b_Prover_rowsAlike 18 = .ok (.getfield 22, 3) := by decide +kernel
theorem d_Prover_rowsAlike_21 : decode b_Prover_rowsAlike 21 = .ok (.iload_n 2, 1) := by decide +kernel
theorem d_Prover_rowsAlike_22 : decode b_Prover_rowsAlike 22 = .ok (.iaload, 1) := by decide +kernel
theorem d_Prover_rowsAlike_23 : decode b_Prover_rowsAlike 23 = .ok (.saload, 1) := by decide +kernel
theorem d_Prover_rowsAlike_24 : decode b_Prover_rowsAlike 24 = .ok (.imul, 1) := by decide +kernel
theorem d_Prover_rowsAlike_25 : decode b_Prover_rowsAlike 25 = .ok (.istore_n 1, 1) := by decide +kernel
theorem d_Prover_rowsAlike_26 : decode b_Prover_rowsAlike 26 = .ok (.iinc 2 1, 3) := by decide +kernel
theorem d_Prover_rowsAlike_29 : decode b_Prover_rowsAlike 29 = .ok (.goto (-25), 3) := by decide +kernel
theorem d_Prover_rowsAlike_32 : decode b_Prover_rowsAlike 32 = .ok (.iload_n 1, 1) := by decide +kernel
theorem d_Prover_rowsAlike_33 : decode b_Prover_rowsAlike 33 = .ok (.ireturn, 1) := by decide +kernel
set_option maxHeartbeats 40000000 in
set_option maxRecDepth 100000 in
theorem c_P_rowsAlike (l : Launch) (D : va_G) (ax : Nat → ClassId) (p0 q1 q2 q3 wt rl b0 : Nat) (s_rows s_atoms s_first : Int32) (ro ix : Nat → Int32) (dm : Nat → Nat) (n0 : Nat) (z9 : Nat) (ls9 : List sgT) (sz : Nat) (hwt : wt ≤ 64) (hdm : ∀ i, i < wt → dm i < 2 * z9) (hrl : 2 * z9 ≤ rl) (hrl2 : rl ≤ 300000) (hro : roQ8 ls9 z9 ro) : Met l y_Prover_rowsAlike (xws (.code y_Prover_rowsAlike b_Prover_rowsAlike 3 (some .int))) ({ frames := 10, cells := 0, slots := 0, locals := 400 }) (va_Pc [.ref p0] (xo D ax [(p0, .inr (6, [.ref b0, .int s_rows, .int s_atoms, .int s_first, .ref n0, .ref q1, .ref q2, .ref q3, .int (nI wt)])), (q1, .inl (ax 2, rl, .inl ro)), (q2, .inl (ax 0, 64, .inl (fun j => nI (dm j)))), (q3, .inl (ax 0, 64, .inl ix))] sz)) ((va_Qi (fun (r : Int32) (u : Nat → Nat) => r = nI (u 0) ∧ (u 0 = pd8 (olf ls9) (dml8 dm wt))) (xb D (va_A [(p0, .inr (6, [.ref b0, .int s_rows, .int s_atoms, .int s_first, .ref n0, .ref q1, .ref q2, .ref q3, .int (nI wt)])), (q1, .inl (ax 2, rl, .inl ro)), (q2, .inl (ax 0, 64, .inl (fun j => nI (dm j)))), (q3, .inl (ax 0, 64, .inl ix))] sz) (fun u => [(p0, .inr (6, [.ref b0, .int s_rows, .int s_atoms, .int s_first, .ref n0, .ref q1, .ref q2, .ref q3, .int (nI wt)])), (q1, .inl (ax 2, rl, .inl ro)), (q2, .inl (ax 0, 64, .inl (fun j => nI (dm j)))), (q3, .inl (ax 0, 64, .inl ix))])) (va_A [(p0, .inr (6, [.ref b0, .int s_rows, .int s_atoms, .int s_first, .ref n0, .ref q1, .ref q2, .ref q3, .int (nI wt)])), (q1, .inl (ax 2, rl, .inl ro)), (q2, .inl (ax 0, 64, .inl (fun j => nI (dm j)))), (q3, .inl (ax 0, 64, .inl ix))] sz))) 0 0 (va_A [(p0, .inr (6, [.ref b0, .int s_rows, .int s_atoms, .int s_first, .ref n0, .ref q1, .ref q2, .ref q3, .int (nI wt)])), (q1, .inl (ax 2, rl, .inl ro)), (q2, .inl (ax 0, 64, .inl (fun j => nI (dm j)))), (q3, .inl (ax 0, 64, .inl ix))] sz) := by
  refine Met.ofW (cc := b_Prover_rowsAlike) (maxL := 3) (ret := (some .int)) (by decide) rfl ?_
  intro p e s m args below meth c s₁ B hml hv
  obtain ⟨rfl, hsz, hP, hK, hD0⟩ := hv
  have hx := B.exec
  have hb := B.bytes
  have hr := B.returns
  have hts := xw_hts B.pre
  have hown : s.vm.findClass R_Prover = some m.cls := findClass_of_methodNamed B.named
  have hlocks := B.notSynchronized
  subst hsz
  have hD := hD0.self (sz := s.heap.size)
  have hN := xz_entry hP
  generalize hAe : va_A [(p0, .inr (6, [.ref b0, .int s_rows, .int s_atoms, .int s_first, .ref n0, .ref q1, .ref q2, .ref q3, .int (nI wt)])), (q1, .inl (ax 2, rl, .inl ro)), (q2, .inl (ax 0, 64, .inl (fun j => nI (dm j)))), (q3, .inl (ax 0, 64, .inl ix))] s.heap.size = A at hD hN ⊢
  have hA : ∀ q : Nat, s.heap.size ≤ q → A q := fun q h => by rw [← hAe]; exact Or.inr h
  have hS : va_S A s.heap s.heap [] := va_S.rf
  have hl0 := lv_entry ([.ref p0]) (n := 3) (Nat.le_of_ble_eq_true rfl)
  rw [lg_entry_eq]
  generalize (lg_sl ([.ref p0]) ++ List.replicate (3 - (lg_sl ([.ref p0])).length) Slot.unset).toArray = ls at hl0 ⊢
  have hl1 : lv_has ls 3 [(0, .ref p0)] := hl0
  refine xw_gen (fun Z9 hQe => ?_)
  refine lv_iconst (v := 1) hx hb d_Prover_rowsAlike_0 (by decide) ?_
  refine lv_istore_n (lv' := [(1, .int 1), (0, .ref p0)]) hx hb d_Prover_rowsAlike_1 rfl hl1 (by decide) rfl (fun ls hl2 => ?_)
  clear hl1; have hl1 := hl2; clear hl2
  refine lv_iconst (v := 0) hx hb d_Prover_rowsAlike_2 (by decide) ?_
  refine lv_istore_n (lv' := [(2, .int 0), (1, .int 1), (0, .ref p0)]) hx hb d_Prover_rowsAlike_3 rfl hl1 (by decide) rfl (fun ls hl2 => ?_)
  clear hl1; have hl1 := hl2; clear hl2
  suffices key_1 : ∀ (k : Nat) (i1 x9 : Nat), wt - i1 < k → i1 ≤ wt → x9 = pd8 (olf ls9) (dml8 dm i1) → ∀ (H : Heap) (locs : List Loc) (ls : Array Slot), va_P D classes [(p0, .inr (6, [.ref b0, .int s_rows, .int s_atoms, .int s_first, .ref n0, .ref q1, .ref q2, .ref q3, .int (nI wt)])), (q1, .inl (ax 2, rl, .inl ro)), (q2, .inl (ax 0, 64, .inl (fun j => nI (dm j)))), (q3, .inl (ax 0, 64, .inl ix))] H → va_D A [(p0, .inr (6, [.ref b0, .int s_rows, .int s_atoms, .int s_first, .ref n0, .ref q1, .ref q2, .ref q3, .int (nI wt)])), (q1, .inl (ax 2, rl, .inl ro)), (q2, .inl (ax 0, 64, .inl (fun j => nI (dm j)))), (q3, .inl (ax 0, 64, .inl ix))] → va_S A s.heap H locs → lv_has ls 3 [(0, .ref p0), (1, .int (nI x9)), (2, .int (nI i1))] → W p l e (headSpec (xws (.code y_Prover_rowsAlike b_Prover_rowsAlike 3 (some .int))) ({ frames := 10, cells := 0, slots := 0, locals := 400 })).room s m ([.ref p0] : List Value).toArray below meth c H locs 0 0 Z9 (F0 m 4 ls []) from key_1 (wt - 0 + 1) 0 1 (Nat.lt_succ_self _) (by first | assumption | omega) rfl _ _ _ (hP) (hD) hS (lv_sub hl1 [2, 1, 0] rfl)
  intro k_2
  induction k_2 with
  | zero =>
    intro i1 x9 hk_4
    exact absurd hk_4 (Nat.not_lt_zero _)
  | succ k_2 ih_3 =>
    clear hP hD hS hl1
    intro i1 x9 hk_4 hi1 hx98 H locs ls hP hD hS hl1
    refine lv_iload_n hx hb d_Prover_rowsAlike_4 rfl (lv_at hl1 2 rfl) ?_
    refine lv_aload_n hx hb d_Prover_rowsAlike_5 rfl (lv_at hl1 0 rfl) ?_
    refine va_get (D := D) (ci := 6) (v := .int (nI wt)) (C := R_Prover) (T := F_Prover) (N := 9) hx hb hts i_Prover hown hK.1 hP 0 rfl rfl 8 (by decide) (hts _ wd_187) (fun _ h9 => h9) rfl d_Prover_rowsAlike_6 ?_
    refine lv_icmp_ge (tgt := 32) hx hb d_Prover_rowsAlike_9 (by decide) (fun c_5 => ?_) (fun c_5 => ?_)
    · replace c_5 : wt ≤ i1 := (nI_leI (a := wt) (b := i1) (by first | exact Nat.lt_of_lt_of_le (by assumption) (by decide) | exact Nat.lt_of_le_of_lt (by assumption) (by decide) | omega) (by first | exact Nat.lt_of_lt_of_le (by assumption) (by decide) | exact Nat.lt_of_le_of_lt (by assumption) (by decide) | omega)).mp c_5
      refine lv_iload_n hx hb d_Prover_rowsAlike_32 rfl (lv_at hl1 1 rfl) ?_
      rw [← hQe]
      obtain ⟨hP9, hD9⟩ := xw_sub2 (wc := (fun u : Nat → Nat => [(p0, .inr (6, [.ref b0, .int s_rows, .int s_atoms, .int s_first, .ref n0, .ref q1, .ref q2, .ref q3, .int (nI wt)])), (q1, .inl (ax 2, rl, .inl ro)), (q2, .inl (ax 0, 64, .inl (fun j => nI (dm j)))), (q3, .inl (ax 0, 64, .inl ix))]) (ixn [x9])) hP hD [0, 1, 2, 3] (by decide) rfl
      have hsp0 : x9 = pd8 (olf ls9) (dml8 dm wt) := (by rw [hx98, show i1 = wt by omega])
      exact W.iret (v := nI x9) hx hb hr (fun t ht hW => ⟨⟨nI x9, ixn [x9], rfl, ⟨rfl, hsp0⟩, ⟨by rw [ht]; exact hP9, hD9⟩⟩, hS.F ht⟩) hS.2.2 d_Prover_rowsAlike_33
    · replace c_5 : ¬ wt ≤ i1 := fun hq9 => c_5 ((nI_leI (a := wt) (b := i1) (by first | exact Nat.lt_of_lt_of_le (by assumption) (by decide) | exact Nat.lt_of_le_of_lt (by assumption) (by decide) | omega) (by first | exact Nat.lt_of_lt_of_le (by assumption) (by decide) | exact Nat.lt_of_le_of_lt (by assumption) (by decide) | omega)).mpr hq9)
      have hd9 := hdm i1 (by first | assumption | omega)
      refine lv_iload_n hx hb d_Prover_rowsAlike_12 rfl (lv_at hl1 1 rfl) ?_
      refine lv_aload_n hx hb d_Prover_rowsAlike_13 rfl (lv_at hl1 0 rfl) ?_
      refine va_get (D := D) (ci := 6) (v := .ref q1) (C := R_Prover) (T := F_Prover) (N := 9) hx hb hts i_Prover hown hK.1 hP 0 rfl rfl 5 (by decide) (hts _ wd_184) (fun _ h9 => h9) rfl d_Prover_rowsAlike_14 ?_
      refine lv_aload_n hx hb d_Prover_rowsAlike_17 rfl (lv_at hl1 0 rfl) ?_
      refine va_get (D := D) (ci := 6) (v := .ref q2) (C := R_Prover) (T := F_Prover) (N := 9) hx hb hts i_Prover hown hK.1 hP 0 rfl rfl 6 (by decide) (hts _ wd_185) (fun _ h9 => h9) rfl d_Prover_rowsAlike_18 ?_
      refine lv_iload_n hx hb d_Prover_rowsAlike_21 rfl (lv_at hl1 2 rfl) ?_
      refine va_iald hx hb hK.1 hP 2 0 rfl rfl (vp_in_nI (by first | assumption | omega) (by decide)) d_Prover_rowsAlike_22 ?_
      refine W.eq (g2 := F0 m 23 ls [.int (nI (dm i1)), .ref q1, .int (nI x9)]) (by rw [nI_clamp (by first | exact Nat.lt_of_lt_of_le (by assumption) (by decide) | exact Nat.lt_of_le_of_lt (by assumption) (by decide) | omega)]) ?_
      refine va_sald hx hb hK.1 hP 1 2 rfl rfl (vp_in_nI (by first | assumption | omega) (by first | exact Nat.lt_of_lt_of_le (by assumption) (by decide) | exact Nat.lt_of_le_of_lt (by assumption) (by decide) | omega)) d_Prover_rowsAlike_23 ?_
      refine W.eq (g2 := F0 m 24 ls [.int (ro (dm i1)), .int (nI x9)]) (by rw [nI_clamp (by first | exact Nat.lt_of_lt_of_le (by assumption) (by decide) | exact Nat.lt_of_le_of_lt (by assumption) (by decide) | omega)]) ?_
      have hro9 : ro (dm i1) = nI (rwo (olf ls9) (dm i1)) := by first | exact hro _ (by first | assumption | omega) | (rw [upd_ne (by first | assumption | omega)]; exact hro _ (by first | assumption | omega))
      have hrp9 := rwo_pos (o := olf ls9) (d := dm i1)
      have hrq9 := rwo_le (o := olf ls9) (d := dm i1)
      refine W.eq (g2 := F0 m 24 ls [.int (nI (rwo (olf ls9) (dm i1))), .int (nI x9)]) (by rw [hro9]) ?_
      clear hro9
      refine lv_imul hx hb d_Prover_rowsAlike_24 ?_
      refine lv_topi (fun z_6 ez_6 => ?_)
      have ez_6 : z_6 = nI (x9 * (rwo (olf ls9) (dm i1))) := ez_6.trans (pk_mul x9 (rwo (olf ls9) (dm i1)))
      subst ez_6
      refine lv_istore_n (lv' := [(1, .int (nI (x9 * (rwo (olf ls9) (dm i1))))), (0, .ref p0), (2, .int (nI i1))]) hx hb d_Prover_rowsAlike_25 rfl hl1 (by decide) rfl (fun ls hl2 => ?_)
      clear hl1; have hl1 := hl2; clear hl2
      refine lv_iinc (v := nI (i1 + 1)) (lv' := [(2, .int (nI (i1 + 1))), (1, .int (nI (x9 * (rwo (olf ls9) (dm i1))))), (0, .ref p0)]) hx hb d_Prover_rowsAlike_26 hl1 (k := 2) rfl (nI_add i1 1) (by decide) rfl (fun ls hl2 => ?_)
      clear hl1; have hl1 := hl2; clear hl2
      refine lv_goto (tgt := 4) hx hb d_Prover_rowsAlike_29 (by decide) ?_
      exact ih_3 (i1 + 1) (x9 * (rwo (olf ls9) (dm i1))) (by first | assumption | omega) (by first | assumption | omega) (by rw [hx98]; exact Nat.mul_comm _ _) _ _ _ (hP.sub [0, 1, 2, 3] rfl) (hD.sub [0, 1, 2, 3] (by decide) rfl) hS (lv_sub hl1 [2, 1, 0] rfl)
abbrev b_Prover_fits : ByteArray := prog_8_method_6_code
def y_Prover_fits : MethodName := ⟨R_Prover, "fits", "(I)Z"⟩
theorem d_Prover_fits_0 : decode b_Prover_fits 0 = .ok (.aload_n 0, 1) := by decide +kernel
theorem d_Prover_fits_1 : decode b_Prover_fits 1 = .ok (.getfield 12, 3) := by decide +kernel
theorem d_Prover_fits_4 : decode b_Prover_fits 4 = .ok (.invokevirtual 83, 3) := by decide +kernel
theorem d_Prover_fits_7 : decode b_Prover_fits 7 = .ok (.aload_n 0, 1) := by decide +kernel
theorem d_Prover_fits_8 : decode b_Prover_fits 8 = .ok (.iconst 0, 1) := by decide +kernel
theorem d_Prover_fits_9 : decode b_Prover_fits 9 = .ok (.putfield 86, 3) := by decide +kernel
theorem d_Prover_fits_12 : decode b_Prover_fits 12 = .ok (.aload_n 0, 1) := by decide +kernel
theorem d_Prover_fits_13 : decode b_Prover_fits 13 = .ok (.iconst 2, 1) := by decide +kernel
theorem d_Prover_fits_14 : decode b_Prover_fits 14 = .ok (.aload_n 0, 1) := by decide +kernel
theorem d_Prover_fits_15 : decode b_Prover_fits 15 = .ok (.getfield 29, 3) := by decide +kernel
theorem d_Prover_fits_18 : decode b_Prover_fits 18 = .ok (.invokevirtual 50, 3) := by decide +kernel
theorem d_Prover_fits_21 : decode b_Prover_fits 21 = .ok (.imul, 1) := by decide +kernel
theorem d_Prover_fits_22 : decode b_Prover_fits 22 = .ok (.iload_n 1, 1) := by decide +kernel
theorem d_Prover_fits_23 : decode b_Prover_fits 23 = .ok (.invokevirtual 89, 3) := by decide +kernel
theorem d_Prover_fits_26 : decode b_Prover_fits 26 = .ok (.iconst 1, 1) := by decide +kernel
theorem d_Prover_fits_27 : decode b_Prover_fits 27 = .ok (.istore_n 2, 1) := by decide +kernel
theorem d_Prover_fits_28 : decode b_Prover_fits 28 = .ok (.iconst 0, 1) := by decide +kernel
theorem d_Prover_fits_29 : decode b_Prover_fits 29 = .ok (.istore_n 3, 1) := by decide +kernel
theorem d_Prover_fits_30 : decode b_Prover_fits 30 = .ok (.iload_n 2, 1) := by decide +kernel
theorem d_Prover_fits_31 : decode b_Prover_fits 31 = .ok (.ifCond .eq 130, 3) := by decide +kernel
theorem d_Prover_fits_34 : decode b_Prover_fits 34 = .ok (.aload_n 0, 1) := by decide +kernel
theorem d_Prover_fits_35 : decode b_Prover_fits 35 = .ok (.getfield 86, 3) := by decide +kernel
theorem d_Prover_fits_38 : decode b_Prover_fits 38 = .ok (.ifCond .le 123, 3) := by decide +kernel
theorem d_Prover_fits_41 : decode b_Prover_fits 41 = .ok (.iload_n 3, 1) := by decide +kernel
theorem d_Prover_fits_42 : decode b_Prover_fits 42 = .ok (.aload_n 0, 1) := by decide +kernel
theorem d_Prover_fits_43 : decode b_Prover_fits 43 = .ok (.getfield 29, 3) := by decide +kernel
theorem d_Prover_fits_46 : decode b_Prover_fits 46 = .ok (.getfield 33, 3) := by decide +kernel
theorem d_Prover_fits_49 : decode b_Prover_fits 49 = .ok (.if_icmp .ge 112, 3) := by decide +kernel
theorem d_Prover_fits_52 : decode b_Prover_fits 52 = .ok (.aload_n 0, 1) := by decide +kernel
theorem d_Prover_fits_53 : decode b_Prover_fits 53 = .ok (.dup, 1) := by decide +kernel
theorem d_Prover_fits_54 : decode b_Prover_fits 54 = .ok (.getfield 86, 3) := by decide +kernel
theorem d_Prover_fits_57 : decode b_Prover_fits 57 = .ok (.iconst 1, 1) := by decide +kernel
theorem d_Prover_fits_58 : decode b_Prover_fits 58 = .ok (.isub, 1) := by decide +kernel
theorem d_Prover_fits_59 : decode b_Prover_fits 59 = .ok (.putfield 86, 3) := by decide +kernel
theorem d_Prover_fits_62 : decode b_Prover_fits 62 = .ok (.aload_n 0, 1) := by decide +kernel
theorem d_Prover_fits_63 : decode b_Prover_fits 63 = .ok (.getfield 22, 3) := by decide +kernel
theorem d_Prover_fits_66 : decode b_Prover_fits 66 = .ok (.aload_n 0, 1) := by decide +kernel
theorem d_Prover_fits_67 : decode b_Prover_fits 67 = .ok (.getfield 86, 3) := by decide +kernel
theorem d_Prover_fits_70 : decode b_Prover_fits 70 = .ok (.iaload, 1) := by decide +kernel
theorem d_Prover_fits_71 : decode b_Prover_fits 71 = .ok (.iconst 1, 1) := by decide +kernel
theorem d_Prover_fits_72 : decode b_Prover_fits 72 = .ok (.ishr, 1) := by decide +kernel
theorem d_Prover_fits_73 : decode b_Prover_fits 73 = .ok (.istore 4, 2) := by decide +kernel
theorem d_Prover_fits_75 : decode b_Prover_fits 75 = .ok (.aload_n 0, 1) := by decide +kernel
theorem d_Prover_fits_76 : decode b_Prover_fits 76 = .ok (.getfield 29, 3) := by decide +kernel
theorem d_Prover_fits_79 : decode b_Prover_fits 79 = .ok (.getfield 39, 3) := by decide +kernel
theorem d_Prover_fits_82 : decode b_Prover_fits 82 = .ok (.iload 4, 2) := by decide +kernel
theorem d_Prover_fits_84 : decode b_Prover_fits 84 = .ok (.baload, 1) := by decide +kernel
theorem d_Prover_fits_85 : decode b_Prover_fits 85 = .ok (.bipush 6, 2) := by decide +kernel
theorem d_Prover_fits_87 : decode b_Prover_fits 87 = .ok (.if_icmp .ge 42, 3) := by decide +kernel
theorem d_Prover_fits_90 : decode b_Prover_fits 90 = .ok (.aload_n 0, 1) := by decide +kernel
theorem d_Prover_fits_91 : decode b_Prover_fits 91 = .ok (.getfield 12, 3) := by decide +kernel
theorem d_Prover_fits_94 : decode b_Prover_fits 94 = .ok (.aload_n 0, 1) := by decide +kernel
theorem d_Prover_fits_95 : decode b_Prover_fits 95 = .ok (.aload_n 0, 1) := by decide +kernel
theorem d_Prover_fits_96 : decode b_Prover_fits 96 = .ok (.getfield 86, 3) := by decide +kernel
theorem d_Prover_fits_99 : decode b_Prover_fits 99 = .ok (.invokevirtual 93, 3) := by decide +kernel
theorem d_Prover_fits_102 : decode b_Prover_fits 102 = .ok (.aload_n 0, 1) := by decide +kernel
theorem d_Prover_fits_103 : decode b_Prover_fits 103 = .ok (.getfield 29, 3) := by decide +kernel
theorem d_Prover_fits_106 : decode b_Prover_fits 106 = .ok (.getfield 57, 3) := by decide +kernel
theorem d_Prover_fits_109 : decode b_Prover_fits 109 = .ok (.iload 4, 2) := by decide +kernel
theorem d_Prover_fits_111 : decode b_Prover_fits 111 = .ok (.iaload, 1) := by decide +kernel
theorem d_Prover_fits_112 : decode b_Prover_fits 112 = .ok (.aload_n 0, 1) := by decide +kernel
theorem d_Prover_fits_113 : decode b_Prover_fits 113 = .ok (.getfield 29, 3) := by decide +kernel
theorem d_Prover_fits_116 : decode b_Prover_fits 116 = .ok (.getfield 60, 3) := by decide +kernel
theorem d_Prover_fits_119 : decode b_Prover_fits 119 = .ok (.iload 4, 2) := by decide +kernel
theorem d_Prover_fits_121 : decode b_Prover_fits 121 = .ok (.iaload, 1) := by decide +kernel
theorem d_Prover_fits_122 : decode b_Prover_fits 122 = .ok (.invokevirtual 97, 3) := by decide +kernel
theorem d_Prover_fits_125 : decode b_Prover_fits 125 = .ok (.istore_n 2, 1) := by decide +kernel
theorem d_Prover_fits_126 : decode b_Prover_fits 126 = .ok (.goto 29, 3) := by decide +kernel
theorem d_Prover_fits_129 : decode b_Prover_fits 129 = .ok (.aload_n 0, 1) := by decide +kernel
theorem d_Prover_fits_130 : decode b_Prover_fits 130 = .ok (.iload 4, 2) := by decide +kernel
theorem d_Prover_fits_132 : decode b_Prover_fits 132 = .ok (.aload_n 0, 1) := by decide +kernel
theorem d_Prover_fits_133 : decode b_Prover_fits 133 = .ok (.getfield 22, 3) := by decide +kernel
theorem d_Prover_fits_136 : decode b_Prover_fits 136 = .ok (.aload_n 0, 1) := by decide +kernel
theorem d_Prover_fits_137 : decode b_Prover_fits 137 = .ok (.getfield 86, 3) := by decide +kernel
theorem d_Prover_fits_140 : decode b_Prover_fits 140 = .ok (.iaload, 1) := by decide +kernel
theorem d_Prover_fits_141 : decode b_Prover_fits 141 = .ok (.iconst 1, 1) := by decide +kernel
theorem d_Prover_fits_142 : decode b_Prover_fits 142 = .ok (.iand, 1) := by decide +kernel
theorem d_Prover_fits_143 : decode b_Prover_fits 143 = .ok (.aload_n 0, 1) := by decide +kernel
theorem d_Prover_fits_144 : decode b_Prover_fits 144 = .ok (.getfield 26, 3) := by decide +kernel
theorem d_Prover_fits_147 : decode b_Prover_fits 147 = .ok (.aload_n 0, 1) := by decide +kernel
theorem d_Prover_fits_148 : decode b_Prover_fits 148 = .ok (.getfield 86, 3) := by decide +kernel
theorem d_Prover_fits_151 : decode b_Prover_fits 151 = .ok (.iaload, 1) := by decide +kernel
theorem d_Prover_fits_152 : decode b_Prover_fits 152 = .ok (.invokevirtual 101, 3) := by decide +kernel
theorem d_Prover_fits_155 : decode b_Prover_fits 155 = .ok (.iinc 3 1, 3) := by decide +kernel
theorem d_Prover_fits_158 : decode b_Prover_fits 158 = .ok (.goto (-128), 3) := by decide +kernel
theorem d_Prover_fits_161 : decode b_Prover_fits 161 = .ok (.iload_n 2, 1) := by decide +kernel
theorem d_Prover_fits_162 : decode b_Prover_fits 162 = .ok (.ireturn, 1) := by decide +kernel
set_option maxHeartbeats 40000000 in
set_option maxRecDepth 100000 in
theorem c_P_fits (l : Launch) (D : va_G) (ax : Nat → ClassId) (p0 q1 q2 q3 wt rl b0 : Nat) (s_rows s_atoms s_first : Int32) (ro ix : Nat → Int32) (dm : Nat → Nat) (n0 n1 n2 n3 cp z9 : Nat) (fo fl fr : Nat → Int32) (b1 b2 b3 bn : Nat) (lv mo : Nat → Int32) (bo : Nat → Nat) (r9 : Nat) (ls9 : List sgT) (sz : Nat) (hz1 : 1 ≤ z9) (hbv : bnv mo bo bn) (hz9 : z9 ≤ cp) (hcp : cp ≤ 100000) (hrl : 2 * z9 ≤ rl) (hrl2 : rl ≤ 300000) (hnv : ndv fo fl fr z9) (hnl : ndl fo fl fr ls9) (hll : ls9.length = z9) (hnb9 : nbl 21483 ls9) (hro : roQ8 ls9 z9 ro) (hcv : bcv8 mo bo bn) (hd64 : dpl ls9 (ls9.length - 1) ≤ 64) (hs64 : szl ls9 (ls9.length - 1) ≤ ls9.length) (h58 : rwl8 ls9 ≤ 5000) (hr98 : r9 < rwl8 ls9) : Met l y_Prover_fits (xws (.code y_Prover_fits b_Prover_fits 5 (some .boolean))) ({ frames := 60, cells := 0, slots := 0, locals := 2400 }) (va_Pc [.ref p0, .int (nI r9)] (xo D ax [(p0, .inr (6, [.ref b0, .int s_rows, .int s_atoms, .int s_first, .ref n0, .ref q1, .ref q2, .ref q3, .int (nI wt)])), (q1, .inl (ax 2, rl, .inl ro)), (q2, .inl (ax 0, 64, .inl (fun j => nI (dm j)))), (q3, .inl (ax 0, 64, .inl ix)), (n0, .inr (4, [.ref n1, .ref n2, .ref n3, .int (nI z9)])), (n1, .inl (ax 1, cp, .inl fo)), (n2, .inl (ax 0, cp, .inl fl)), (n3, .inl (ax 0, cp, .inl fr)), (b0, .inr (0, [.ref b1, .ref b2, .ref b3, .int (nI bn)])), (b1, .inl (ax 0, 11, .inl lv)), (b2, .inl (ax 0, 121, .inl mo)), (b3, .inl (ax 0, 121, .inl (fun j => nI (bo j))))] sz)) ((va_Qi (fun (r : Int32) (u : Nat → Nat) => r = nI (u 2) ∧ (u 0 ≤ 64 ∧ u 2 ≤ 1)) (fun (u : Nat → Nat) (t9 : State) => ∃ xdm : Nat → Nat, ∃ xix : Nat → Int32, ∃ xlv : Nat → Int32, ∃ xmo : Nat → Int32, ∃ xbo : Nat → Nat, (bnv xmo xbo (u 1)) ∧ (bcv8 xmo xbo (u 1)) ∧ (∀ i, i < u 0 → xdm i < 2 * z9) ∧ (fqQ8 ls9 r9 xdm (u 0) xlv (u 2)) ∧ va_P D classes [(p0, .inr (6, [.ref b0, .int s_rows, .int s_atoms, .int s_first, .ref n0, .ref q1, .ref q2, .ref q3, .int (nI (u 0))])), (q1, .inl (ax 2, rl, .inl ro)), (q2, .inl (ax 0, 64, .inl (fun j => nI (xdm j)))), (q3, .inl (ax 0, 64, .inl xix)), (n0, .inr (4, [.ref n1, .ref n2, .ref n3, .int (nI z9)])), (n1, .inl (ax 1, cp, .inl fo)), (n2, .inl (ax 0, cp, .inl fl)), (n3, .inl (ax 0, cp, .inl fr)), (b0, .inr (0, [.ref b1, .ref b2, .ref b3, .int (nI (u 1))])), (b1, .inl (ax 0, 11, .inl xlv)), (b2, .inl (ax 0, 121, .inl xmo)), (b3, .inl (ax 0, 121, .inl (fun j => nI (xbo j))))] t9.heap ∧ va_D (va_A [(p0, .inr (6, [.ref b0, .int s_rows, .int s_atoms, .int s_first, .ref n0, .ref q1, .ref q2, .ref q3, .int (nI wt)])), (q1, .inl (ax 2, rl, .inl ro)), (q2, .inl (ax 0, 64, .inl (fun j => nI (dm j)))), (q3, .inl (ax 0, 64, .inl ix)), (n0, .inr (4, [.ref n1, .ref n2, .ref n3, .int (nI z9)])), (n1, .inl (ax 1, cp, .inl fo)), (n2, .inl (ax 0, cp, .inl fl)), (n3, .inl (ax 0, cp, .inl fr)), (b0, .inr (0, [.ref b1, .ref b2, .ref b3, .int (nI bn)])), (b1, .inl (ax 0, 11, .inl lv)), (b2, .inl (ax 0, 121, .inl mo)), (b3, .inl (ax 0, 121, .inl (fun j => nI (bo j))))] sz) [(p0, .inr (6, [.ref b0, .int s_rows, .int s_atoms, .int s_first, .ref n0, .ref q1, .ref q2, .ref q3, .int (nI (u 0))])), (q1, .inl (ax 2, rl, .inl ro)), (q2, .inl (ax 0, 64, .inl (fun j => nI (xdm j)))), (q3, .inl (ax 0, 64, .inl xix)), (n0, .inr (4, [.ref n1, .ref n2, .ref n3, .int (nI z9)])), (n1, .inl (ax 1, cp, .inl fo)), (n2, .inl (ax 0, cp, .inl fl)), (n3, .inl (ax 0, cp, .inl fr)), (b0, .inr (0, [.ref b1, .ref b2, .ref b3, .int (nI (u 1))])), (b1, .inl (ax 0, 11, .inl xlv)), (b2, .inl (ax 0, 121, .inl xmo)), (b3, .inl (ax 0, 121, .inl (fun j => nI (xbo j))))]) (va_A [(p0, .inr (6, [.ref b0, .int s_rows, .int s_atoms, .int s_first, .ref n0, .ref q1, .ref q2, .ref q3, .int (nI wt)])), (q1, .inl (ax 2, rl, .inl ro)), (q2, .inl (ax 0, 64, .inl (fun j => nI (dm j)))), (q3, .inl (ax 0, 64, .inl ix)), (n0, .inr (4, [.ref n1, .ref n2, .ref n3, .int (nI z9)])), (n1, .inl (ax 1, cp, .inl fo)), (n2, .inl (ax 0, cp, .inl fl)), (n3, .inl (ax 0, cp, .inl fr)), (b0, .inr (0, [.ref b1, .ref b2, .ref b3, .int (nI bn)])), (b1, .inl (ax 0, 11, .inl lv)), (b2, .inl (ax 0, 121, .inl mo)), (b3, .inl (ax 0, 121, .inl (fun j => nI (bo j))))] sz))) 0 0 (va_A [(p0, .inr (6, [.ref b0, .int s_rows, .int s_atoms, .int s_first, .ref n0, .ref q1, .ref q2, .ref q3, .int (nI wt)])), (q1, .inl (ax 2, rl, .inl ro)), (q2, .inl (ax 0, 64, .inl (fun j => nI (dm j)))), (q3, .inl (ax 0, 64, .inl ix)), (n0, .inr (4, [.ref n1, .ref n2, .ref n3, .int (nI z9)])), (n1, .inl (ax 1, cp, .inl fo)), (n2, .inl (ax 0, cp, .inl fl)), (n3, .inl (ax 0, cp, .inl fr)), (b0, .inr (0, [.ref b1, .ref b2, .ref b3, .int (nI bn)])), (b1, .inl (ax 0, 11, .inl lv)), (b2, .inl (ax 0, 121, .inl mo)), (b3, .inl (ax 0, 121, .inl (fun j => nI (bo j))))] sz) := by
  refine Met.ofW (cc := b_Prover_fits) (maxL := 5) (ret := (some .boolean)) (by decide) rfl ?_
  intro p e s m args below meth c s₁ B hml hv
  obtain ⟨rfl, hsz, hP, hK, hD0⟩ := hv
  have hx := B.exec
  have hb := B.bytes
  have hr := B.returns
  have hts := xw_hts B.pre
  have hown : s.vm.findClass R_Prover = some m.cls := findClass_of_methodNamed B.named
  have hlocks := B.notSynchronized
  subst hsz
  have hD := hD0.self (sz := s.heap.size)
  have hN := xz_entry hP
  generalize hAe : va_A [(p0, .inr (6, [.ref b0, .int s_rows, .int s_atoms, .int s_first, .ref n0, .ref q1, .ref q2, .ref q3, .int (nI wt)])), (q1, .inl (ax 2, rl, .inl ro)), (q2, .inl (ax 0, 64, .inl (fun j => nI (dm j)))), (q3, .inl (ax 0, 64, .inl ix)), (n0, .inr (4, [.ref n1, .ref n2, .ref n3, .int (nI z9)])), (n1, .inl (ax 1, cp, .inl fo)), (n2, .inl (ax 0, cp, .inl fl)), (n3, .inl (ax 0, cp, .inl fr)), (b0, .inr (0, [.ref b1, .ref b2, .ref b3, .int (nI bn)])), (b1, .inl (ax 0, 11, .inl lv)), (b2, .inl (ax 0, 121, .inl mo)), (b3, .inl (ax 0, 121, .inl (fun j => nI (bo j))))] s.heap.size = A at hD hN ⊢
  have hA : ∀ q : Nat, s.heap.size ≤ q → A q := fun q h => by rw [← hAe]; exact Or.inr h
  have hS : va_S A s.heap s.heap [] := va_S.rf
  have hl0 := lv_entry ([.ref p0, .int (nI r9)]) (n := 5) (Nat.le_of_ble_eq_true rfl)
  rw [lg_entry_eq]
  generalize (lg_sl ([.ref p0, .int (nI r9)]) ++ List.replicate (5 - (lg_sl ([.ref p0, .int (nI r9)])).length) Slot.unset).toArray = ls at hl0 ⊢
  have hl1 : lv_has ls 5 [(0, .ref p0), (1, .int (nI r9))] := hl0
  refine xw_gen (fun Z9 hQe => ?_)
  refine lv_aload_n hx hb d_Prover_fits_0 rfl (lv_at hl1 0 rfl) ?_
  refine va_get (D := D) (ci := 6) (v := .ref b0) (C := R_Prover) (T := F_Prover) (N := 9) hx hb hts i_Prover hown hK.1 hP 0 rfl rfl 0 (by decide) (hts _ wd_175) (fun _ h9 => h9) rfl d_Prover_fits_1 ?_
  obtain ⟨hPc, hDc, hFc, hCs⟩ := xw_sub3 (wc := [(b0, .inr (0, [.ref b1, .ref b2, .ref b3, .int (nI bn)])), (b1, .inl (ax 0, 11, .inl lv)), (b2, .inl (ax 0, 121, .inl mo)), (b3, .inl (ax 0, 121, .inl (fun j => nI (bo j))))]) hP hD hS hA [8, 9, 10, 11] (by decide) rfl
  have hz := xz_of hN hS
  refine va_callv (va_runV (As := []) (rest := []) ⟨hx, hb, hml, hown, hts⟩ (c_B_clear l D ax b0 b1 b2 b3 bn lv mo bo s.heap.size (by assumption) hcv) (xcV (n := 0) hts wd_838 wd_7 wd_835 wd_836 wd_837 rfl rfl (by decide +kernel) ⟨Nat.le_of_ble_eq_true rfl, Nat.le_of_ble_eq_true rfl⟩) (xpV (ci := 0) (q0 := 0) (As := []) hPc hK hz hDc rfl rfl) rfl rfl hl1.1 rfl (lv_room (Nat.le_of_ble_eq_true rfl)) d_Prover_fits_4 ⟨Nat.le_of_ble_eq_true rfl, Nat.le_of_ble_eq_true rfl⟩) hS (fun q _ h => hFc q h) hFc (fun u_1 t H_2 locs ht hvm hw hB hz1 hk1 hS1 => ?_)
  try dsimp only at hw
  have hs_4 := hw
  obtain ⟨x_5, x_6, x_7, hx_8, hx_9, hx_10, hP1, hD1⟩ := hB
  rw [ht] at hP1
  have hjn := xw_join3 (wl := [(p0, .inr (6, [.ref b0, .int s_rows, .int s_atoms, .int s_first, .ref n0, .ref q1, .ref q2, .ref q3, .int (nI wt)])), (q1, .inl (ax 2, rl, .inl ro)), (q2, .inl (ax 0, 64, .inl (fun j => nI (dm j)))), (q3, .inl (ax 0, 64, .inl ix)), (n0, .inr (4, [.ref n1, .ref n2, .ref n3, .int (nI z9)])), (n1, .inl (ax 1, cp, .inl fo)), (n2, .inl (ax 0, cp, .inl fl)), (n3, .inl (ax 0, cp, .inl fr)), (b0, .inr (0, [.ref b1, .ref b2, .ref b3, .int (nI (u_1 0))])), (b1, .inl (ax 0, 11, .inl x_5)), (b2, .inl (ax 0, 121, .inl x_6)), (b3, .inl (ax 0, 121, .inl (fun j => nI (x_7 j))))]) hP hD [8, 9, 10, 11] [0, 1, 2, 3, 4, 5, 6, 7] hCs (by decide) (by decide) hk1 hFc hP1 hD1 rfl
  clear hP1 hD1
  clear hPc hDc hFc hCs hz hz1 hk1 ht hvm
  clear hP hD hS
  have hS := hS1
  obtain ⟨hP, hD⟩ := hjn
  clear hS1
  refine lv_aload_n hx hb d_Prover_fits_7 rfl (lv_at hl1 0 rfl) ?_
  refine lv_iconst (v := 0) hx hb d_Prover_fits_8 (by decide) ?_
  refine va_put (D := D) (ci := 6) (v := .int 0) (ty := .int) (C := R_Prover) (T := F_Prover) (N := 9) hx hb hts i_Prover t_Prover t_Prover_ok n_Prover hown hK.1 hP hD hS 0 rfl rfl 8 (by decide) (hts _ wd_187) (fun _ h9 => h9) rfl (by decide +kernel) rfl rfl (Nat.le_of_ble_eq_true rfl) d_Prover_fits_9 (fun H_11 locs hP1 hD1 hS1 => ?_)
  clear hP hD hS
  have hS := hS1
  have hW7 : (fun w9 : va_W => va_P D classes w9 H_11 ∧ va_D A w9) [(p0, .inr (6, [.ref b0, .int s_rows, .int s_atoms, .int s_first, .ref n0, .ref q1, .ref q2, .ref q3, .int 0])), (q1, .inl (ax 2, rl, .inl ro)), (q2, .inl (ax 0, 64, .inl (fun j => nI (dm j)))), (q3, .inl (ax 0, 64, .inl ix)), (n0, .inr (4, [.ref n1, .ref n2, .ref n3, .int (nI z9)])), (n1, .inl (ax 1, cp, .inl fo)), (n2, .inl (ax 0, cp, .inl fl)), (n3, .inl (ax 0, cp, .inl fr)), (b0, .inr (0, [.ref b1, .ref b2, .ref b3, .int (nI (u_1 0))])), (b1, .inl (ax 0, 11, .inl x_5)), (b2, .inl (ax 0, 121, .inl x_6)), (b3, .inl (ax 0, 121, .inl (fun j => nI (x_7 j))))] := ⟨hP1, hD1⟩
  obtain ⟨hP, hD⟩ := hW7
  clear hP1 hD1 hS1
  refine lv_aload_n hx hb d_Prover_fits_12 rfl (lv_at hl1 0 rfl) ?_
  refine lv_iconst (v := 2) hx hb d_Prover_fits_13 (by decide) ?_
  refine lv_aload_n hx hb d_Prover_fits_14 rfl (lv_at hl1 0 rfl) ?_
  refine va_get (D := D) (ci := 6) (v := .ref n0) (C := R_Prover) (T := F_Prover) (N := 9) hx hb hts i_Prover hown hK.1 hP 0 rfl rfl 4 (by decide) (hts _ wd_183) (fun _ h9 => h9) rfl d_Prover_fits_15 ?_
  obtain ⟨hPc, hDc, hFc, hCs⟩ := xw_sub3 (wc := [(n0, .inr (4, [.ref n1, .ref n2, .ref n3, .int (nI z9)])), (n1, .inl (ax 1, cp, .inl fo)), (n2, .inl (ax 0, cp, .inl fl)), (n3, .inl (ax 0, cp, .inl fr))]) hP hD hS hA [4, 5, 6, 7] (by decide) rfl
  have hz := xz_of hN hS
  refine va_calli (va_runV (As := []) (rest := [.int 2, .ref p0]) ⟨hx, hb, hml, hown, hts⟩ (c_Nodes_root l D ax n0 n1 n2 n3 cp z9 fo fl fr H_11.size (by first | assumption | omega)) (xcV (n := 0) hts wd_772 wd_5 wd_826 wd_770 wd_771 rfl rfl (by decide +kernel) ⟨Nat.le_of_ble_eq_true rfl, Nat.le_of_ble_eq_true rfl⟩) (xpV (ci := 4) (q0 := 0) (As := []) hPc hK hz hDc rfl rfl) rfl rfl hl1.1 rfl (lv_room (Nat.le_of_ble_eq_true rfl)) d_Prover_fits_18 ⟨Nat.le_of_ble_eq_true rfl, Nat.le_of_ble_eq_true rfl⟩) hS (fun q _ h => hFc q h) hFc (fun r_14 u_12 t H_13 locs ht hvm hw hB hz1 hk1 hS1 => ?_)
  try dsimp only at hw
  subst hw
  obtain ⟨hP1, hD1⟩ := hB
  rw [ht] at hP1
  have hjn := xw_join3 (wl := [(p0, .inr (6, [.ref b0, .int s_rows, .int s_atoms, .int s_first, .ref n0, .ref q1, .ref q2, .ref q3, .int 0])), (q1, .inl (ax 2, rl, .inl ro)), (q2, .inl (ax 0, 64, .inl (fun j => nI (dm j)))), (q3, .inl (ax 0, 64, .inl ix)), (b0, .inr (0, [.ref b1, .ref b2, .ref b3, .int (nI (u_1 0))])), (b1, .inl (ax 0, 11, .inl x_5)), (b2, .inl (ax 0, 121, .inl x_6)), (b3, .inl (ax 0, 121, .inl (fun j => nI (x_7 j)))), (n0, .inr (4, [.ref n1, .ref n2, .ref n3, .int (nI z9)])), (n1, .inl (ax 1, cp, .inl fo)), (n2, .inl (ax 0, cp, .inl fl)), (n3, .inl (ax 0, cp, .inl fr))]) hP hD [4, 5, 6, 7] [0, 1, 2, 3, 8, 9, 10, 11] hCs (by decide) (by decide) hk1 hFc hP1 hD1 rfl
  clear hP1 hD1
  clear hPc hDc hFc hCs hz hz1 hk1 ht hvm
  clear hP hD hS
  have hS := hS1
  obtain ⟨hP, hD⟩ := hjn
  clear hS1
  refine lv_imul hx hb d_Prover_fits_21 ?_
  refine lv_topi (fun z_15 ez_15 => ?_)
  have ez_15 : z_15 = nI (2 * (z9 - 1)) := ez_15.trans (pk_mul 2 (z9 - 1))
  subst ez_15
  refine lv_iload_n hx hb d_Prover_fits_22 rfl (lv_at hl1 1 rfl) ?_
  obtain ⟨hPc, hDc, hFc, hCs⟩ := xw_sub3 (wc := [(p0, .inr (6, [.ref b0, .int s_rows, .int s_atoms, .int s_first, .ref n0, .ref q1, .ref q2, .ref q3, .int (nI 0)])), (q1, .inl (ax 2, rl, .inl ro)), (q2, .inl (ax 0, 64, .inl (fun j => nI (dm j)))), (q3, .inl (ax 0, 64, .inl ix))]) hP hD hS hA [0, 1, 2, 3] (by decide) rfl
  have hz := xz_of hN hS
  refine va_callv (va_runV (As := [.int (nI (2 * (z9 - 1))), .int (nI r9)]) (rest := []) ⟨hx, hb, hml, hown, hts⟩ (c_P_ask l D ax p0 q1 q2 q3 0 rl b0 s_rows s_atoms s_first ro ix dm n0 (2 * (z9 - 1)) (nI r9) H_13.size (by first | assumption | omega)) (xcV (n := 2) hts wd_842 wd_6 wd_839 wd_841 ps_34 rfl rfl (by decide +kernel) ⟨Nat.le_of_ble_eq_true rfl, Nat.le_of_ble_eq_true rfl⟩) (xpV (ci := 6) (q0 := 0) (As := [.int (nI (2 * (z9 - 1))), .int (nI r9)]) hPc hK hz hDc rfl rfl) rfl rfl hl1.1 rfl (lv_room (Nat.le_of_ble_eq_true rfl)) d_Prover_fits_23 ⟨Nat.le_of_ble_eq_true rfl, Nat.le_of_ble_eq_true rfl⟩) hS (fun q _ h => hFc q h) hFc (fun u_16 t H_17 locs ht hvm hw hB hz1 hk1 hS1 => ?_)
  try dsimp only at hw
  obtain ⟨hP1, hD1⟩ := hB
  rw [ht] at hP1
  have hjn := xw_join3 (wl := [(b0, .inr (0, [.ref b1, .ref b2, .ref b3, .int (nI (u_1 0))])), (b1, .inl (ax 0, 11, .inl x_5)), (b2, .inl (ax 0, 121, .inl x_6)), (b3, .inl (ax 0, 121, .inl (fun j => nI (x_7 j)))), (n0, .inr (4, [.ref n1, .ref n2, .ref n3, .int (nI z9)])), (n1, .inl (ax 1, cp, .inl fo)), (n2, .inl (ax 0, cp, .inl fl)), (n3, .inl (ax 0, cp, .inl fr)), (p0, .inr (6, [.ref b0, .int s_rows, .int s_atoms, .int s_first, .ref n0, .ref q1, .ref q2, .ref q3, .int (nI (0 + 1))])), (q1, .inl (ax 2, rl, .inl ro)), (q2, .inl (ax 0, 64, .inl (fun j => nI ((sup dm 0 (2 * (z9 - 1))) j)))), (q3, .inl (ax 0, 64, .inl (upd ix 0 (nI r9))))]) hP hD [0, 1, 2, 3] [4, 5, 6, 7, 8, 9, 10, 11] hCs (by decide) (by decide) hk1 hFc hP1 hD1 rfl
  clear hP1 hD1
  clear hPc hDc hFc hCs hz hz1 hk1 ht hvm
  clear hP hD hS
  have hS := hS1
  obtain ⟨hP, hD⟩ := hjn
  clear hS1
  refine lv_iconst (v := 1) hx hb d_Prover_fits_26 (by decide) ?_
  refine lv_istore_n (lv' := [(2, .int 1), (0, .ref p0), (1, .int (nI r9))]) hx hb d_Prover_fits_27 rfl hl1 (by decide) rfl (fun ls hl2 => ?_)
  clear hl1; have hl1 := hl2; clear hl2
  refine lv_iconst (v := 0) hx hb d_Prover_fits_28 (by decide) ?_
  refine lv_istore_n (lv' := [(3, .int 0), (2, .int 1), (0, .ref p0), (1, .int (nI r9))]) hx hb d_Prover_fits_29 rfl hl1 (by decide) rfl (fun ls hl2 => ?_)
  clear hl1; have hl1 := hl2; clear hl2
  suffices key_19 : ∀ (k : Nat) (fi1 t1 wt1 bn1 : Nat) (dm1 bo1 : Nat → Nat) (ix1 lv1 mo1 : Nat → Int32), z9 - t1 < k → fi1 ≤ 1 → t1 ≤ z9 → wt1 ≤ 64 → bnv mo1 bo1 bn1 → bcv8 mo1 bo1 bn1 → moW8 mo1 → ftI8 ls9 r9 t1 dm1 ix1 wt1 → fbI8 ls9 r9 t1 fi1 mo1 lv1 → ∀ (H : Heap) (locs : List Loc) (ls : Array Slot), va_P D classes [(p0, .inr (6, [.ref b0, .int s_rows, .int s_atoms, .int s_first, .ref n0, .ref q1, .ref q2, .ref q3, .int (nI wt1)])), (q1, .inl (ax 2, rl, .inl ro)), (q2, .inl (ax 0, 64, .inl (fun j => nI (dm1 j)))), (q3, .inl (ax 0, 64, .inl ix1)), (n0, .inr (4, [.ref n1, .ref n2, .ref n3, .int (nI z9)])), (n1, .inl (ax 1, cp, .inl fo)), (n2, .inl (ax 0, cp, .inl fl)), (n3, .inl (ax 0, cp, .inl fr)), (b0, .inr (0, [.ref b1, .ref b2, .ref b3, .int (nI bn1)])), (b1, .inl (ax 0, 11, .inl lv1)), (b2, .inl (ax 0, 121, .inl mo1)), (b3, .inl (ax 0, 121, .inl (fun j => nI (bo1 j))))] H → va_D A [(p0, .inr (6, [.ref b0, .int s_rows, .int s_atoms, .int s_first, .ref n0, .ref q1, .ref q2, .ref q3, .int (nI wt1)])), (q1, .inl (ax 2, rl, .inl ro)), (q2, .inl (ax 0, 64, .inl (fun j => nI (dm1 j)))), (q3, .inl (ax 0, 64, .inl ix1)), (n0, .inr (4, [.ref n1, .ref n2, .ref n3, .int (nI z9)])), (n1, .inl (ax 1, cp, .inl fo)), (n2, .inl (ax 0, cp, .inl fl)), (n3, .inl (ax 0, cp, .inl fr)), (b0, .inr (0, [.ref b1, .ref b2, .ref b3, .int (nI bn1)])), (b1, .inl (ax 0, 11, .inl lv1)), (b2, .inl (ax 0, 121, .inl mo1)), (b3, .inl (ax 0, 121, .inl (fun j => nI (bo1 j))))] → va_S A s.heap H locs → lv_has ls 5 [(0, .ref p0), (2, .int (nI fi1)), (3, .int (nI t1))] → W p l e (headSpec (xws (.code y_Prover_fits b_Prover_fits 5 (some .boolean))) ({ frames := 60, cells := 0, slots := 0, locals := 2400 })).room s m ([.ref p0, .int (nI r9)] : List Value).toArray below meth c H locs 0 0 Z9 (F0 m 30 ls []) from key_19 (z9 - 0 + 1) 1 0 (0 + 1) (u_1 0) (sup dm 0 (2 * (z9 - 1))) x_7 (upd ix 0 (nI r9)) x_5 x_6 (Nat.lt_succ_self _) (by first | assumption | omega) (by first | assumption | omega) (by first | assumption | omega) hx_8 (bcv8_0 hx_9) (moW8_0 hx_9) (by rw [← hll]; exact ftI8_0 hr98 (by first | assumption | omega) hd64 hs64 (by first | assumption | omega)) (fbI8_0 (grt8_free hx_9 hx_10) (mL8_free hx_9)) _ _ _ (hP.sub [8, 9, 10, 11, 4, 5, 6, 7, 0, 1, 2, 3] rfl) (hD.sub [8, 9, 10, 11, 4, 5, 6, 7, 0, 1, 2, 3] (by decide) rfl) hS (lv_sub hl1 [2, 1, 0] rfl)
  intro k_20
  induction k_20 with
  | zero =>
    intro fi1 t1 wt1 bn1 dm1 bo1 ix1 lv1 mo1 hk_22
    exact absurd hk_22 (Nat.not_lt_zero _)
  | succ k_20 ih_21 =>
    clear hP hD hS hl1
    intro fi1 t1 wt1 bn1 dm1 bo1 ix1 lv1 mo1 hk_22 hf1 ht1 hw1 hb1 hc1 hW1 hF8 hB8 H locs ls hP hD hS hl1
    refine lv_iload_n hx hb d_Prover_fits_30 rfl (lv_at hl1 1 rfl) ?_
    refine lv_if_eq (tgt := 161) hx hb d_Prover_fits_31 (by decide) (fun c_23 => ?_) (fun c_23 => ?_)
    · replace c_23 : fi1 = 0 := (nI_eq (a := fi1) (b := 0) (by first | exact Nat.lt_of_lt_of_le (by assumption) (by decide) | exact Nat.lt_of_le_of_lt (by assumption) (by decide) | omega) (by decide)).mp c_23
      rcases (show fi1 = 0 ∨ fi1 = 1 by omega) with ef1 | ef1
      · subst ef1
        refine lv_iload_n hx hb d_Prover_fits_161 rfl (lv_at hl1 1 rfl) ?_
        rw [← hQe]
        obtain ⟨hP9, hD9⟩ := xw_sub2 (wc := (fun (u : Nat → Nat) (xdm : Nat → Nat) (xix : Nat → Int32) (xlv : Nat → Int32) (xmo : Nat → Int32) (xbo : Nat → Nat) => [(p0, .inr (6, [.ref b0, .int s_rows, .int s_atoms, .int s_first, .ref n0, .ref q1, .ref q2, .ref q3, .int (nI (u 0))])), (q1, .inl (ax 2, rl, .inl ro)), (q2, .inl (ax 0, 64, .inl (fun j => nI (xdm j)))), (q3, .inl (ax 0, 64, .inl xix)), (n0, .inr (4, [.ref n1, .ref n2, .ref n3, .int (nI z9)])), (n1, .inl (ax 1, cp, .inl fo)), (n2, .inl (ax 0, cp, .inl fl)), (n3, .inl (ax 0, cp, .inl fr)), (b0, .inr (0, [.ref b1, .ref b2, .ref b3, .int (nI (u 1))])), (b1, .inl (ax 0, 11, .inl xlv)), (b2, .inl (ax 0, 121, .inl xmo)), (b3, .inl (ax 0, 121, .inl (fun j => nI (xbo j))))]) (ixn [wt1, bn1, 0]) dm1 ix1 lv1 mo1 bo1) hP hD [0, 1, 2, 3, 4, 5, 6, 7, 8, 9, 10, 11] (by decide) rfl
        have hex0 : bnv mo1 bo1 (bn1) := hb1
        have hex1 : bcv8 mo1 bo1 (bn1) := hc1
        have hex2 : ∀ i, i < wt1 → dm1 i < 2 * z9 := (fun i hi => by have h9 := (hF8.2.2.1 i hi).2; omega)
        have hex3 : fqQ8 ls9 r9 dm1 (wt1) lv1 (0) := (fqQ8_n hF8 hB8)
        have hsp0 : wt1 ≤ 64 := (by first | assumption | omega)
        have hsp1 : 0 ≤ 1 := (by first | assumption | omega)
        exact W.zret (v := 0) hx hb hr rfl (fun t ht hW => ⟨⟨0, ixn [wt1, bn1, 0], rfl, ⟨rfl, ⟨hsp0, hsp1⟩⟩, ⟨dm1, ix1, lv1, mo1, bo1, hex0, hex1, hex2, hex3, by rw [ht]; exact hP9, hD9⟩⟩, hS.F ht⟩) hS.2.2 d_Prover_fits_162
      · subst ef1
        refine lv_iload_n hx hb d_Prover_fits_161 rfl (lv_at hl1 1 rfl) ?_
        rw [← hQe]
        obtain ⟨hP9, hD9⟩ := xw_sub2 (wc := (fun (u : Nat → Nat) (xdm : Nat → Nat) (xix : Nat → Int32) (xlv : Nat → Int32) (xmo : Nat → Int32) (xbo : Nat → Nat) => [(p0, .inr (6, [.ref b0, .int s_rows, .int s_atoms, .int s_first, .ref n0, .ref q1, .ref q2, .ref q3, .int (nI (u 0))])), (q1, .inl (ax 2, rl, .inl ro)), (q2, .inl (ax 0, 64, .inl (fun j => nI (xdm j)))), (q3, .inl (ax 0, 64, .inl xix)), (n0, .inr (4, [.ref n1, .ref n2, .ref n3, .int (nI z9)])), (n1, .inl (ax 1, cp, .inl fo)), (n2, .inl (ax 0, cp, .inl fl)), (n3, .inl (ax 0, cp, .inl fr)), (b0, .inr (0, [.ref b1, .ref b2, .ref b3, .int (nI (u 1))])), (b1, .inl (ax 0, 11, .inl xlv)), (b2, .inl (ax 0, 121, .inl xmo)), (b3, .inl (ax 0, 121, .inl (fun j => nI (xbo j))))]) (ixn [wt1, bn1, 1]) dm1 ix1 lv1 mo1 bo1) hP hD [0, 1, 2, 3, 4, 5, 6, 7, 8, 9, 10, 11] (by decide) rfl
        have hex0 : bnv mo1 bo1 (bn1) := hb1
        have hex1 : bcv8 mo1 bo1 (bn1) := hc1
        have hex2 : ∀ i, i < wt1 → dm1 i < 2 * z9 := (fun i hi => by have h9 := (hF8.2.2.1 i hi).2; omega)
        have hex3 : fqQ8 ls9 r9 dm1 (wt1) lv1 (1) := (fqQ8_y hF8 hB8 h58 hr98 (by first | omega | exact hF8.end (by first | assumption | omega)))
        have hsp0 : wt1 ≤ 64 := (by first | assumption | omega)
        have hsp1 : 1 ≤ 1 := (by first | assumption | omega)
        exact W.zret (v := 1) hx hb hr rfl (fun t ht hW => ⟨⟨1, ixn [wt1, bn1, 1], rfl, ⟨rfl, ⟨hsp0, hsp1⟩⟩, ⟨dm1, ix1, lv1, mo1, bo1, hex0, hex1, hex2, hex3, by rw [ht]; exact hP9, hD9⟩⟩, hS.F ht⟩) hS.2.2 d_Prover_fits_162
    · replace c_23 : ¬ fi1 = 0 := fun hq9 => c_23 ((nI_eq (a := fi1) (b := 0) (by first | exact Nat.lt_of_lt_of_le (by assumption) (by decide) | exact Nat.lt_of_le_of_lt (by assumption) (by decide) | omega) (by decide)).mpr hq9)
      refine lv_aload_n hx hb d_Prover_fits_34 rfl (lv_at hl1 0 rfl) ?_
      refine va_get (D := D) (ci := 6) (v := .int (nI wt1)) (C := R_Prover) (T := F_Prover) (N := 9) hx hb hts i_Prover hown hK.1 hP 0 rfl rfl 8 (by decide) (hts _ wd_187) (fun _ h9 => h9) rfl d_Prover_fits_35 ?_
      refine lv_if_le (tgt := 161) hx hb d_Prover_fits_38 (by decide) (fun c_24 => ?_) (fun c_24 => ?_)
      · replace c_24 : wt1 ≤ 0 := (nI_leI (a := wt1) (b := 0) (by first | exact Nat.lt_of_lt_of_le (by assumption) (by decide) | exact Nat.lt_of_le_of_lt (by assumption) (by decide) | omega) (by decide)).mp c_24
        rcases (show fi1 = 0 ∨ fi1 = 1 by omega) with ef1 | ef1
        · subst ef1
          refine lv_iload_n hx hb d_Prover_fits_161 rfl (lv_at hl1 1 rfl) ?_
          rw [← hQe]
          obtain ⟨hP9, hD9⟩ := xw_sub2 (wc := (fun (u : Nat → Nat) (xdm : Nat → Nat) (xix : Nat → Int32) (xlv : Nat → Int32) (xmo : Nat → Int32) (xbo : Nat → Nat) => [(p0, .inr (6, [.ref b0, .int s_rows, .int s_atoms, .int s_first, .ref n0, .ref q1, .ref q2, .ref q3, .int (nI (u 0))])), (q1, .inl (ax 2, rl, .inl ro)), (q2, .inl (ax 0, 64, .inl (fun j => nI (xdm j)))), (q3, .inl (ax 0, 64, .inl xix)), (n0, .inr (4, [.ref n1, .ref n2, .ref n3, .int (nI z9)])), (n1, .inl (ax 1, cp, .inl fo)), (n2, .inl (ax 0, cp, .inl fl)), (n3, .inl (ax 0, cp, .inl fr)), (b0, .inr (0, [.ref b1, .ref b2, .ref b3, .int (nI (u 1))])), (b1, .inl (ax 0, 11, .inl xlv)), (b2, .inl (ax 0, 121, .inl xmo)), (b3, .inl (ax 0, 121, .inl (fun j => nI (xbo j))))]) (ixn [wt1, bn1, 0]) dm1 ix1 lv1 mo1 bo1) hP hD [0, 1, 2, 3, 4, 5, 6, 7, 8, 9, 10, 11] (by decide) rfl
          have hex0 : bnv mo1 bo1 (bn1) := hb1
          have hex1 : bcv8 mo1 bo1 (bn1) := hc1
          have hex2 : ∀ i, i < wt1 → dm1 i < 2 * z9 := (fun i hi => by have h9 := (hF8.2.2.1 i hi).2; omega)
          have hex3 : fqQ8 ls9 r9 dm1 (wt1) lv1 (0) := (fqQ8_n hF8 hB8)
          have hsp0 : wt1 ≤ 64 := (by first | assumption | omega)
          have hsp1 : 0 ≤ 1 := (by first | assumption | omega)
          exact W.zret (v := 0) hx hb hr rfl (fun t ht hW => ⟨⟨0, ixn [wt1, bn1, 0], rfl, ⟨rfl, ⟨hsp0, hsp1⟩⟩, ⟨dm1, ix1, lv1, mo1, bo1, hex0, hex1, hex2, hex3, by rw [ht]; exact hP9, hD9⟩⟩, hS.F ht⟩) hS.2.2 d_Prover_fits_162
        · subst ef1
          refine lv_iload_n hx hb d_Prover_fits_161 rfl (lv_at hl1 1 rfl) ?_
          rw [← hQe]
          obtain ⟨hP9, hD9⟩ := xw_sub2 (wc := (fun (u : Nat → Nat) (xdm : Nat → Nat) (xix : Nat → Int32) (xlv : Nat → Int32) (xmo : Nat → Int32) (xbo : Nat → Nat) => [(p0, .inr (6, [.ref b0, .int s_rows, .int s_atoms, .int s_first, .ref n0, .ref q1, .ref q2, .ref q3, .int (nI (u 0))])), (q1, .inl (ax 2, rl, .inl ro)), (q2, .inl (ax 0, 64, .inl (fun j => nI (xdm j)))), (q3, .inl (ax 0, 64, .inl xix)), (n0, .inr (4, [.ref n1, .ref n2, .ref n3, .int (nI z9)])), (n1, .inl (ax 1, cp, .inl fo)), (n2, .inl (ax 0, cp, .inl fl)), (n3, .inl (ax 0, cp, .inl fr)), (b0, .inr (0, [.ref b1, .ref b2, .ref b3, .int (nI (u 1))])), (b1, .inl (ax 0, 11, .inl xlv)), (b2, .inl (ax 0, 121, .inl xmo)), (b3, .inl (ax 0, 121, .inl (fun j => nI (xbo j))))]) (ixn [wt1, bn1, 1]) dm1 ix1 lv1 mo1 bo1) hP hD [0, 1, 2, 3, 4, 5, 6, 7, 8, 9, 10, 11] (by decide) rfl
          have hex0 : bnv mo1 bo1 (bn1) := hb1
          have hex1 : bcv8 mo1 bo1 (bn1) := hc1
          have hex2 : ∀ i, i < wt1 → dm1 i < 2 * z9 := (fun i hi => by have h9 := (hF8.2.2.1 i hi).2; omega)
          have hex3 : fqQ8 ls9 r9 dm1 (wt1) lv1 (1) := (fqQ8_y hF8 hB8 h58 hr98 (by first | omega | exact hF8.end (by first | assumption | omega)))
          have hsp0 : wt1 ≤ 64 := (by first | assumption | omega)
          have hsp1 : 1 ≤ 1 := (by first | assumption | omega)
          exact W.zret (v := 1) hx hb hr rfl (fun t ht hW => ⟨⟨1, ixn [wt1, bn1, 1], rfl, ⟨rfl, ⟨hsp0, hsp1⟩⟩, ⟨dm1, ix1, lv1, mo1, bo1, hex0, hex1, hex2, hex3, by rw [ht]; exact hP9, hD9⟩⟩, hS.F ht⟩) hS.2.2 d_Prover_fits_162
      · replace c_24 : ¬ wt1 ≤ 0 := fun hq9 => c_24 ((nI_leI (a := wt1) (b := 0) (by first | exact Nat.lt_of_lt_of_le (by assumption) (by decide) | exact Nat.lt_of_le_of_lt (by assumption) (by decide) | omega) (by decide)).mpr hq9)
        refine lv_iload_n hx hb d_Prover_fits_41 rfl (lv_at hl1 2 rfl) ?_
        refine lv_aload_n hx hb d_Prover_fits_42 rfl (lv_at hl1 0 rfl) ?_
        refine va_get (D := D) (ci := 6) (v := .ref n0) (C := R_Prover) (T := F_Prover) (N := 9) hx hb hts i_Prover hown hK.1 hP 0 rfl rfl 4 (by decide) (hts _ wd_183) (fun _ h9 => h9) rfl d_Prover_fits_43 ?_
        refine va_get (D := D) (ci := 4) (v := .int (nI z9)) (C := R_Nodes) (T := F_Nodes) (N := 4) hx hb hts i_Nodes hown hK.1 hP 4 rfl rfl 3 (by decide) (hts _ wd_119) (fun _ h9 => h9) rfl d_Prover_fits_46 ?_
        refine lv_icmp_ge (tgt := 161) hx hb d_Prover_fits_49 (by decide) (fun c_25 => ?_) (fun c_25 => ?_)
        · replace c_25 : z9 ≤ t1 := (nI_leI (a := z9) (b := t1) (by first | exact Nat.lt_of_lt_of_le (by assumption) (by decide) | exact Nat.lt_of_le_of_lt (by assumption) (by decide) | omega) (by first | exact Nat.lt_of_lt_of_le (by assumption) (by decide) | exact Nat.lt_of_le_of_lt (by assumption) (by decide) | omega)).mp c_25
          rcases (show fi1 = 0 ∨ fi1 = 1 by omega) with ef1 | ef1
          · subst ef1
            refine lv_iload_n hx hb d_Prover_fits_161 rfl (lv_at hl1 1 rfl) ?_
            rw [← hQe]
            obtain ⟨hP9, hD9⟩ := xw_sub2 (wc := (fun (u : Nat → Nat) (xdm : Nat → Nat) (xix : Nat → Int32) (xlv : Nat → Int32) (xmo : Nat → Int32) (xbo : Nat → Nat) => [(p0, .inr (6, [.ref b0, .int s_rows, .int s_atoms, .int s_first, .ref n0, .ref q1, .ref q2, .ref q3, .int (nI (u 0))])), (q1, .inl (ax 2, rl, .inl ro)), (q2, .inl (ax 0, 64, .inl (fun j => nI (xdm j)))), (q3, .inl (ax 0, 64, .inl xix)), (n0, .inr (4, [.ref n1, .ref n2, .ref n3, .int (nI z9)])), (n1, .inl (ax 1, cp, .inl fo)), (n2, .inl (ax 0, cp, .inl fl)), (n3, .inl (ax 0, cp, .inl fr)), (b0, .inr (0, [.ref b1, .ref b2, .ref b3, .int (nI (u 1))])), (b1, .inl (ax 0, 11, .inl xlv)), (b2, .inl (ax 0, 121, .inl xmo)), (b3, .inl (ax 0, 121, .inl (fun j => nI (xbo j))))]) (ixn [wt1, bn1, 0]) dm1 ix1 lv1 mo1 bo1) hP hD [0, 1, 2, 3, 4, 5, 6, 7, 8, 9, 10, 11] (by decide) rfl
            have hex0 : bnv mo1 bo1 (bn1) := hb1
            have hex1 : bcv8 mo1 bo1 (bn1) := hc1
            have hex2 : ∀ i, i < wt1 → dm1 i < 2 * z9 := (fun i hi => by have h9 := (hF8.2.2.1 i hi).2; omega)
            have hex3 : fqQ8 ls9 r9 dm1 (wt1) lv1 (0) := (fqQ8_n hF8 hB8)
            have hsp0 : wt1 ≤ 64 := (by first | assumption | omega)
            have hsp1 : 0 ≤ 1 := (by first | assumption | omega)
            exact W.zret (v := 0) hx hb hr rfl (fun t ht hW => ⟨⟨0, ixn [wt1, bn1, 0], rfl, ⟨rfl, ⟨hsp0, hsp1⟩⟩, ⟨dm1, ix1, lv1, mo1, bo1, hex0, hex1, hex2, hex3, by rw [ht]; exact hP9, hD9⟩⟩, hS.F ht⟩) hS.2.2 d_Prover_fits_162
          · subst ef1
            refine lv_iload_n hx hb d_Prover_fits_161 rfl (lv_at hl1 1 rfl) ?_
            rw [← hQe]
            obtain ⟨hP9, hD9⟩ := xw_sub2 (wc := (fun (u : Nat → Nat) (xdm : Nat → Nat) (xix : Nat → Int32) (xlv : Nat → Int32) (xmo : Nat → Int32) (xbo : Nat → Nat) => [(p0, .inr (6, [.ref b0, .int s_rows, .int s_atoms, .int s_first, .ref n0, .ref q1, .ref q2, .ref q3, .int (nI (u 0))])), (q1, .inl (ax 2, rl, .inl ro)), (q2, .inl (ax 0, 64, .inl (fun j => nI (xdm j)))), (q3, .inl (ax 0, 64, .inl xix)), (n0, .inr (4, [.ref n1, .ref n2, .ref n3, .int (nI z9)])), (n1, .inl (ax 1, cp, .inl fo)), (n2, .inl (ax 0, cp, .inl fl)), (n3, .inl (ax 0, cp, .inl fr)), (b0, .inr (0, [.ref b1, .ref b2, .ref b3, .int (nI (u 1))])), (b1, .inl (ax 0, 11, .inl xlv)), (b2, .inl (ax 0, 121, .inl xmo)), (b3, .inl (ax 0, 121, .inl (fun j => nI (xbo j))))]) (ixn [wt1, bn1, 1]) dm1 ix1 lv1 mo1 bo1) hP hD [0, 1, 2, 3, 4, 5, 6, 7, 8, 9, 10, 11] (by decide) rfl
            have hex0 : bnv mo1 bo1 (bn1) := hb1
            have hex1 : bcv8 mo1 bo1 (bn1) := hc1
            have hex2 : ∀ i, i < wt1 → dm1 i < 2 * z9 := (fun i hi => by have h9 := (hF8.2.2.1 i hi).2; omega)
            have hex3 : fqQ8 ls9 r9 dm1 (wt1) lv1 (1) := (fqQ8_y hF8 hB8 h58 hr98 (by first | omega | exact hF8.end (by first | assumption | omega)))
            have hsp0 : wt1 ≤ 64 := (by first | assumption | omega)
            have hsp1 : 1 ≤ 1 := (by first | assumption | omega)
            exact W.zret (v := 1) hx hb hr rfl (fun t ht hW => ⟨⟨1, ixn [wt1, bn1, 1], rfl, ⟨rfl, ⟨hsp0, hsp1⟩⟩, ⟨dm1, ix1, lv1, mo1, bo1, hex0, hex1, hex2, hex3, by rw [ht]; exact hP9, hD9⟩⟩, hS.F ht⟩) hS.2.2 d_Prover_fits_162
        · replace c_25 : ¬ z9 ≤ t1 := fun hq9 => c_25 ((nI_leI (a := z9) (b := t1) (by first | exact Nat.lt_of_lt_of_le (by assumption) (by decide) | exact Nat.lt_of_le_of_lt (by assumption) (by decide) | omega) (by first | exact Nat.lt_of_lt_of_le (by assumption) (by decide) | exact Nat.lt_of_le_of_lt (by assumption) (by decide) | omega)).mpr hq9)
          obtain ⟨w2, rfl⟩ : ∃ w2, wt1 = w2 + 1 := ⟨wt1 - 1, by omega⟩
          obtain ⟨hdv, hsn⟩ := hF8.hd h58 hr98 (nI_i2n (ix1 w2)).symm (i2n_lt _)
          obtain ⟨hw64, _⟩ := hdv.sm
          have hd9 : dm1 w2 < 2 * z9 := by have := hdv.2.2.2.2.1; omega
          have hx5 : i2n (ix1 w2) ≤ 5001 := by have := hdv.2.2.1; have := rwo_le (o := olf ls9) (d := dm1 w2); omega
          have e1 : fi1 = 1 := by omega
          subst e1
          obtain ⟨o9, ho1, ho2, hnp⟩ := nd_p (hnv (dm1 w2 / 2) (by first | assumption | omega))
          have hop9 := opn9 hnl hnb9 (by first | assumption | omega) (by first | assumption | omega) ho2
          have hP7 := hP; have hD7 := hD; clear hP hD
          have hW7 : (fun w9 : va_W => va_P D classes w9 H ∧ va_D A w9) [(p0, .inr (6, [.ref b0, .int s_rows, .int s_atoms, .int s_first, .ref n0, .ref q1, .ref q2, .ref q3, .int (nI (w2 + 1))])), (q1, .inl (ax 2, rl, .inl ro)), (q2, .inl (ax 0, 64, .inl (fun j => nI (dm1 j)))), (q3, .inl (ax 0, 64, .inl ix1)), (n0, .inr (4, [.ref n1, .ref n2, .ref n3, .int (nI z9)])), (n1, .inl (ax 1, cp, .inl fo)), (n2, .inl (ax 0, cp, .inl fl)), (n3, .inl (ax 0, cp, .inl fr)), (b0, .inr (0, [.ref b1, .ref b2, .ref b3, .int (nI bn1)])), (b1, .inl (ax 0, 11, .inl lv1)), (b2, .inl (ax 0, 121, .inl mo1)), (b3, .inl (ax 0, 121, .inl (fun j => nI (bo1 j))))] := ⟨hP7, hD7⟩
          obtain ⟨hP, hD⟩ := hW7
          clear hP7 hD7
          refine lv_aload_n hx hb d_Prover_fits_52 rfl (lv_at hl1 0 rfl) ?_
          refine lv_dup hx hb d_Prover_fits_53 rfl ?_
          refine va_get (D := D) (ci := 6) (v := .int (nI (w2 + 1))) (C := R_Prover) (T := F_Prover) (N := 9) hx hb hts i_Prover hown hK.1 hP 0 rfl rfl 8 (by decide) (hts _ wd_187) (fun _ h9 => h9) rfl d_Prover_fits_54 ?_
          refine lv_iconst (v := 1) hx hb d_Prover_fits_57 (by decide) ?_
          refine lv_isub hx hb d_Prover_fits_58 ?_
          refine lv_topi (fun z_26 ez_26 => ?_)
          have ez_26 : z_26 = nI (w2) := ez_26.trans (pk_sub (a := w2 + 1) (b := 1) (by first | assumption | omega))
          subst ez_26
          refine va_put (D := D) (ci := 6) (v := .int (nI w2)) (ty := .int) (C := R_Prover) (T := F_Prover) (N := 9) hx hb hts i_Prover t_Prover t_Prover_ok n_Prover hown hK.1 hP hD hS 0 rfl rfl 8 (by decide) (hts _ wd_187) (fun _ h9 => h9) rfl (by decide +kernel) rfl rfl (Nat.le_of_ble_eq_true rfl) d_Prover_fits_59 (fun H_27 locs hP1 hD1 hS1 => ?_)
          clear hP hD hS
          have hS := hS1
          have hW7 : (fun w9 : va_W => va_P D classes w9 H_27 ∧ va_D A w9) [(p0, .inr (6, [.ref b0, .int s_rows, .int s_atoms, .int s_first, .ref n0, .ref q1, .ref q2, .ref q3, .int (nI w2)])), (q1, .inl (ax 2, rl, .inl ro)), (q2, .inl (ax 0, 64, .inl (fun j => nI (dm1 j)))), (q3, .inl (ax 0, 64, .inl ix1)), (n0, .inr (4, [.ref n1, .ref n2, .ref n3, .int (nI z9)])), (n1, .inl (ax 1, cp, .inl fo)), (n2, .inl (ax 0, cp, .inl fl)), (n3, .inl (ax 0, cp, .inl fr)), (b0, .inr (0, [.ref b1, .ref b2, .ref b3, .int (nI bn1)])), (b1, .inl (ax 0, 11, .inl lv1)), (b2, .inl (ax 0, 121, .inl mo1)), (b3, .inl (ax 0, 121, .inl (fun j => nI (bo1 j))))] := ⟨hP1, hD1⟩
          obtain ⟨hP, hD⟩ := hW7
          clear hP1 hD1 hS1
          refine lv_aload_n hx hb d_Prover_fits_62 rfl (lv_at hl1 0 rfl) ?_
          refine va_get (D := D) (ci := 6) (v := .ref q2) (C := R_Prover) (T := F_Prover) (N := 9) hx hb hts i_Prover hown hK.1 hP 0 rfl rfl 6 (by decide) (hts _ wd_185) (fun _ h9 => h9) rfl d_Prover_fits_63 ?_
          refine lv_aload_n hx hb d_Prover_fits_66 rfl (lv_at hl1 0 rfl) ?_
          refine va_get (D := D) (ci := 6) (v := .int (nI w2)) (C := R_Prover) (T := F_Prover) (N := 9) hx hb hts i_Prover hown hK.1 hP 0 rfl rfl 8 (by decide) (hts _ wd_187) (fun _ h9 => h9) rfl d_Prover_fits_67 ?_
          refine va_iald hx hb hK.1 hP 2 0 rfl rfl (vp_in_nI (by first | assumption | omega) (by decide)) d_Prover_fits_70 ?_
          refine W.eq (g2 := F0 m 71 ls [.int (nI (dm1 w2))]) (by rw [nI_clamp (by first | exact Nat.lt_of_lt_of_le (by assumption) (by decide) | exact Nat.lt_of_le_of_lt (by assumption) (by decide) | omega)]) ?_
          refine lv_iconst (v := 1) hx hb d_Prover_fits_71 (by decide) ?_
          refine lv_ishr hx hb d_Prover_fits_72 ?_
          refine lv_topi (fun z_28 ez_28 => ?_)
          have ez_28 : z_28 = nI ((dm1 w2) / 2) := ez_28.trans (nb_shr (k := 1) (a := dm1 w2) (by decide) (by first | assumption | omega))
          subst ez_28
          refine lv_istore (lv' := [(4, .int (nI ((dm1 w2) / 2))), (0, .ref p0), (2, .int 1), (3, .int (nI t1))]) hx hb d_Prover_fits_73 hl1 (by decide) rfl (fun ls hl2 => ?_)
          clear hl1; have hl1 := hl2; clear hl2
          refine lv_aload_n hx hb d_Prover_fits_75 rfl (lv_at hl1 1 rfl) ?_
          refine va_get (D := D) (ci := 6) (v := .ref n0) (C := R_Prover) (T := F_Prover) (N := 9) hx hb hts i_Prover hown hK.1 hP 0 rfl rfl 4 (by decide) (hts _ wd_183) (fun _ h9 => h9) rfl d_Prover_fits_76 ?_
          refine va_get (D := D) (ci := 4) (v := .ref n1) (C := R_Nodes) (T := F_Nodes) (N := 4) hx hb hts i_Nodes hown hK.1 hP 4 rfl rfl 0 (by decide) (hts _ wd_104) (fun _ h9 => h9) rfl d_Prover_fits_79 ?_
          refine lv_iload hx hb d_Prover_fits_82 (lv_at hl1 0 rfl) ?_
          refine va_bald hx hb hK.1 hP 5 1 rfl rfl (vp_in_nI (by first | assumption | omega) (by first | exact Nat.lt_of_lt_of_le (by assumption) (by decide) | exact Nat.lt_of_le_of_lt (by assumption) (by decide) | omega)) d_Prover_fits_84 ?_
          refine W.eq (g2 := F0 m 85 ls [.int (fo ((dm1 w2) / 2))]) (by rw [nI_clamp (by first | exact Nat.lt_of_lt_of_le (by assumption) (by decide) | exact Nat.lt_of_le_of_lt (by assumption) (by decide) | omega)]) ?_
          refine W.eq (g2 := F0 m 85 ls [.int (nI o9)]) (by rw [ho2]) ?_
          refine lv_bipush (v := 6) hx hb d_Prover_fits_85 (by decide) ?_
          refine lv_icmp_ge (tgt := 129) hx hb d_Prover_fits_87 (by decide) (fun c_29 => ?_) (fun c_29 => ?_)
          · replace c_29 : 6 ≤ o9 := (nI_leI (a := 6) (b := o9) (by decide) (by first | exact Nat.lt_of_lt_of_le (by assumption) (by decide) | exact Nat.lt_of_le_of_lt (by assumption) (by decide) | omega)).mp c_29
            have h6 : ¬ fo (dm1 w2 / 2) < 6 := by rw [ho2]; exact nI_nlt (b := 6) (by first | assumption | omega) (by first | assumption | omega)
            have h06 : ¬ dm1 w2 / 2 = 0 := fun q => by obtain ⟨a9, ha1, _⟩ := hnp.2.1 (by first | assumption | omega); omega
            have edm : 2 * (dm1 w2 / 2) + dm1 w2 % 2 = dm1 w2 := by omega
            have hdv2 := hdv
            rw [← edm] at hdv2
            refine lv_aload_n hx hb d_Prover_fits_129 rfl (lv_at hl1 1 rfl) ?_
            refine lv_iload hx hb d_Prover_fits_130 (lv_at hl1 0 rfl) ?_
            refine lv_aload_n hx hb d_Prover_fits_132 rfl (lv_at hl1 1 rfl) ?_
            refine va_get (D := D) (ci := 6) (v := .ref q2) (C := R_Prover) (T := F_Prover) (N := 9) hx hb hts i_Prover hown hK.1 hP 0 rfl rfl 6 (by decide) (hts _ wd_185) (fun _ h9 => h9) rfl d_Prover_fits_133 ?_
            refine lv_aload_n hx hb d_Prover_fits_136 rfl (lv_at hl1 1 rfl) ?_
            refine va_get (D := D) (ci := 6) (v := .int (nI w2)) (C := R_Prover) (T := F_Prover) (N := 9) hx hb hts i_Prover hown hK.1 hP 0 rfl rfl 8 (by decide) (hts _ wd_187) (fun _ h9 => h9) rfl d_Prover_fits_137 ?_
            refine va_iald hx hb hK.1 hP 2 0 rfl rfl (vp_in_nI (by first | assumption | omega) (by decide)) d_Prover_fits_140 ?_
            refine W.eq (g2 := F0 m 141 ls [.int (nI (dm1 w2)), .int (nI ((dm1 w2) / 2)), .ref p0]) (by rw [nI_clamp (by first | exact Nat.lt_of_lt_of_le (by assumption) (by decide) | exact Nat.lt_of_le_of_lt (by assumption) (by decide) | omega)]) ?_
            refine lv_iconst (v := 1) hx hb d_Prover_fits_141 (by decide) ?_
            refine lv_iand hx hb d_Prover_fits_142 ?_
            refine lv_topi (fun z_30 ez_30 => ?_)
            have ez_30 : z_30 = nI ((dm1 w2) % 2) := ez_30.trans (nb_and 1 (dm1 w2))
            subst ez_30
            refine lv_aload_n hx hb d_Prover_fits_143 rfl (lv_at hl1 1 rfl) ?_
            refine va_get (D := D) (ci := 6) (v := .ref q3) (C := R_Prover) (T := F_Prover) (N := 9) hx hb hts i_Prover hown hK.1 hP 0 rfl rfl 7 (by decide) (hts _ wd_186) (fun _ h9 => h9) rfl d_Prover_fits_144 ?_
            refine lv_aload_n hx hb d_Prover_fits_147 rfl (lv_at hl1 1 rfl) ?_
            refine va_get (D := D) (ci := 6) (v := .int (nI w2)) (C := R_Prover) (T := F_Prover) (N := 9) hx hb hts i_Prover hown hK.1 hP 0 rfl rfl 8 (by decide) (hts _ wd_187) (fun _ h9 => h9) rfl d_Prover_fits_148 ?_
            refine va_iald hx hb hK.1 hP 3 0 rfl rfl (vp_in_nI (by first | assumption | omega) (by decide)) d_Prover_fits_151 ?_
            refine W.eq (g2 := F0 m 152 ls [.int (ix1 w2), .int (nI ((dm1 w2) % 2)), .int (nI ((dm1 w2) / 2)), .ref p0]) (by rw [nI_clamp (by first | exact Nat.lt_of_lt_of_le (by assumption) (by decide) | exact Nat.lt_of_le_of_lt (by assumption) (by decide) | omega)]) ?_
            refine W.eq (g2 := F0 m 152 ls [.int (nI (i2n (ix1 w2))), .int (nI ((dm1 w2) % 2)), .int (nI ((dm1 w2) / 2)), .ref p0]) (by rw [nI_i2n]) ?_
            obtain ⟨hPc, hDc, hFc, hCs⟩ := xw_sub3 (wc := [(p0, .inr (6, [.ref b0, .int s_rows, .int s_atoms, .int s_first, .ref n0, .ref q1, .ref q2, .ref q3, .int (nI w2)])), (q1, .inl (ax 2, rl, .inl ro)), (q2, .inl (ax 0, 64, .inl (fun j => nI (dm1 j)))), (q3, .inl (ax 0, 64, .inl ix1)), (n0, .inr (4, [.ref n1, .ref n2, .ref n3, .int (nI z9)])), (n1, .inl (ax 1, cp, .inl fo)), (n2, .inl (ax 0, cp, .inl fl)), (n3, .inl (ax 0, cp, .inl fr))]) hP hD hS hA [0, 1, 2, 3, 4, 5, 6, 7] (by decide) rfl
            have hz := xz_of hN hS
            refine va_callv (va_runV (As := [.int (nI ((dm1 w2) / 2)), .int (nI ((dm1 w2) % 2)), .int (nI (i2n (ix1 w2)))]) (rest := []) ⟨hx, hb, hml, hown, hts⟩ (c_P_divide l D ax p0 q1 q2 q3 w2 rl b0 s_rows s_atoms s_first ro ix1 dm1 n0 n1 n2 n3 cp z9 fo fl fr ((dm1 w2) / 2) ((dm1 w2) % 2) (i2n (ix1 w2)) ls9 H_27.size (by first | assumption | omega) (by first | assumption | omega) h6 hz9 hcp hrl hrl2 hnv hnl hll hnb9 hro hdv2) (xcV (n := 3) hts wd_866 wd_6 wd_863 wd_865 ps_39 rfl rfl (by decide +kernel) ⟨Nat.le_of_ble_eq_true rfl, Nat.le_of_ble_eq_true rfl⟩) (xpV (ci := 6) (q0 := 0) (As := [.int (nI ((dm1 w2) / 2)), .int (nI ((dm1 w2) % 2)), .int (nI (i2n (ix1 w2)))]) hPc hK hz hDc rfl rfl) rfl rfl hl1.1 rfl (lv_room (Nat.le_of_ble_eq_true rfl)) d_Prover_fits_152 ⟨Nat.le_of_ble_eq_true rfl, Nat.le_of_ble_eq_true rfl⟩) hS (fun q _ h => hFc q h) hFc (fun u_31 t H_32 locs ht hvm hw hB hz1 hk1 hS1 => ?_)
            try dsimp only at hw
            have hs_34 := hw
            obtain ⟨x_35, x_36, hx_37, hP1, hD1⟩ := hB
            rw [ht] at hP1
            have hjn := xw_join3 (wl := [(b0, .inr (0, [.ref b1, .ref b2, .ref b3, .int (nI bn1)])), (b1, .inl (ax 0, 11, .inl lv1)), (b2, .inl (ax 0, 121, .inl mo1)), (b3, .inl (ax 0, 121, .inl (fun j => nI (bo1 j)))), (p0, .inr (6, [.ref b0, .int s_rows, .int s_atoms, .int s_first, .ref n0, .ref q1, .ref q2, .ref q3, .int (nI (u_31 0))])), (q1, .inl (ax 2, rl, .inl ro)), (q2, .inl (ax 0, 64, .inl (fun j => nI (x_35 j)))), (q3, .inl (ax 0, 64, .inl x_36)), (n0, .inr (4, [.ref n1, .ref n2, .ref n3, .int (nI z9)])), (n1, .inl (ax 1, cp, .inl fo)), (n2, .inl (ax 0, cp, .inl fl)), (n3, .inl (ax 0, cp, .inl fr))]) hP hD [0, 1, 2, 3, 4, 5, 6, 7] [8, 9, 10, 11] hCs (by decide) (by decide) hk1 hFc hP1 hD1 rfl
            clear hP1 hD1
            clear hPc hDc hFc hCs hz hz1 hk1 ht hvm
            clear hP hD hS
            have hS := hS1
            obtain ⟨hP, hD⟩ := hjn
            clear hS1
            refine lv_iinc (v := nI (t1 + 1)) (lv' := [(3, .int (nI (t1 + 1))), (4, .int (nI ((dm1 w2) / 2))), (0, .ref p0), (2, .int 1)]) hx hb d_Prover_fits_155 hl1 (k := 3) rfl (nI_add t1 1) (by decide) rfl (fun ls hl2 => ?_)
            clear hl1; have hl1 := hl2; clear hl2
            refine lv_goto (tgt := 30) hx hb d_Prover_fits_158 (by decide) ?_
            exact ih_21 1 (t1 + 1) (u_31 0) bn1 x_35 bo1 x_36 lv1 mo1 (by first | assumption | omega) (by first | assumption | omega) (by first | assumption | omega) (hh8.le hx_37.2.2.1) hb1 hc1 hW1 (hF8.nx hsn (by rw [← edm]; exact hx_37)) (hB8.nx hsn (show ¬ (ath ls9 (dm1 w2 / 2)).1 < 6 by omega) h06) _ _ _ (hP.sub [4, 5, 6, 7, 8, 9, 10, 11, 0, 1, 2, 3] rfl) (hD.sub [4, 5, 6, 7, 8, 9, 10, 11, 0, 1, 2, 3] (by decide) rfl) hS (lv_sub hl1 [2, 3, 0] rfl)
          · replace c_29 : ¬ 6 ≤ o9 := fun hq9 => c_29 ((nI_leI (a := 6) (b := o9) (by decide) (by first | exact Nat.lt_of_lt_of_le (by assumption) (by decide) | exact Nat.lt_of_le_of_lt (by assumption) (by decide) | omega)).mpr hq9)
            obtain ⟨htr1, htr2⟩ := hnp.1 (by first | assumption | omega)
            have hnd9 := hnl (dm1 w2 / 2) (by first | assumption | omega)
            obtain ⟨htm1, htm2⟩ := hnd9.2.1 (by first | assumption | omega)
            obtain ⟨hnbm, hnbt⟩ := hnb9 _ (ath_mem (l := ls9) (k := dm1 w2 / 2) (by first | assumption | omega))
            obtain ⟨htb1, htb2⟩ := hnbt (by first | assumption | omega)
            have hg81 := (hB8.1 rfl).1
            refine lv_aload_n hx hb d_Prover_fits_90 rfl (lv_at hl1 1 rfl) ?_
            refine va_get (D := D) (ci := 6) (v := .ref b0) (C := R_Prover) (T := F_Prover) (N := 9) hx hb hts i_Prover hown hK.1 hP 0 rfl rfl 0 (by decide) (hts _ wd_175) (fun _ h9 => h9) rfl d_Prover_fits_91 ?_
            refine lv_aload_n hx hb d_Prover_fits_94 rfl (lv_at hl1 1 rfl) ?_
            refine lv_aload_n hx hb d_Prover_fits_95 rfl (lv_at hl1 1 rfl) ?_
            refine va_get (D := D) (ci := 6) (v := .int (nI w2)) (C := R_Prover) (T := F_Prover) (N := 9) hx hb hts i_Prover hown hK.1 hP 0 rfl rfl 8 (by decide) (hts _ wd_187) (fun _ h9 => h9) rfl d_Prover_fits_96 ?_
            obtain ⟨hPc, hDc, hFc, hCs⟩ := xw_sub3 (wc := [(p0, .inr (6, [.ref b0, .int s_rows, .int s_atoms, .int s_first, .ref n0, .ref q1, .ref q2, .ref q3, .int (nI w2)])), (q1, .inl (ax 2, rl, .inl ro)), (q2, .inl (ax 0, 64, .inl (fun j => nI (dm1 j)))), (q3, .inl (ax 0, 64, .inl ix1)), (n0, .inr (4, [.ref n1, .ref n2, .ref n3, .int (nI z9)])), (n1, .inl (ax 1, cp, .inl fo)), (n2, .inl (ax 0, cp, .inl fl)), (n3, .inl (ax 0, cp, .inl fr))]) hP hD hS hA [0, 1, 2, 3, 4, 5, 6, 7] (by decide) rfl
            have hz := xz_of hN hS
            refine va_calli (va_runV (As := [.int (nI w2)]) (rest := [.ref b0]) ⟨hx, hb, hml, hown, hts⟩ (c_P_comparison l D ax p0 q1 q2 q3 w2 rl b0 s_rows s_atoms s_first ro ix1 dm1 n0 n1 n2 n3 cp z9 fo fl fr w2 ls9 H_27.size (by first | assumption | omega) hd9 hz9 hcp hnl hll hnb9 (by first | assumption | omega) hx5) (xcV (n := 1) hts wd_846 wd_6 wd_843 wd_845 ps_35 rfl rfl (by decide +kernel) ⟨Nat.le_of_ble_eq_true rfl, Nat.le_of_ble_eq_true rfl⟩) (xpV (ci := 6) (q0 := 0) (As := [.int (nI w2)]) hPc hK hz hDc rfl rfl) rfl rfl hl1.1 rfl (lv_room (Nat.le_of_ble_eq_true rfl)) d_Prover_fits_99 ⟨Nat.le_of_ble_eq_true rfl, Nat.le_of_ble_eq_true rfl⟩) hS (fun q _ h => hFc q h) hFc (fun r_40 u_38 t H_39 locs ht hvm hw hB hz1 hk1 hS1 => ?_)
            try dsimp only at hw
            obtain ⟨hw, hs_41, hs_42⟩ := hw
            subst hw
            obtain ⟨hP1, hD1⟩ := hB
            rw [ht] at hP1
            have hjn := xw_join3 (wl := [(b0, .inr (0, [.ref b1, .ref b2, .ref b3, .int (nI bn1)])), (b1, .inl (ax 0, 11, .inl lv1)), (b2, .inl (ax 0, 121, .inl mo1)), (b3, .inl (ax 0, 121, .inl (fun j => nI (bo1 j)))), (p0, .inr (6, [.ref b0, .int s_rows, .int s_atoms, .int s_first, .ref n0, .ref q1, .ref q2, .ref q3, .int (nI w2)])), (q1, .inl (ax 2, rl, .inl ro)), (q2, .inl (ax 0, 64, .inl (fun j => nI (dm1 j)))), (q3, .inl (ax 0, 64, .inl ix1)), (n0, .inr (4, [.ref n1, .ref n2, .ref n3, .int (nI z9)])), (n1, .inl (ax 1, cp, .inl fo)), (n2, .inl (ax 0, cp, .inl fl)), (n3, .inl (ax 0, cp, .inl fr))]) hP hD [0, 1, 2, 3, 4, 5, 6, 7] [8, 9, 10, 11] hCs (by decide) (by decide) hk1 hFc hP1 hD1 rfl
            clear hP1 hD1
            clear hPc hDc hFc hCs hz hz1 hk1 ht hvm
            clear hP hD hS
            have hS := hS1
            obtain ⟨hP, hD⟩ := hjn
            clear hS1
            refine lv_aload_n hx hb d_Prover_fits_102 rfl (lv_at hl1 1 rfl) ?_
            refine va_get (D := D) (ci := 6) (v := .ref n0) (C := R_Prover) (T := F_Prover) (N := 9) hx hb hts i_Prover hown hK.1 hP 4 rfl rfl 4 (by decide) (hts _ wd_183) (fun _ h9 => h9) rfl d_Prover_fits_103 ?_
            refine va_get (D := D) (ci := 4) (v := .ref n2) (C := R_Nodes) (T := F_Nodes) (N := 4) hx hb hts i_Nodes hown hK.1 hP 8 rfl rfl 1 (by decide) (hts _ wd_110) (fun _ h9 => h9) rfl d_Prover_fits_106 ?_
            refine lv_iload hx hb d_Prover_fits_109 (lv_at hl1 0 rfl) ?_
            refine va_iald hx hb hK.1 hP 10 0 rfl rfl (vp_in_nI (by first | assumption | omega) (by first | exact Nat.lt_of_lt_of_le (by assumption) (by decide) | exact Nat.lt_of_le_of_lt (by assumption) (by decide) | omega)) d_Prover_fits_111 ?_
            refine W.eq (g2 := F0 m 112 ls [.int (fl ((dm1 w2) / 2)), .int (nI (u_38 0)), .ref b0]) (by rw [nI_clamp (by first | exact Nat.lt_of_lt_of_le (by assumption) (by decide) | exact Nat.lt_of_le_of_lt (by assumption) (by decide) | omega)]) ?_
            refine lv_aload_n hx hb d_Prover_fits_112 rfl (lv_at hl1 1 rfl) ?_
            refine va_get (D := D) (ci := 6) (v := .ref n0) (C := R_Prover) (T := F_Prover) (N := 9) hx hb hts i_Prover hown hK.1 hP 4 rfl rfl 4 (by decide) (hts _ wd_183) (fun _ h9 => h9) rfl d_Prover_fits_113 ?_
            refine va_get (D := D) (ci := 4) (v := .ref n3) (C := R_Nodes) (T := F_Nodes) (N := 4) hx hb hts i_Nodes hown hK.1 hP 8 rfl rfl 2 (by decide) (hts _ wd_115) (fun _ h9 => h9) rfl d_Prover_fits_116 ?_
            refine lv_iload hx hb d_Prover_fits_119 (lv_at hl1 0 rfl) ?_
            refine va_iald hx hb hK.1 hP 11 0 rfl rfl (vp_in_nI (by first | assumption | omega) (by first | exact Nat.lt_of_lt_of_le (by assumption) (by decide) | exact Nat.lt_of_le_of_lt (by assumption) (by decide) | omega)) d_Prover_fits_121 ?_
            refine W.eq (g2 := F0 m 122 ls [.int (fr ((dm1 w2) / 2)), .int (fl ((dm1 w2) / 2)), .int (nI (u_38 0)), .ref b0]) (by rw [nI_clamp (by first | exact Nat.lt_of_lt_of_le (by assumption) (by decide) | exact Nat.lt_of_le_of_lt (by assumption) (by decide) | omega)]) ?_
            obtain ⟨hPc, hDc, hFc, hCs⟩ := xw_sub3 (wc := [(b0, .inr (0, [.ref b1, .ref b2, .ref b3, .int (nI bn1)])), (b1, .inl (ax 0, 11, .inl lv1)), (b2, .inl (ax 0, 121, .inl mo1)), (b3, .inl (ax 0, 121, .inl (fun j => nI (bo1 j))))]) hP hD hS hA [0, 1, 2, 3] (by decide) rfl
            have hz := xz_of hN hS
            refine va_calli (va_runV (As := [.int (nI (u_38 0)), .int (fl ((dm1 w2) / 2)), .int (fr ((dm1 w2) / 2))]) (rest := []) ⟨hx, hb, hml, hown, hts⟩ (c_B_take l D ax b0 b1 b2 b3 bn1 lv1 mo1 bo1 (u_38 0) (fl ((dm1 w2) / 2)) (fr ((dm1 w2) / 2)) _ _ H_39.size htr1 htr2 hb1 (by first | assumption | omega) htm1 htm2 htb1 htb2 hW1 hc1 hg81) (xcV (n := 3) hts wd_850 wd_7 wd_847 wd_848 wd_849 rfl rfl (by decide +kernel) ⟨Nat.le_of_ble_eq_true rfl, Nat.le_of_ble_eq_true rfl⟩) (xpV (ci := 0) (q0 := 0) (As := [.int (nI (u_38 0)), .int (fl ((dm1 w2) / 2)), .int (fr ((dm1 w2) / 2))]) hPc hK hz hDc rfl rfl) rfl rfl hl1.1 rfl (lv_room (Nat.le_of_ble_eq_true rfl)) d_Prover_fits_122 ⟨Nat.le_of_ble_eq_true rfl, Nat.le_of_ble_eq_true rfl⟩) hS (fun q _ h => hFc q h) hFc (fun r_45 u_43 t H_44 locs ht hvm hw hB hz1 hk1 hS1 => ?_)
            try dsimp only at hw
            obtain ⟨hw, hs_46⟩ := hw
            subst hw
            obtain ⟨x_47, x_48, x_49, hx_50, hx_51, hx_52, hx_53, hP1, hD1⟩ := hB
            rw [ht] at hP1
            have hjn := xw_join3 (wl := [(p0, .inr (6, [.ref b0, .int s_rows, .int s_atoms, .int s_first, .ref n0, .ref q1, .ref q2, .ref q3, .int (nI w2)])), (q1, .inl (ax 2, rl, .inl ro)), (q2, .inl (ax 0, 64, .inl (fun j => nI (dm1 j)))), (q3, .inl (ax 0, 64, .inl ix1)), (n0, .inr (4, [.ref n1, .ref n2, .ref n3, .int (nI z9)])), (n1, .inl (ax 1, cp, .inl fo)), (n2, .inl (ax 0, cp, .inl fl)), (n3, .inl (ax 0, cp, .inl fr)), (b0, .inr (0, [.ref b1, .ref b2, .ref b3, .int (nI (u_43 0))])), (b1, .inl (ax 0, 11, .inl x_47)), (b2, .inl (ax 0, 121, .inl x_48)), (b3, .inl (ax 0, 121, .inl (fun j => nI (x_49 j))))]) hP hD [0, 1, 2, 3] [4, 5, 6, 7, 8, 9, 10, 11] hCs (by decide) (by decide) hk1 hFc hP1 hD1 rfl
            clear hP1 hD1
            clear hPc hDc hFc hCs hz hz1 hk1 ht hvm
            clear hP hD hS
            have hS := hS1
            obtain ⟨hP, hD⟩ := hjn
            clear hS1
            refine lv_istore_n (lv' := [(2, .int (nI (u_43 1))), (4, .int (nI ((dm1 w2) / 2))), (0, .ref p0), (3, .int (nI t1))]) hx hb d_Prover_fits_125 rfl hl1 (by decide) rfl (fun ls hl2 => ?_)
            clear hl1; have hl1 := hl2; clear hl2
            refine lv_goto (tgt := 155) hx hb d_Prover_fits_126 (by decide) ?_
            refine lv_iinc (v := nI (t1 + 1)) (lv' := [(3, .int (nI (t1 + 1))), (2, .int (nI (u_43 1))), (4, .int (nI ((dm1 w2) / 2))), (0, .ref p0)]) hx hb d_Prover_fits_155 hl1 (k := 3) rfl (nI_add t1 1) (by decide) rfl (fun ls hl2 => ?_)
            clear hl1; have hl1 := hl2; clear hl2
            refine lv_goto (tgt := 30) hx hb d_Prover_fits_158 (by decide) ?_
            exact ih_21 (u_43 1) (t1 + 1) w2 (u_43 0) dm1 x_49 ix1 x_47 x_48 (by first | assumption | omega) (by first | assumption | omega) (by first | assumption | omega) (by first | assumption | omega) hx_50 hx_51 hx_52 (hF8.at (show (ath ls9 (dm1 w2 / 2)).1 < 6 by omega) hsn) (hB8.at hdv.1 hsn (show (ath ls9 (dm1 w2 / 2)).1 < 6 by omega) (hx_53.as (fun v => by rw [hs_41]; exact Iff.rfl))) _ _ _ (hP.sub [0, 1, 2, 3, 4, 5, 6, 7, 8, 9, 10, 11] rfl) (hD.sub [0, 1, 2, 3, 4, 5, 6, 7, 8, 9, 10, 11] (by decide) rfl) hS (lv_sub hl1 [3, 1, 0] rfl)
abbrev b_Prover_search : ByteArray := prog_8_method_5_code
def y_Prover_search : MethodName := ⟨R_Prover, "search", "()V"⟩
theorem d_Prover_search_0 : decode b_Prover_search 0 = .ok (.aload_n 0, 1) := by decide +kernel
theorem d_Prover_search_1 : decode b_Prover_search 1 = .ok (.getfield 54, 3) := by decide +kernel
theorem d_Prover_search_4 : decode b_Prover_search 4 = .ok (.sipush 5000, 3) := by decide +kernel
theorem d_Prover_search_7 : decode b_Prover_search 7 = .ok (.if_icmp .le 10, 3) := by decide +kernel
theorem d_Prover_search_10 : decode b_Prover_search 10 = .ok (.aload_n 0, 1) := by decide +kernel
theorem d_Prover_search_11 : decode b_Prover_search 11 = .ok (.getfield 54, 3) := by decide +kernel
theorem d_Prover_search_14 : decode b_Prover_search 14 = .ok (.goto 4, 3) := by decide +kernel
theorem d_Prover_search_17 : decode b_Prover_search 17 = .ok (.iconst 0, 1) := by decide +kernel
theorem d_Prover_search_18 : decode b_Prover_search 18 = .ok (.istore_n 1, 1) := by decide +kernel
theorem d_Prover_search_19 : decode b_Prover_search 19 = .ok (.aload_n 0, 1) := by decide +kernel
theorem d_Prover_search_20 : decode b_Prover_search 20 = .ok (.iconst (-1), 1) := by decide +kernel
theorem d_Prover_search_21 : decode b_Prover_search 21 = .ok (.putfield 73, 3) := by decide +kernel
theorem d_Prover_search_24 : decode b_Prover_search 24 = .ok (.iconst 0, 1) := by decide +kernel
theorem d_Prover_search_25 : decode b_Prover_search 25 = .ok (.istore_n 2, 1) := by decide +kernel
theorem d_Prover_search_26 : decode b_Prover_search 26 = .ok (.iload_n 2, 1) := by decide +kernel
theorem d_Prover_search_27 : decode b_Prover_search 27 = .ok (.sipush 5000, 3) := by decide +kernel
theorem d_Prover_search_30 : decode b_Prover_search 30 = .ok (.if_icmp .ge 38, 3) := by decide +kernel
theorem d_Prover_search_33 : decode b_Prover_search 33 = .ok (.iload_n 1, 1) := by decide +kernel
theorem d_Prover_search_34 : decode b_Prover_search 34 = .ok (.aload_n 0, 1) := by decide +kernel
theorem d_Prover_search_35 : decode b_Prover_search 35 = .ok (.getfield 54, 3) := by decide +kernel
theorem d_Prover_search_38 : decode b_Prover_search 38 = .ok (.if_icmp .ge 30, 3) := by decide +kernel
theorem d_Prover_search_41 : decode b_Prover_search 41 = .ok (.aload_n 0, 1) := by decide +kernel
theorem d_Prover_search_42 : decode b_Prover_search 42 = .ok (.iload_n 1, 1) := by decide +kernel
theorem d_Prover_search_43 : decode b_Prover_search 43 = .ok (.invokevirtual 76, 3) := by decide +kernel
theorem d_Prover_search_46 : decode b_Prover_search 46 = .ok (.ifCond .eq 9, 3) := by decide +kernel
theorem d_Prover_search_49 : decode b_Prover_search 49 = .ok (.aload_n 0, 1) := by decide +kernel
theorem d_Prover_search_50 : decode b_Prover_search 50 = .ok (.iload_n 1, 1) := by decide +kernel
theorem d_Prover_search_51 : decode b_Prover_search 51 = .ok (.putfield 73, 3) := by decide +kernel
theorem d_Prover_search_54 : decode b_Prover_search 54 = .ok (.return_, 1) := by decide +kernel
theorem d_Prover_search_55 : decode b_Prover_search 55 = .ok (.iload_n 1, 1) := by decide +kernel
theorem d_Prover_search_56 : decode b_Prover_search 56 = .ok (.aload_n 0, 1) := by decide +kernel
theorem d_Prover_search_57 : decode b_Prover_search 57 = .ok (.invokevirtual 80, 3) := by decide +kernel
theorem d_Prover_search_60 : decode b_Prover_search 60 = .ok (.iadd, 1) := by decide +kernel
theorem d_Prover_search_61 : decode b_Prover_search 61 = .ok (.istore_n 1, 1) := by decide +kernel
theorem d_Prover_search_62 : decode b_Prover_search 62 = .ok (.iinc 2 1, 3) := by decide +kernel
theorem d_Prover_search_65 : decode b_Prover_search 65 = .ok (.goto (-39), 3) := by decide +kernel
theorem d_Prover_search_68 : decode b_Prover_search 68 = .ok (.return_, 1) := by decide +kernel
set_option maxHeartbeats 40000000 in
set_option maxRecDepth 100000 in
theorem c_P_search (l : Launch) (D : va_G) (ax : Nat → ClassId) (p0 q1 q2 q3 wt rl b0 : Nat) (s_rows s_atoms s_first : Int32) (ro ix : Nat → Int32) (dm : Nat → Nat) (n0 n1 n2 n3 cp z9 : Nat) (fo fl fr : Nat → Int32) (b1 b2 b3 bn : Nat) (lv mo : Nat → Int32) (bo : Nat → Nat) (rn : Nat) (ls9 : List sgT) (sz : Nat) (hz1 : 1 ≤ z9) (hbv : bnv mo bo bn) (hz9 : z9 ≤ cp) (hcp : cp ≤ 100000) (hrl : 2 * z9 ≤ rl) (hrl2 : rl ≤ 300000) (hnv : ndv fo fl fr z9) (hnl : ndl fo fl fr ls9) (hll : ls9.length = z9) (hnb9 : nbl 21483 ls9) (hro : roQ8 ls9 z9 ro) (hcv : bcv8 mo bo bn) (hd64 : dpl ls9 (ls9.length - 1) ≤ 64) (hs64 : szl ls9 (ls9.length - 1) ≤ ls9.length) (hwt : wt ≤ 64) (hrn : rn = rwl8 ls9) : Met l y_Prover_search (xws (.code y_Prover_search b_Prover_search 3 none)) ({ frames := 70, cells := 0, slots := 0, locals := 2800 }) (va_Pc [.ref p0] (xo D ax [(p0, .inr (6, [.ref b0, .int (nI rn), .int s_atoms, .int s_first, .ref n0, .ref q1, .ref q2, .ref q3, .int (nI wt)])), (q1, .inl (ax 2, rl, .inl ro)), (q2, .inl (ax 0, 64, .inl (fun j => nI (dm j)))), (q3, .inl (ax 0, 64, .inl ix)), (n0, .inr (4, [.ref n1, .ref n2, .ref n3, .int (nI z9)])), (n1, .inl (ax 1, cp, .inl fo)), (n2, .inl (ax 0, cp, .inl fl)), (n3, .inl (ax 0, cp, .inl fr)), (b0, .inr (0, [.ref b1, .ref b2, .ref b3, .int (nI bn)])), (b1, .inl (ax 0, 11, .inl lv)), (b2, .inl (ax 0, 121, .inl mo)), (b3, .inl (ax 0, 121, .inl (fun j => nI (bo j))))] sz)) ((va_Qv (fun (u : Nat → Nat) => (u 0 ≤ 64)) (fun (u : Nat → Nat) (t9 : State) => ∃ xdm : Nat → Nat, ∃ xix : Nat → Int32, ∃ xlv : Nat → Int32, ∃ xmo : Nat → Int32, ∃ xbo : Nat → Nat, ∃ xfi : Int32, (bnv xmo xbo (u 1)) ∧ (bcv8 xmo xbo (u 1)) ∧ (srQ8 ls9 xfi xlv) ∧ va_P D classes [(p0, .inr (6, [.ref b0, .int (nI rn), .int s_atoms, .int xfi, .ref n0, .ref q1, .ref q2, .ref q3, .int (nI (u 0))])), (q1, .inl (ax 2, rl, .inl ro)), (q2, .inl (ax 0, 64, .inl (fun j => nI (xdm j)))), (q3, .inl (ax 0, 64, .inl xix)), (n0, .inr (4, [.ref n1, .ref n2, .ref n3, .int (nI z9)])), (n1, .inl (ax 1, cp, .inl fo)), (n2, .inl (ax 0, cp, .inl fl)), (n3, .inl (ax 0, cp, .inl fr)), (b0, .inr (0, [.ref b1, .ref b2, .ref b3, .int (nI (u 1))])), (b1, .inl (ax 0, 11, .inl xlv)), (b2, .inl (ax 0, 121, .inl xmo)), (b3, .inl (ax 0, 121, .inl (fun j => nI (xbo j))))] t9.heap ∧ va_D (va_A [(p0, .inr (6, [.ref b0, .int (nI rn), .int s_atoms, .int s_first, .ref n0, .ref q1, .ref q2, .ref q3, .int (nI wt)])), (q1, .inl (ax 2, rl, .inl ro)), (q2, .inl (ax 0, 64, .inl (fun j => nI (dm j)))), (q3, .inl (ax 0, 64, .inl ix)), (n0, .inr (4, [.ref n1, .ref n2, .ref n3, .int (nI z9)])), (n1, .inl (ax 1, cp, .inl fo)), (n2, .inl (ax 0, cp, .inl fl)), (n3, .inl (ax 0, cp, .inl fr)), (b0, .inr (0, [.ref b1, .ref b2, .ref b3, .int (nI bn)])), (b1, .inl (ax 0, 11, .inl lv)), (b2, .inl (ax 0, 121, .inl mo)), (b3, .inl (ax 0, 121, .inl (fun j => nI (bo j))))] sz) [(p0, .inr (6, [.ref b0, .int (nI rn), .int s_atoms, .int xfi, .ref n0, .ref q1, .ref q2, .ref q3, .int (nI (u 0))])), (q1, .inl (ax 2, rl, .inl ro)), (q2, .inl (ax 0, 64, .inl (fun j => nI (xdm j)))), (q3, .inl (ax 0, 64, .inl xix)), (n0, .inr (4, [.ref n1, .ref n2, .ref n3, .int (nI z9)])), (n1, .inl (ax 1, cp, .inl fo)), (n2, .inl (ax 0, cp, .inl fl)), (n3, .inl (ax 0, cp, .inl fr)), (b0, .inr (0, [.ref b1, .ref b2, .ref b3, .int (nI (u 1))])), (b1, .inl (ax 0, 11, .inl xlv)), (b2, .inl (ax 0, 121, .inl xmo)), (b3, .inl (ax 0, 121, .inl (fun j => nI (xbo j))))]) (va_A [(p0, .inr (6, [.ref b0, .int (nI rn), .int s_atoms, .int s_first, .ref n0, .ref q1, .ref q2, .ref q3, .int (nI wt)])), (q1, .inl (ax 2, rl, .inl ro)), (q2, .inl (ax 0, 64, .inl (fun j => nI (dm j)))), (q3, .inl (ax 0, 64, .inl ix)), (n0, .inr (4, [.ref n1, .ref n2, .ref n3, .int (nI z9)])), (n1, .inl (ax 1, cp, .inl fo)), (n2, .inl (ax 0, cp, .inl fl)), (n3, .inl (ax 0, cp, .inl fr)), (b0, .inr (0, [.ref b1, .ref b2, .ref b3, .int (nI bn)])), (b1, .inl (ax 0, 11, .inl lv)), (b2, .inl (ax 0, 121, .inl mo)), (b3, .inl (ax 0, 121, .inl (fun j => nI (bo j))))] sz))) 0 0 (va_A [(p0, .inr (6, [.ref b0, .int (nI rn), .int s_atoms, .int s_first, .ref n0, .ref q1, .ref q2, .ref q3, .int (nI wt)])), (q1, .inl (ax 2, rl, .inl ro)), (q2, .inl (ax 0, 64, .inl (fun j => nI (dm j)))), (q3, .inl (ax 0, 64, .inl ix)), (n0, .inr (4, [.ref n1, .ref n2, .ref n3, .int (nI z9)])), (n1, .inl (ax 1, cp, .inl fo)), (n2, .inl (ax 0, cp, .inl fl)), (n3, .inl (ax 0, cp, .inl fr)), (b0, .inr (0, [.ref b1, .ref b2, .ref b3, .int (nI bn)])), (b1, .inl (ax 0, 11, .inl lv)), (b2, .inl (ax 0, 121, .inl mo)), (b3, .inl (ax 0, 121, .inl (fun j => nI (bo j))))] sz) := by
  refine Met.ofW (cc := b_Prover_search) (maxL := 3) (ret := none) (by decide) rfl ?_
  intro p e s m args below meth c s₁ B hml hv
  obtain ⟨rfl, hsz, hP, hK, hD0⟩ := hv
  have hx := B.exec
  have hb := B.bytes
  have hr := B.returns
  have hts := xw_hts B.pre
  have hown : s.vm.findClass R_Prover = some m.cls := findClass_of_methodNamed B.named
  have hlocks := B.notSynchronized
  subst hsz
  have hD := hD0.self (sz := s.heap.size)
  have hN := xz_entry hP
  generalize hAe : va_A [(p0, .inr (6, [.ref b0, .int (nI rn), .int s_atoms, .int s_first, .ref n0, .ref q1, .ref q2, .ref q3, .int (nI wt)])), (q1, .inl (ax 2, rl, .inl ro)), (q2, .inl (ax 0, 64, .inl (fun j => nI (dm j)))), (q3, .inl (ax 0, 64, .inl ix)), (n0, .inr (4, [.ref n1, .ref n2, .ref n3, .int (nI z9)])), (n1, .inl (ax 1, cp, .inl fo)), (n2, .inl (ax 0, cp, .inl fl)), (n3, .inl (ax 0, cp, .inl fr)), (b0, .inr (0, [.ref b1, .ref b2, .ref b3, .int (nI bn)])), (b1, .inl (ax 0, 11, .inl lv)), (b2, .inl (ax 0, 121, .inl mo)), (b3, .inl (ax 0, 121, .inl (fun j => nI (bo j))))] s.heap.size = A at hD hN ⊢
  have hA : ∀ q : Nat, s.heap.size ≤ q → A q := fun q h => by rw [← hAe]; exact Or.inr h
  have hS : va_S A s.heap s.heap [] := va_S.rf
  have hl0 := lv_entry ([.ref p0]) (n := 3) (Nat.le_of_ble_eq_true rfl)
  rw [lg_entry_eq]
  generalize (lg_sl ([.ref p0]) ++ List.replicate (3 - (lg_sl ([.ref p0])).length) Slot.unset).toArray = ls at hl0 ⊢
  have hl1 : lv_has ls 3 [(0, .ref p0)] := hl0
  refine xw_gen (fun Z9 hQe => ?_)
  rcases Nat.lt_or_ge 5000 rn with hbg | hbg
  · have hrn9 := rwo_le (o := olf ls9) (d := 2 * (ls9.length - 1))
    have h51 : rwl8 ls9 = 5001 := by have h9 : rwl8 ls9 ≤ 5001 := hrn9; omega
    refine lv_aload_n hx hb d_Prover_search_0 rfl (lv_at hl1 0 rfl) ?_
    refine va_get (D := D) (ci := 6) (v := .int (nI rn)) (C := R_Prover) (T := F_Prover) (N := 9) hx hb hts i_Prover hown hK.1 hP 0 rfl rfl 1 (by decide) (hts _ wd_177) (fun _ h9 => h9) rfl d_Prover_search_1 ?_
    refine lv_sipush (v := 5000) hx hb d_Prover_search_4 (by decide) ?_
    refine lv_icmp_le (tgt := 17) hx hb d_Prover_search_7 (by decide) (fun c_1 => ?_) (fun c_1 => ?_)
    · exfalso
      replace c_1 : rn ≤ 5000 := (nI_leI (a := rn) (b := 5000) (by first | exact Nat.lt_of_lt_of_le (by assumption) (by decide) | exact Nat.lt_of_le_of_lt (by assumption) (by decide) | omega) (by decide)).mp c_1
      omega
    replace c_1 : ¬ rn ≤ 5000 := fun hq9 => c_1 ((nI_leI (a := rn) (b := 5000) (by first | exact Nat.lt_of_lt_of_le (by assumption) (by decide) | exact Nat.lt_of_le_of_lt (by assumption) (by decide) | omega) (by decide)).mpr hq9)
    refine lv_aload_n hx hb d_Prover_search_10 rfl (lv_at hl1 0 rfl) ?_
    refine va_get (D := D) (ci := 6) (v := .int (nI rn)) (C := R_Prover) (T := F_Prover) (N := 9) hx hb hts i_Prover hown hK.1 hP 0 rfl rfl 1 (by decide) (hts _ wd_177) (fun _ h9 => h9) rfl d_Prover_search_11 ?_
    refine lv_goto (tgt := 18) hx hb d_Prover_search_14 (by decide) ?_
    refine lv_istore_n (lv' := [(1, .int (nI rn)), (0, .ref p0)]) hx hb d_Prover_search_18 rfl hl1 (by decide) rfl (fun ls hl2 => ?_)
    clear hl1; have hl1 := hl2; clear hl2
    refine lv_aload_n hx hb d_Prover_search_19 rfl (lv_at hl1 1 rfl) ?_
    refine lv_iconst (v := (-1)) hx hb d_Prover_search_20 (by decide) ?_
    refine va_put (D := D) (ci := 6) (v := .int (-1)) (ty := .int) (C := R_Prover) (T := F_Prover) (N := 9) hx hb hts i_Prover t_Prover t_Prover_ok n_Prover hown hK.1 hP hD hS 0 rfl rfl 3 (by decide) (hts _ wd_181) (fun _ h9 => h9) rfl (by decide +kernel) rfl rfl (Nat.le_of_ble_eq_true rfl) d_Prover_search_21 (fun H_2 locs hP1 hD1 hS1 => ?_)
    clear hP hD hS
    have hS := hS1
    have hW7 : (fun w9 : va_W => va_P D classes w9 H_2 ∧ va_D A w9) [(p0, .inr (6, [.ref b0, .int (nI rn), .int s_atoms, .int (-1), .ref n0, .ref q1, .ref q2, .ref q3, .int (nI wt)])), (q1, .inl (ax 2, rl, .inl ro)), (q2, .inl (ax 0, 64, .inl (fun j => nI (dm j)))), (q3, .inl (ax 0, 64, .inl ix)), (n0, .inr (4, [.ref n1, .ref n2, .ref n3, .int (nI z9)])), (n1, .inl (ax 1, cp, .inl fo)), (n2, .inl (ax 0, cp, .inl fl)), (n3, .inl (ax 0, cp, .inl fr)), (b0, .inr (0, [.ref b1, .ref b2, .ref b3, .int (nI bn)])), (b1, .inl (ax 0, 11, .inl lv)), (b2, .inl (ax 0, 121, .inl mo)), (b3, .inl (ax 0, 121, .inl (fun j => nI (bo j))))] := ⟨hP1, hD1⟩
    obtain ⟨hP, hD⟩ := hW7
    clear hP1 hD1 hS1
    refine lv_iconst (v := 0) hx hb d_Prover_search_24 (by decide) ?_
    refine lv_istore_n (lv' := [(2, .int 0), (1, .int (nI rn)), (0, .ref p0)]) hx hb d_Prover_search_25 rfl hl1 (by decide) rfl (fun ls hl2 => ?_)
    clear hl1; have hl1 := hl2; clear hl2
    refine lv_iload_n hx hb d_Prover_search_26 rfl (lv_at hl1 0 rfl) ?_
    refine lv_sipush (v := 5000) hx hb d_Prover_search_27 (by decide) ?_
    refine lv_icmp_ge (tgt := 68) hx hb d_Prover_search_30 (by decide) (fun c_3 => ?_) (fun c_3 => ?_)
    · first | exact absurd c_3 (by decide) | exact absurd (by decide) c_3
    refine lv_iload_n hx hb d_Prover_search_33 rfl (lv_at hl1 1 rfl) ?_
    refine lv_aload_n hx hb d_Prover_search_34 rfl (lv_at hl1 2 rfl) ?_
    refine va_get (D := D) (ci := 6) (v := .int (nI rn)) (C := R_Prover) (T := F_Prover) (N := 9) hx hb hts i_Prover hown hK.1 hP 0 rfl rfl 1 (by decide) (hts _ wd_177) (fun _ h9 => h9) rfl d_Prover_search_35 ?_
    refine lv_icmp_ge (tgt := 68) hx hb d_Prover_search_38 (by decide) (fun c_4 => ?_) (fun c_4 => ?_)
    rotate_left
    · exfalso
      replace c_4 : ¬ rn ≤ rn := fun hq9 => c_4 ((nI_leI (a := rn) (b := rn) (by first | exact Nat.lt_of_lt_of_le (by assumption) (by decide) | exact Nat.lt_of_le_of_lt (by assumption) (by decide) | omega) (by first | exact Nat.lt_of_lt_of_le (by assumption) (by decide) | exact Nat.lt_of_le_of_lt (by assumption) (by decide) | omega)).mpr hq9)
      omega
    replace c_4 : rn ≤ rn := (nI_leI (a := rn) (b := rn) (by first | exact Nat.lt_of_lt_of_le (by assumption) (by decide) | exact Nat.lt_of_le_of_lt (by assumption) (by decide) | omega) (by first | exact Nat.lt_of_lt_of_le (by assumption) (by decide) | exact Nat.lt_of_le_of_lt (by assumption) (by decide) | omega)).mp c_4
    rw [← hQe]
    obtain ⟨hP9, hD9⟩ := xw_sub2 (wc := (fun (u : Nat → Nat) (xdm : Nat → Nat) (xix : Nat → Int32) (xlv : Nat → Int32) (xmo : Nat → Int32) (xbo : Nat → Nat) (xfi : Int32) => [(p0, .inr (6, [.ref b0, .int (nI rn), .int s_atoms, .int xfi, .ref n0, .ref q1, .ref q2, .ref q3, .int (nI (u 0))])), (q1, .inl (ax 2, rl, .inl ro)), (q2, .inl (ax 0, 64, .inl (fun j => nI (xdm j)))), (q3, .inl (ax 0, 64, .inl xix)), (n0, .inr (4, [.ref n1, .ref n2, .ref n3, .int (nI z9)])), (n1, .inl (ax 1, cp, .inl fo)), (n2, .inl (ax 0, cp, .inl fl)), (n3, .inl (ax 0, cp, .inl fr)), (b0, .inr (0, [.ref b1, .ref b2, .ref b3, .int (nI (u 1))])), (b1, .inl (ax 0, 11, .inl xlv)), (b2, .inl (ax 0, 121, .inl xmo)), (b3, .inl (ax 0, 121, .inl (fun j => nI (xbo j))))]) (ixn [wt, bn]) dm ix lv mo bo (-1)) hP hD [0, 1, 2, 3, 4, 5, 6, 7, 8, 9, 10, 11] (by decide) rfl
    have hex0 : bnv mo bo (bn) := hbv
    have hex1 : bcv8 mo bo (bn) := hcv
    have hex2 : srQ8 ls9 (-1) lv := (srQ8_m h51)
    have hsp0 : wt ≤ 64 := (by first | assumption | omega)
    exact W.vret hx hb hr (fun t ht hW => ⟨⟨ixn [wt, bn], rfl, hsp0, ⟨dm, ix, lv, mo, bo, (-1), hex0, hex1, hex2, by rw [ht]; exact hP9, hD9⟩⟩, hS.F ht⟩) hS.2.2 d_Prover_search_68
  · have hrn9 := rwo_le (o := olf ls9) (d := 2 * (ls9.length - 1))
    have h58 : rwl8 ls9 ≤ 5000 := by omega
    refine lv_aload_n hx hb d_Prover_search_0 rfl (lv_at hl1 0 rfl) ?_
    refine va_get (D := D) (ci := 6) (v := .int (nI rn)) (C := R_Prover) (T := F_Prover) (N := 9) hx hb hts i_Prover hown hK.1 hP 0 rfl rfl 1 (by decide) (hts _ wd_177) (fun _ h9 => h9) rfl d_Prover_search_1 ?_
    refine lv_sipush (v := 5000) hx hb d_Prover_search_4 (by decide) ?_
    refine lv_icmp_le (tgt := 17) hx hb d_Prover_search_7 (by decide) (fun c_5 => ?_) (fun c_5 => ?_)
    rotate_left
    · exfalso
      replace c_5 : ¬ rn ≤ 5000 := fun hq9 => c_5 ((nI_leI (a := rn) (b := 5000) (by first | exact Nat.lt_of_lt_of_le (by assumption) (by decide) | exact Nat.lt_of_le_of_lt (by assumption) (by decide) | omega) (by decide)).mpr hq9)
      omega
    replace c_5 : rn ≤ 5000 := (nI_leI (a := rn) (b := 5000) (by first | exact Nat.lt_of_lt_of_le (by assumption) (by decide) | exact Nat.lt_of_le_of_lt (by assumption) (by decide) | omega) (by decide)).mp c_5
    refine lv_iconst (v := 0) hx hb d_Prover_search_17 (by decide) ?_
    refine lv_istore_n (lv' := [(1, .int 0), (0, .ref p0)]) hx hb d_Prover_search_18 rfl hl1 (by decide) rfl (fun ls hl2 => ?_)
    clear hl1; have hl1 := hl2; clear hl2
    refine lv_aload_n hx hb d_Prover_search_19 rfl (lv_at hl1 1 rfl) ?_
    refine lv_iconst (v := (-1)) hx hb d_Prover_search_20 (by decide) ?_
    refine va_put (D := D) (ci := 6) (v := .int (-1)) (ty := .int) (C := R_Prover) (T := F_Prover) (N := 9) hx hb hts i_Prover t_Prover t_Prover_ok n_Prover hown hK.1 hP hD hS 0 rfl rfl 3 (by decide) (hts _ wd_181) (fun _ h9 => h9) rfl (by decide +kernel) rfl rfl (Nat.le_of_ble_eq_true rfl) d_Prover_search_21 (fun H_6 locs hP1 hD1 hS1 => ?_)
    clear hP hD hS
    have hS := hS1
    have hW7 : (fun w9 : va_W => va_P D classes w9 H_6 ∧ va_D A w9) [(p0, .inr (6, [.ref b0, .int (nI rn), .int s_atoms, .int (-1), .ref n0, .ref q1, .ref q2, .ref q3, .int (nI wt)])), (q1, .inl (ax 2, rl, .inl ro)), (q2, .inl (ax 0, 64, .inl (fun j => nI (dm j)))), (q3, .inl (ax 0, 64, .inl ix)), (n0, .inr (4, [.ref n1, .ref n2, .ref n3, .int (nI z9)])), (n1, .inl (ax 1, cp, .inl fo)), (n2, .inl (ax 0, cp, .inl fl)), (n3, .inl (ax 0, cp, .inl fr)), (b0, .inr (0, [.ref b1, .ref b2, .ref b3, .int (nI bn)])), (b1, .inl (ax 0, 11, .inl lv)), (b2, .inl (ax 0, 121, .inl mo)), (b3, .inl (ax 0, 121, .inl (fun j => nI (bo j))))] := ⟨hP1, hD1⟩
    obtain ⟨hP, hD⟩ := hW7
    clear hP1 hD1 hS1
    refine lv_iconst (v := 0) hx hb d_Prover_search_24 (by decide) ?_
    refine lv_istore_n (lv' := [(2, .int 0), (1, .int 0), (0, .ref p0)]) hx hb d_Prover_search_25 rfl hl1 (by decide) rfl (fun ls hl2 => ?_)
    clear hl1; have hl1 := hl2; clear hl2
    suffices key_7 : ∀ (k : Nat) (t1 wt1 bn1 r9 : Nat) (dm1 bo1 : Nat → Nat) (ix1 lv1 mo1 : Nat → Int32), 5000 - t1 < k → t1 ≤ 5000 → bnv mo1 bo1 bn1 → wt1 ≤ 64 → bcv8 mo1 bo1 bn1 → t1 ≤ r9 → r9 ≤ 5001 → srI8 ls9 r9 → ∀ (H : Heap) (locs : List Loc) (ls : Array Slot), va_P D classes [(p0, .inr (6, [.ref b0, .int (nI rn), .int s_atoms, .int (-1), .ref n0, .ref q1, .ref q2, .ref q3, .int (nI wt1)])), (q1, .inl (ax 2, rl, .inl ro)), (q2, .inl (ax 0, 64, .inl (fun j => nI (dm1 j)))), (q3, .inl (ax 0, 64, .inl ix1)), (n0, .inr (4, [.ref n1, .ref n2, .ref n3, .int (nI z9)])), (n1, .inl (ax 1, cp, .inl fo)), (n2, .inl (ax 0, cp, .inl fl)), (n3, .inl (ax 0, cp, .inl fr)), (b0, .inr (0, [.ref b1, .ref b2, .ref b3, .int (nI bn1)])), (b1, .inl (ax 0, 11, .inl lv1)), (b2, .inl (ax 0, 121, .inl mo1)), (b3, .inl (ax 0, 121, .inl (fun j => nI (bo1 j))))] H → va_D A [(p0, .inr (6, [.ref b0, .int (nI rn), .int s_atoms, .int (-1), .ref n0, .ref q1, .ref q2, .ref q3, .int (nI wt1)])), (q1, .inl (ax 2, rl, .inl ro)), (q2, .inl (ax 0, 64, .inl (fun j => nI (dm1 j)))), (q3, .inl (ax 0, 64, .inl ix1)), (n0, .inr (4, [.ref n1, .ref n2, .ref n3, .int (nI z9)])), (n1, .inl (ax 1, cp, .inl fo)), (n2, .inl (ax 0, cp, .inl fl)), (n3, .inl (ax 0, cp, .inl fr)), (b0, .inr (0, [.ref b1, .ref b2, .ref b3, .int (nI bn1)])), (b1, .inl (ax 0, 11, .inl lv1)), (b2, .inl (ax 0, 121, .inl mo1)), (b3, .inl (ax 0, 121, .inl (fun j => nI (bo1 j))))] → va_S A s.heap H locs → lv_has ls 3 [(0, .ref p0), (1, .int (nI r9)), (2, .int (nI t1))] → W p l e (headSpec (xws (.code y_Prover_search b_Prover_search 3 none)) ({ frames := 70, cells := 0, slots := 0, locals := 2800 })).room s m ([.ref p0] : List Value).toArray below meth c H locs 0 0 Z9 (F0 m 26 ls []) from key_7 (5000 - 0 + 1) 0 wt bn 0 dm bo ix lv mo (Nat.lt_succ_self _) (by first | assumption | omega) hbv (by first | assumption | omega) hcv (by first | assumption | omega) (by first | assumption | omega) (srI8_0 (by first | assumption | omega)) _ _ _ (hP) (hD) hS (lv_sub hl1 [2, 1, 0] rfl)
    intro k_8
    induction k_8 with
    | zero =>
      intro t1 wt1 bn1 r9 dm1 bo1 ix1 lv1 mo1 hk_10
      exact absurd hk_10 (Nat.not_lt_zero _)
    | succ k_8 ih_9 =>
      clear hP hD hS hl1
      intro t1 wt1 bn1 r9 dm1 bo1 ix1 lv1 mo1 hk_10 ht1 hb1 hw1 hc1 htr8 hrn8 hS8 H locs ls hP hD hS hl1
      refine lv_iload_n hx hb d_Prover_search_26 rfl (lv_at hl1 2 rfl) ?_
      refine lv_sipush (v := 5000) hx hb d_Prover_search_27 (by decide) ?_
      refine lv_icmp_ge (tgt := 68) hx hb d_Prover_search_30 (by decide) (fun c_11 => ?_) (fun c_11 => ?_)
      · replace c_11 : 5000 ≤ t1 := (nI_leI (a := 5000) (b := t1) (by decide) (by first | exact Nat.lt_of_lt_of_le (by assumption) (by decide) | exact Nat.lt_of_le_of_lt (by assumption) (by decide) | omega)).mp c_11
        rw [← hQe]
        obtain ⟨hP9, hD9⟩ := xw_sub2 (wc := (fun (u : Nat → Nat) (xdm : Nat → Nat) (xix : Nat → Int32) (xlv : Nat → Int32) (xmo : Nat → Int32) (xbo : Nat → Nat) (xfi : Int32) => [(p0, .inr (6, [.ref b0, .int (nI rn), .int s_atoms, .int xfi, .ref n0, .ref q1, .ref q2, .ref q3, .int (nI (u 0))])), (q1, .inl (ax 2, rl, .inl ro)), (q2, .inl (ax 0, 64, .inl (fun j => nI (xdm j)))), (q3, .inl (ax 0, 64, .inl xix)), (n0, .inr (4, [.ref n1, .ref n2, .ref n3, .int (nI z9)])), (n1, .inl (ax 1, cp, .inl fo)), (n2, .inl (ax 0, cp, .inl fl)), (n3, .inl (ax 0, cp, .inl fr)), (b0, .inr (0, [.ref b1, .ref b2, .ref b3, .int (nI (u 1))])), (b1, .inl (ax 0, 11, .inl xlv)), (b2, .inl (ax 0, 121, .inl xmo)), (b3, .inl (ax 0, 121, .inl (fun j => nI (xbo j))))]) (ixn [wt1, bn1]) dm1 ix1 lv1 mo1 bo1 (-1)) hP hD [0, 1, 2, 3, 4, 5, 6, 7, 8, 9, 10, 11] (by decide) rfl
        have hex0 : bnv mo1 bo1 (bn1) := hb1
        have hex1 : bcv8 mo1 bo1 (bn1) := hc1
        have hex2 : srQ8 ls9 (-1) lv1 := (srQ8_n hS8 (by first | assumption | omega))
        have hsp0 : wt1 ≤ 64 := (by first | assumption | omega)
        exact W.vret hx hb hr (fun t ht hW => ⟨⟨ixn [wt1, bn1], rfl, hsp0, ⟨dm1, ix1, lv1, mo1, bo1, (-1), hex0, hex1, hex2, by rw [ht]; exact hP9, hD9⟩⟩, hS.F ht⟩) hS.2.2 d_Prover_search_68
      · replace c_11 : ¬ 5000 ≤ t1 := fun hq9 => c_11 ((nI_leI (a := 5000) (b := t1) (by decide) (by first | exact Nat.lt_of_lt_of_le (by assumption) (by decide) | exact Nat.lt_of_le_of_lt (by assumption) (by decide) | omega)).mpr hq9)
        refine lv_iload_n hx hb d_Prover_search_33 rfl (lv_at hl1 1 rfl) ?_
        refine lv_aload_n hx hb d_Prover_search_34 rfl (lv_at hl1 0 rfl) ?_
        refine va_get (D := D) (ci := 6) (v := .int (nI rn)) (C := R_Prover) (T := F_Prover) (N := 9) hx hb hts i_Prover hown hK.1 hP 0 rfl rfl 1 (by decide) (hts _ wd_177) (fun _ h9 => h9) rfl d_Prover_search_35 ?_
        refine lv_icmp_ge (tgt := 68) hx hb d_Prover_search_38 (by decide) (fun c_12 => ?_) (fun c_12 => ?_)
        · replace c_12 : rn ≤ r9 := (nI_leI (a := rn) (b := r9) (by first | exact Nat.lt_of_lt_of_le (by assumption) (by decide) | exact Nat.lt_of_le_of_lt (by assumption) (by decide) | omega) (by first | exact Nat.lt_of_lt_of_le (by assumption) (by decide) | exact Nat.lt_of_le_of_lt (by assumption) (by decide) | omega)).mp c_12
          rw [← hQe]
          obtain ⟨hP9, hD9⟩ := xw_sub2 (wc := (fun (u : Nat → Nat) (xdm : Nat → Nat) (xix : Nat → Int32) (xlv : Nat → Int32) (xmo : Nat → Int32) (xbo : Nat → Nat) (xfi : Int32) => [(p0, .inr (6, [.ref b0, .int (nI rn), .int s_atoms, .int xfi, .ref n0, .ref q1, .ref q2, .ref q3, .int (nI (u 0))])), (q1, .inl (ax 2, rl, .inl ro)), (q2, .inl (ax 0, 64, .inl (fun j => nI (xdm j)))), (q3, .inl (ax 0, 64, .inl xix)), (n0, .inr (4, [.ref n1, .ref n2, .ref n3, .int (nI z9)])), (n1, .inl (ax 1, cp, .inl fo)), (n2, .inl (ax 0, cp, .inl fl)), (n3, .inl (ax 0, cp, .inl fr)), (b0, .inr (0, [.ref b1, .ref b2, .ref b3, .int (nI (u 1))])), (b1, .inl (ax 0, 11, .inl xlv)), (b2, .inl (ax 0, 121, .inl xmo)), (b3, .inl (ax 0, 121, .inl (fun j => nI (xbo j))))]) (ixn [wt1, bn1]) dm1 ix1 lv1 mo1 bo1 (-1)) hP hD [0, 1, 2, 3, 4, 5, 6, 7, 8, 9, 10, 11] (by decide) rfl
          have hex0 : bnv mo1 bo1 (bn1) := hb1
          have hex1 : bcv8 mo1 bo1 (bn1) := hc1
          have hex2 : srQ8 ls9 (-1) lv1 := (srQ8_n hS8 (by first | assumption | omega))
          have hsp0 : wt1 ≤ 64 := (by first | assumption | omega)
          exact W.vret hx hb hr (fun t ht hW => ⟨⟨ixn [wt1, bn1], rfl, hsp0, ⟨dm1, ix1, lv1, mo1, bo1, (-1), hex0, hex1, hex2, by rw [ht]; exact hP9, hD9⟩⟩, hS.F ht⟩) hS.2.2 d_Prover_search_68
        · replace c_12 : ¬ rn ≤ r9 := fun hq9 => c_12 ((nI_leI (a := rn) (b := r9) (by first | exact Nat.lt_of_lt_of_le (by assumption) (by decide) | exact Nat.lt_of_le_of_lt (by assumption) (by decide) | omega) (by first | exact Nat.lt_of_lt_of_le (by assumption) (by decide) | exact Nat.lt_of_le_of_lt (by assumption) (by decide) | omega)).mpr hq9)
          refine lv_aload_n hx hb d_Prover_search_41 rfl (lv_at hl1 0 rfl) ?_
          refine lv_iload_n hx hb d_Prover_search_42 rfl (lv_at hl1 1 rfl) ?_
          obtain ⟨hPc, hDc, hFc, hCs⟩ := xw_sub3 (wc := [(p0, .inr (6, [.ref b0, .int (nI rn), .int s_atoms, .int (-1), .ref n0, .ref q1, .ref q2, .ref q3, .int (nI wt1)])), (q1, .inl (ax 2, rl, .inl ro)), (q2, .inl (ax 0, 64, .inl (fun j => nI (dm1 j)))), (q3, .inl (ax 0, 64, .inl ix1)), (n0, .inr (4, [.ref n1, .ref n2, .ref n3, .int (nI z9)])), (n1, .inl (ax 1, cp, .inl fo)), (n2, .inl (ax 0, cp, .inl fl)), (n3, .inl (ax 0, cp, .inl fr)), (b0, .inr (0, [.ref b1, .ref b2, .ref b3, .int (nI bn1)])), (b1, .inl (ax 0, 11, .inl lv1)), (b2, .inl (ax 0, 121, .inl mo1)), (b3, .inl (ax 0, 121, .inl (fun j => nI (bo1 j))))]) hP hD hS hA [0, 1, 2, 3, 4, 5, 6, 7, 8, 9, 10, 11] (by decide) rfl
          have hz := xz_of hN hS
          refine va_calli (va_runV (As := [.int (nI r9)]) (rest := []) ⟨hx, hb, hml, hown, hts⟩ (c_P_fits l D ax p0 q1 q2 q3 wt1 rl b0 (nI rn) s_atoms (-1) ro ix1 dm1 n0 n1 n2 n3 cp z9 fo fl fr b1 b2 b3 bn1 lv1 mo1 bo1 r9 ls9 H.size (by first | assumption | omega) hb1 hz9 hcp hrl hrl2 hnv hnl hll hnb9 hro hc1 hd64 hs64 h58 (by first | assumption | omega)) (xcV (n := 1) hts wd_834 wd_6 wd_831 wd_833 ps_33 rfl rfl (by decide +kernel) ⟨Nat.le_of_ble_eq_true rfl, Nat.le_of_ble_eq_true rfl⟩) (xpV (ci := 6) (q0 := 0) (As := [.int (nI r9)]) hPc hK hz hDc rfl rfl) rfl rfl hl1.1 rfl (lv_room (Nat.le_of_ble_eq_true rfl)) d_Prover_search_43 ⟨Nat.le_of_ble_eq_true rfl, Nat.le_of_ble_eq_true rfl⟩) hS (fun q _ h => hFc q h) hFc (fun r_15 u_13 t H_14 locs ht hvm hw hB hz1 hk1 hS1 => ?_)
          try dsimp only at hw
          obtain ⟨hw, hs_16, hs_17⟩ := hw
          subst hw
          obtain ⟨x_18, x_19, x_20, x_21, x_22, hx_23, hx_24, hx_25, hx_26, hP1, hD1⟩ := hB
          rw [ht] at hP1
          have hjn := xw_join3 (wl := [(p0, .inr (6, [.ref b0, .int (nI rn), .int s_atoms, .int (-1), .ref n0, .ref q1, .ref q2, .ref q3, .int (nI (u_13 0))])), (q1, .inl (ax 2, rl, .inl ro)), (q2, .inl (ax 0, 64, .inl (fun j => nI (x_18 j)))), (q3, .inl (ax 0, 64, .inl x_19)), (n0, .inr (4, [.ref n1, .ref n2, .ref n3, .int (nI z9)])), (n1, .inl (ax 1, cp, .inl fo)), (n2, .inl (ax 0, cp, .inl fl)), (n3, .inl (ax 0, cp, .inl fr)), (b0, .inr (0, [.ref b1, .ref b2, .ref b3, .int (nI (u_13 1))])), (b1, .inl (ax 0, 11, .inl x_20)), (b2, .inl (ax 0, 121, .inl x_21)), (b3, .inl (ax 0, 121, .inl (fun j => nI (x_22 j))))]) hP hD [0, 1, 2, 3, 4, 5, 6, 7, 8, 9, 10, 11] [] hCs (by decide) (by decide) hk1 hFc hP1 hD1 rfl
          clear hP1 hD1
          clear hPc hDc hFc hCs hz hz1 hk1 ht hvm
          clear hP hD hS
          have hS := hS1
          obtain ⟨hP, hD⟩ := hjn
          clear hS1
          refine lv_if_eq (tgt := 55) hx hb d_Prover_search_46 (by decide) (fun c_27 => ?_) (fun c_27 => ?_)
          · replace c_27 : u_13 2 = 0 := (nI_eq (a := u_13 2) (b := 0) (by first | exact Nat.lt_of_lt_of_le (by assumption) (by decide) | exact Nat.lt_of_le_of_lt (by assumption) (by decide) | omega) (by decide)).mp c_27
            refine lv_iload_n hx hb d_Prover_search_55 rfl (lv_at hl1 1 rfl) ?_
            refine lv_aload_n hx hb d_Prover_search_56 rfl (lv_at hl1 0 rfl) ?_
            obtain ⟨hPc, hDc, hFc, hCs⟩ := xw_sub3 (wc := [(p0, .inr (6, [.ref b0, .int (nI rn), .int s_atoms, .int (-1), .ref n0, .ref q1, .ref q2, .ref q3, .int (nI (u_13 0))])), (q1, .inl (ax 2, rl, .inl ro)), (q2, .inl (ax 0, 64, .inl (fun j => nI (x_18 j)))), (q3, .inl (ax 0, 64, .inl x_19))]) hP hD hS hA [0, 1, 2, 3] (by decide) rfl
            have hz := xz_of hN hS
            refine va_calli (va_runV (As := []) (rest := [.int (nI r9)]) ⟨hx, hb, hml, hown, hts⟩ (c_P_rowsAlike l D ax p0 q1 q2 q3 (u_13 0) rl b0 (nI rn) s_atoms (-1) ro x_19 x_18 n0 z9 ls9 H_14.size (by first | assumption | omega) hx_25 hrl hrl2 hro) (xcV (n := 0) hts wd_873 wd_6 wd_870 wd_872 ps_40 rfl rfl (by decide +kernel) ⟨Nat.le_of_ble_eq_true rfl, Nat.le_of_ble_eq_true rfl⟩) (xpV (ci := 6) (q0 := 0) (As := []) hPc hK hz hDc rfl rfl) rfl rfl hl1.1 rfl (lv_room (Nat.le_of_ble_eq_true rfl)) d_Prover_search_57 ⟨Nat.le_of_ble_eq_true rfl, Nat.le_of_ble_eq_true rfl⟩) hS (fun q _ h => hFc q h) hFc (fun r_30 u_28 t H_29 locs ht hvm hw hB hz1 hk1 hS1 => ?_)
            try dsimp only at hw
            obtain ⟨hw, hs_31⟩ := hw
            subst hw
            obtain ⟨hP1, hD1⟩ := hB
            rw [ht] at hP1
            have hjn := xw_join3 (wl := [(n0, .inr (4, [.ref n1, .ref n2, .ref n3, .int (nI z9)])), (n1, .inl (ax 1, cp, .inl fo)), (n2, .inl (ax 0, cp, .inl fl)), (n3, .inl (ax 0, cp, .inl fr)), (b0, .inr (0, [.ref b1, .ref b2, .ref b3, .int (nI (u_13 1))])), (b1, .inl (ax 0, 11, .inl x_20)), (b2, .inl (ax 0, 121, .inl x_21)), (b3, .inl (ax 0, 121, .inl (fun j => nI (x_22 j)))), (p0, .inr (6, [.ref b0, .int (nI rn), .int s_atoms, .int (-1), .ref n0, .ref q1, .ref q2, .ref q3, .int (nI (u_13 0))])), (q1, .inl (ax 2, rl, .inl ro)), (q2, .inl (ax 0, 64, .inl (fun j => nI (x_18 j)))), (q3, .inl (ax 0, 64, .inl x_19))]) hP hD [0, 1, 2, 3] [4, 5, 6, 7, 8, 9, 10, 11] hCs (by decide) (by decide) hk1 hFc hP1 hD1 rfl
            clear hP1 hD1
            clear hPc hDc hFc hCs hz hz1 hk1 ht hvm
            clear hP hD hS
            have hS := hS1
            obtain ⟨hP, hD⟩ := hjn
            clear hS1
            obtain ⟨hS82, hS83, hS84⟩ := hS8.nx h58 (by first | assumption | omega) (by have e9 : u_13 2 = 0 := (by first | assumption | omega); rw [e9] at hx_26; exact hx_26) hs_31
            refine lv_iadd hx hb d_Prover_search_60 ?_
            refine lv_topi (fun z_32 ez_32 => ?_)
            have ez_32 : z_32 = nI (r9 + u_28 0) := ez_32.trans (nI_add r9 (u_28 0))
            subst ez_32
            refine lv_istore_n (lv' := [(1, .int (nI (r9 + u_28 0))), (0, .ref p0), (2, .int (nI t1))]) hx hb d_Prover_search_61 rfl hl1 (by decide) rfl (fun ls hl2 => ?_)
            clear hl1; have hl1 := hl2; clear hl2
            refine lv_iinc (v := nI (t1 + 1)) (lv' := [(2, .int (nI (t1 + 1))), (1, .int (nI (r9 + u_28 0))), (0, .ref p0)]) hx hb d_Prover_search_62 hl1 (k := 2) rfl (nI_add t1 1) (by decide) rfl (fun ls hl2 => ?_)
            clear hl1; have hl1 := hl2; clear hl2
            refine lv_goto (tgt := 26) hx hb d_Prover_search_65 (by decide) ?_
            exact ih_9 (t1 + 1) (u_13 0) (u_13 1) (r9 + u_28 0) x_18 x_22 x_19 x_20 x_21 (by first | assumption | omega) (by first | assumption | omega) hx_23 (by first | assumption | omega) hx_24 (by first | assumption | omega) (by first | assumption | omega) hS82 _ _ _ (hP.sub [8, 9, 10, 11, 0, 1, 2, 3, 4, 5, 6, 7] rfl) (hD.sub [8, 9, 10, 11, 0, 1, 2, 3, 4, 5, 6, 7] (by decide) rfl) hS (lv_sub hl1 [2, 1, 0] rfl)
          · replace c_27 : ¬ u_13 2 = 0 := fun hq9 => c_27 ((nI_eq (a := u_13 2) (b := 0) (by first | exact Nat.lt_of_lt_of_le (by assumption) (by decide) | exact Nat.lt_of_le_of_lt (by assumption) (by decide) | omega) (by decide)).mpr hq9)
            refine lv_aload_n hx hb d_Prover_search_49 rfl (lv_at hl1 0 rfl) ?_
            refine lv_iload_n hx hb d_Prover_search_50 rfl (lv_at hl1 1 rfl) ?_
            refine va_put (D := D) (ci := 6) (v := .int (nI r9)) (ty := .int) (C := R_Prover) (T := F_Prover) (N := 9) hx hb hts i_Prover t_Prover t_Prover_ok n_Prover hown hK.1 hP hD hS 0 rfl rfl 3 (by decide) (hts _ wd_181) (fun _ h9 => h9) rfl (by decide +kernel) rfl rfl (Nat.le_of_ble_eq_true rfl) d_Prover_search_51 (fun H_33 locs hP1 hD1 hS1 => ?_)
            clear hP hD hS
            have hS := hS1
            have hW7 : (fun w9 : va_W => va_P D classes w9 H_33 ∧ va_D A w9) [(p0, .inr (6, [.ref b0, .int (nI rn), .int s_atoms, .int (nI r9), .ref n0, .ref q1, .ref q2, .ref q3, .int (nI (u_13 0))])), (q1, .inl (ax 2, rl, .inl ro)), (q2, .inl (ax 0, 64, .inl (fun j => nI (x_18 j)))), (q3, .inl (ax 0, 64, .inl x_19)), (n0, .inr (4, [.ref n1, .ref n2, .ref n3, .int (nI z9)])), (n1, .inl (ax 1, cp, .inl fo)), (n2, .inl (ax 0, cp, .inl fl)), (n3, .inl (ax 0, cp, .inl fr)), (b0, .inr (0, [.ref b1, .ref b2, .ref b3, .int (nI (u_13 1))])), (b1, .inl (ax 0, 11, .inl x_20)), (b2, .inl (ax 0, 121, .inl x_21)), (b3, .inl (ax 0, 121, .inl (fun j => nI (x_22 j))))] := ⟨hP1, hD1⟩
            obtain ⟨hP, hD⟩ := hW7
            clear hP1 hD1 hS1
            rw [← hQe]
            obtain ⟨hP9, hD9⟩ := xw_sub2 (wc := (fun (u : Nat → Nat) (xdm : Nat → Nat) (xix : Nat → Int32) (xlv : Nat → Int32) (xmo : Nat → Int32) (xbo : Nat → Nat) (xfi : Int32) => [(p0, .inr (6, [.ref b0, .int (nI rn), .int s_atoms, .int xfi, .ref n0, .ref q1, .ref q2, .ref q3, .int (nI (u 0))])), (q1, .inl (ax 2, rl, .inl ro)), (q2, .inl (ax 0, 64, .inl (fun j => nI (xdm j)))), (q3, .inl (ax 0, 64, .inl xix)), (n0, .inr (4, [.ref n1, .ref n2, .ref n3, .int (nI z9)])), (n1, .inl (ax 1, cp, .inl fo)), (n2, .inl (ax 0, cp, .inl fl)), (n3, .inl (ax 0, cp, .inl fr)), (b0, .inr (0, [.ref b1, .ref b2, .ref b3, .int (nI (u 1))])), (b1, .inl (ax 0, 11, .inl xlv)), (b2, .inl (ax 0, 121, .inl xmo)), (b3, .inl (ax 0, 121, .inl (fun j => nI (xbo j))))]) (ixn [(u_13 0), (u_13 1)]) x_18 x_19 x_20 x_21 x_22 (nI r9)) hP hD [0, 1, 2, 3, 4, 5, 6, 7, 8, 9, 10, 11] (by decide) rfl
            have hex0 : bnv x_21 x_22 ((u_13 1)) := hx_23
            have hex1 : bcv8 x_21 x_22 ((u_13 1)) := hx_24
            have hex2 : srQ8 ls9 (nI r9) x_20 := (srQ8_y hS8 h58 (by first | assumption | omega) (by have e9 : u_13 2 = 1 := (by first | assumption | omega); rw [e9] at hx_26; exact hx_26))
            have hsp0 : (u_13 0) ≤ 64 := (by first | assumption | omega)
            exact W.vret hx hb hr (fun t ht hW => ⟨⟨ixn [(u_13 0), (u_13 1)], rfl, hsp0, ⟨x_18, x_19, x_20, x_21, x_22, nI r9, hex0, hex1, hex2, by rw [ht]; exact hP9, hD9⟩⟩, hS.F ht⟩) hS.2.2 d_Prover_search_54
