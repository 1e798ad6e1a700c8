theorem dX10_here_0 : decode cX10_here 0 = .ok (.aload_n 0, 1) := by decide +kernel
theorem dX10_here_1 : decode cX10_here 1 = .ok (.getfield 147, 3) := by decide +kernel
theorem dX10_here_4 : decode cX10_here 4 = .ok (.ifCond .eq 10, 3) := by decide +kernel
theorem dX10_here_7 : decode cX10_here 7 = .ok (.aload_n 0, 1) := by decide +kernel
theorem dX10_here_8 : decode cX10_here 8 = .ok (.getfield 13, 3) := by decide +kernel
theorem dX10_here_11 : decode cX10_here 11 = .ok (.goto 7, 3) := by decide +kernel
theorem dX10_here_14 : decode cX10_here 14 = .ok (.aload_n 0, 1) := by decide +kernel
theorem dX10_here_15 : decode cX10_here 15 = .ok (.getfield 7, 3) := by decide +kernel
theorem dX10_here_18 : decode cX10_here 18 = .ok (.astore_n 1, 1) := by decide +kernel
theorem dX10_here_19 : decode cX10_here 19 = .ok (.aload_n 0, 1) := by decide +kernel
theorem dX10_here_20 : decode cX10_here 20 = .ok (.getfield 151, 3) := by decide +kernel
theorem dX10_here_23 : decode cX10_here 23 = .ok (.aload_n 0, 1) := by decide +kernel
theorem dX10_here_24 : decode cX10_here 24 = .ok (.getfield 154, 3) := by decide +kernel
theorem dX10_here_27 : decode cX10_here 27 = .ok (.if_icmp .ge 27, 3) := by decide +kernel
theorem dX10_here_30 : decode cX10_here 30 = .ok (.aload_n 1, 1) := by decide +kernel
theorem dX10_here_31 : decode cX10_here 31 = .ok (.aload_n 0, 1) := by decide +kernel
theorem dX10_here_32 : decode cX10_here 32 = .ok (.getfield 151, 3) := by decide +kernel
theorem dX10_here_35 : decode cX10_here 35 = .ok (.iaload, 1) := by decide +kernel
theorem dX10_here_36 : decode cX10_here 36 = .ok (.bipush 32, 2) := by decide +kernel
theorem dX10_here_38 : decode cX10_here 38 = .ok (.if_icmp .ne 16, 3) := by decide +kernel
theorem dX10_here_41 : decode cX10_here 41 = .ok (.aload_n 0, 1) := by decide +kernel
theorem dX10_here_42 : decode cX10_here 42 = .ok (.dup, 1) := by decide +kernel
theorem dX10_here_43 : decode cX10_here 43 = .ok (.getfield 151, 3) := by decide +kernel
theorem dX10_here_46 : decode cX10_here 46 = .ok (.iconst 1, 1) := by decide +kernel
theorem dX10_here_47 : decode cX10_here 47 = .ok (.iadd, 1) := by decide +kernel
theorem dX10_here_48 : decode cX10_here 48 = .ok (.putfield 151, 3) := by decide +kernel
theorem dX10_here_51 : decode cX10_here 51 = .ok (.goto (-32), 3) := by decide +kernel
theorem dX10_here_54 : decode cX10_here 54 = .ok (.aload_n 0, 1) := by decide +kernel
theorem dX10_here_55 : decode cX10_here 55 = .ok (.getfield 151, 3) := by decide +kernel
theorem dX10_here_58 : decode cX10_here 58 = .ok (.aload_n 0, 1) := by decide +kernel
theorem dX10_here_59 : decode cX10_here 59 = .ok (.getfield 154, 3) := by decide +kernel
theorem dX10_here_62 : decode cX10_here 62 = .ok (.if_icmp .ge 12, 3) := by decide +kernel
theorem dX10_here_65 : decode cX10_here 65 = .ok (.aload_n 1, 1) := by decide +kernel
theorem dX10_here_66 : decode cX10_here 66 = .ok (.aload_n 0, 1) := by decide +kernel
theorem dX10_here_67 : decode cX10_here 67 = .ok (.getfield 151, 3) := by decide +kernel
theorem dX10_here_70 : decode cX10_here 70 = .ok (.iaload, 1) := by decide +kernel
theorem dX10_here_71 : decode cX10_here 71 = .ok (.goto 4, 3) := by decide +kernel
theorem dX10_here_74 : decode cX10_here 74 = .ok (.iconst (-1), 1) := by decide +kernel
theorem dX10_here_75 : decode cX10_here 75 = .ok (.ireturn, 1) := by decide +kernel
theorem dX10_statement_0 : decode cX10_statement 0 = .ok (.aload_n 0, 1) := by decide +kernel
theorem dX10_statement_1 : decode cX10_statement 1 = .ok (.getfield 181, 3) := by decide +kernel
theorem dX10_statement_4 : decode cX10_statement 4 = .ok (.istore 4, 2) := by decide +kernel
theorem dX10_statement_6 : decode cX10_statement 6 = .ok (.aload_n 0, 1) := by decide +kernel
theorem dX10_statement_7 : decode cX10_statement 7 = .ok (.getfield 83, 3) := by decide +kernel
theorem dX10_statement_10 : decode cX10_statement 10 = .ok (.aload_n 0, 1) := by decide +kernel
theorem dX10_statement_11 : decode cX10_statement 11 = .ok (.getfield 178, 3) := by decide +kernel
theorem dX10_statement_14 : decode cX10_statement 14 = .ok (.iconst 1, 1) := by decide +kernel
theorem dX10_statement_15 : decode cX10_statement 15 = .ok (.isub, 1) := by decide +kernel
theorem dX10_statement_16 : decode cX10_statement 16 = .ok (.iaload, 1) := by decide +kernel
theorem dX10_statement_17 : decode cX10_statement 17 = .ok (.istore 5, 2) := by decide +kernel
theorem dX10_statement_19 : decode cX10_statement 19 = .ok (.aload_n 0, 1) := by decide +kernel
theorem dX10_statement_20 : decode cX10_statement 20 = .ok (.getfield 16, 3) := by decide +kernel
theorem dX10_statement_23 : decode cX10_statement 23 = .ok (.iload 4, 2) := by decide +kernel
theorem dX10_statement_25 : decode cX10_statement 25 = .ok (.iload_n 1, 1) := by decide +kernel
theorem dX10_statement_26 : decode cX10_statement 26 = .ok (.iastore, 1) := by decide +kernel
theorem dX10_statement_27 : decode cX10_statement 27 = .ok (.aload_n 0, 1) := by decide +kernel
theorem dX10_statement_28 : decode cX10_statement 28 = .ok (.getfield 19, 3) := by decide +kernel
theorem dX10_statement_31 : decode cX10_statement 31 = .ok (.iload 4, 2) := by decide +kernel
theorem dX10_statement_33 : decode cX10_statement 33 = .ok (.iload_n 2, 1) := by decide +kernel
theorem dX10_statement_34 : decode cX10_statement 34 = .ok (.iastore, 1) := by decide +kernel
theorem dX10_statement_35 : decode cX10_statement 35 = .ok (.aload_n 0, 1) := by decide +kernel
theorem dX10_statement_36 : decode cX10_statement 36 = .ok (.getfield 22, 3) := by decide +kernel
theorem dX10_statement_39 : decode cX10_statement 39 = .ok (.iload 4, 2) := by decide +kernel
theorem dX10_statement_41 : decode cX10_statement 41 = .ok (.iload_n 3, 1) := by decide +kernel
theorem dX10_statement_42 : decode cX10_statement 42 = .ok (.iastore, 1) := by decide +kernel
theorem dX10_statement_43 : decode cX10_statement 43 = .ok (.aload_n 0, 1) := by decide +kernel
theorem dX10_statement_44 : decode cX10_statement 44 = .ok (.getfield 25, 3) := by decide +kernel
theorem dX10_statement_47 : decode cX10_statement 47 = .ok (.iload 4, 2) := by decide +kernel
theorem dX10_statement_49 : decode cX10_statement 49 = .ok (.iconst (-1), 1) := by decide +kernel
theorem dX10_statement_50 : decode cX10_statement 50 = .ok (.iastore, 1) := by decide +kernel
theorem dX10_statement_51 : decode cX10_statement 51 = .ok (.aload_n 0, 1) := by decide +kernel
theorem dX10_statement_52 : decode cX10_statement 52 = .ok (.getfield 28, 3) := by decide +kernel
theorem dX10_statement_55 : decode cX10_statement 55 = .ok (.iload 4, 2) := by decide +kernel
theorem dX10_statement_57 : decode cX10_statement 57 = .ok (.iload 5, 2) := by decide +kernel
theorem dX10_statement_59 : decode cX10_statement 59 = .ok (.iastore, 1) := by decide +kernel
theorem dX10_statement_60 : decode cX10_statement 60 = .ok (.aload_n 0, 1) := by decide +kernel
theorem dX10_statement_61 : decode cX10_statement 61 = .ok (.getfield 31, 3) := by decide +kernel
theorem dX10_statement_64 : decode cX10_statement 64 = .ok (.iload 4, 2) := by decide +kernel
theorem dX10_statement_66 : decode cX10_statement 66 = .ok (.iconst (-1), 1) := by decide +kernel
theorem dX10_statement_67 : decode cX10_statement 67 = .ok (.iastore, 1) := by decide +kernel
theorem dX10_statement_68 : decode cX10_statement 68 = .ok (.aload_n 0, 1) := by decide +kernel
theorem dX10_statement_69 : decode cX10_statement 69 = .ok (.getfield 34, 3) := by decide +kernel
theorem dX10_statement_72 : decode cX10_statement 72 = .ok (.iload 4, 2) := by decide +kernel
theorem dX10_statement_74 : decode cX10_statement 74 = .ok (.iconst (-1), 1) := by decide +kernel
theorem dX10_statement_75 : decode cX10_statement 75 = .ok (.iastore, 1) := by decide +kernel
theorem dX10_statement_76 : decode cX10_statement 76 = .ok (.aload_n 0, 1) := by decide +kernel
theorem dX10_statement_77 : decode cX10_statement 77 = .ok (.getfield 37, 3) := by decide +kernel
theorem dX10_statement_80 : decode cX10_statement 80 = .ok (.iload 4, 2) := by decide +kernel
theorem dX10_statement_82 : decode cX10_statement 82 = .ok (.aload_n 0, 1) := by decide +kernel
theorem dX10_statement_83 : decode cX10_statement 83 = .ok (.getfield 184, 3) := by decide +kernel
theorem dX10_statement_86 : decode cX10_statement 86 = .ok (.iastore, 1) := by decide +kernel
theorem dX10_statement_87 : decode cX10_statement 87 = .ok (.aload_n 0, 1) := by decide +kernel
theorem dX10_statement_88 : decode cX10_statement 88 = .ok (.getfield 40, 3) := by decide +kernel
theorem dX10_statement_91 : decode cX10_statement 91 = .ok (.iload 4, 2) := by decide +kernel
theorem dX10_statement_93 : decode cX10_statement 93 = .ok (.aload_n 0, 1) := by decide +kernel
theorem dX10_statement_94 : decode cX10_statement 94 = .ok (.getfield 184, 3) := by decide +kernel
theorem dX10_statement_97 : decode cX10_statement 97 = .ok (.iastore, 1) := by decide +kernel
theorem dX10_statement_98 : decode cX10_statement 98 = .ok (.aload_n 0, 1) := by decide +kernel
theorem dX10_statement_99 : decode cX10_statement 99 = .ok (.getfield 61, 3) := by decide +kernel
theorem dX10_statement_102 : decode cX10_statement 102 = .ok (.iload 5, 2) := by decide +kernel
theorem dX10_statement_104 : decode cX10_statement 104 = .ok (.iaload, 1) := by decide +kernel
theorem dX10_statement_105 : decode cX10_statement 105 = .ok (.iconst (-1), 1) := by decide +kernel
theorem dX10_statement_106 : decode cX10_statement 106 = .ok (.if_icmp .ne 15, 3) := by decide +kernel
theorem dX10_statement_109 : decode cX10_statement 109 = .ok (.aload_n 0, 1) := by decide +kernel
theorem dX10_statement_110 : decode cX10_statement 110 = .ok (.getfield 58, 3) := by decide +kernel
theorem dX10_statement_113 : decode cX10_statement 113 = .ok (.iload 5, 2) := by decide +kernel
theorem dX10_statement_115 : decode cX10_statement 115 = .ok (.iload 4, 2) := by decide +kernel
theorem dX10_statement_117 : decode cX10_statement 117 = .ok (.iastore, 1) := by decide +kernel
theorem dX10_statement_118 : decode cX10_statement 118 = .ok (.goto 17, 3) := by decide +kernel
theorem dX10_statement_121 : decode cX10_statement 121 = .ok (.aload_n 0, 1) := by decide +kernel
theorem dX10_statement_122 : decode cX10_statement 122 = .ok (.getfield 25, 3) := by decide +kernel
theorem dX10_statement_125 : decode cX10_statement 125 = .ok (.aload_n 0, 1) := by decide +kernel
theorem dX10_statement_126 : decode cX10_statement 126 = .ok (.getfield 61, 3) := by decide +kernel
theorem dX10_statement_129 : decode cX10_statement 129 = .ok (.iload 5, 2) := by decide +kernel
theorem dX10_statement_131 : decode cX10_statement 131 = .ok (.iaload, 1) := by decide +kernel
theorem dX10_statement_132 : decode cX10_statement 132 = .ok (.iload 4, 2) := by decide +kernel
theorem dX10_statement_134 : decode cX10_statement 134 = .ok (.iastore, 1) := by decide +kernel
theorem dX10_statement_135 : decode cX10_statement 135 = .ok (.aload_n 0, 1) := by decide +kernel
theorem dX10_statement_136 : decode cX10_statement 136 = .ok (.getfield 61, 3) := by decide +kernel
theorem dX10_statement_139 : decode cX10_statement 139 = .ok (.iload 5, 2) := by decide +kernel
theorem dX10_statement_141 : decode cX10_statement 141 = .ok (.iload 4, 2) := by decide +kernel
theorem dX10_statement_143 : decode cX10_statement 143 = .ok (.iastore, 1) := by decide +kernel
theorem dX10_statement_144 : decode cX10_statement 144 = .ok (.aload_n 0, 1) := by decide +kernel
theorem dX10_statement_145 : decode cX10_statement 145 = .ok (.dup, 1) := by decide +kernel
theorem dX10_statement_146 : decode cX10_statement 146 = .ok (.getfield 181, 3) := by decide +kernel
theorem dX10_statement_149 : decode cX10_statement 149 = .ok (.iconst 1, 1) := by decide +kernel
theorem dX10_statement_150 : decode cX10_statement 150 = .ok (.iadd, 1) := by decide +kernel
theorem dX10_statement_151 : decode cX10_statement 151 = .ok (.putfield 181, 3) := by decide +kernel
theorem dX10_statement_154 : decode cX10_statement 154 = .ok (.iload 4, 2) := by decide +kernel
theorem dX10_statement_156 : decode cX10_statement 156 = .ok (.ireturn, 1) := by decide +kernel
theorem wt_1305 : (Jvm.Cond.fieldLink "BranchingStoryModel" (7 : Nat) "BranchingStoryModel" "text" "[I") ∈ lw_tbl := in_tb 1305 (by decide +kernel)
theorem wt_1307 : (Jvm.Cond.fieldLink "BranchingStoryModel" (13 : Nat) "BranchingStoryModel" "told" "[I") ∈ lw_tbl := in_tb 1307 (by decide +kernel)
theorem wt_1311 : (Jvm.Cond.fieldLink "BranchingStoryModel" (16 : Nat) "BranchingStoryModel" "kind" "[I") ∈ lw_tbl := in_tb 1311 (by decide +kernel)
theorem wt_1312 : (Jvm.Cond.fieldLink "BranchingStoryModel" (19 : Nat) "BranchingStoryModel" "one" "[I") ∈ lw_tbl := in_tb 1312 (by decide +kernel)
theorem wt_1313 : (Jvm.Cond.fieldLink "BranchingStoryModel" (22 : Nat) "BranchingStoryModel" "two" "[I") ∈ lw_tbl := in_tb 1313 (by decide +kernel)
theorem wt_1314 : (Jvm.Cond.fieldLink "BranchingStoryModel" (25 : Nat) "BranchingStoryModel" "next" "[I") ∈ lw_tbl := in_tb 1314 (by decide +kernel)
theorem wt_1315 : (Jvm.Cond.fieldLink "BranchingStoryModel" (28 : Nat) "BranchingStoryModel" "inBlock" "[I") ∈ lw_tbl := in_tb 1315 (by decide +kernel)
theorem wt_1316 : (Jvm.Cond.fieldLink "BranchingStoryModel" (31 : Nat) "BranchingStoryModel" "first" "[I") ∈ lw_tbl := in_tb 1316 (by decide +kernel)
theorem wt_1317 : (Jvm.Cond.fieldLink "BranchingStoryModel" (34 : Nat) "BranchingStoryModel" "second" "[I") ∈ lw_tbl := in_tb 1317 (by decide +kernel)
theorem wt_1318 : (Jvm.Cond.fieldLink "BranchingStoryModel" (37 : Nat) "BranchingStoryModel" "termsFrom" "[I") ∈ lw_tbl := in_tb 1318 (by decide +kernel)
theorem wt_1319 : (Jvm.Cond.fieldLink "BranchingStoryModel" (40 : Nat) "BranchingStoryModel" "termsTo" "[I") ∈ lw_tbl := in_tb 1319 (by decide +kernel)
theorem wt_1320 : (Jvm.Cond.fieldLink "BranchingStoryModel" (181 : Nat) "BranchingStoryModel" "statements" "I") ∈ lw_tbl := in_tb 1320 (by decide +kernel)
theorem wt_1324 : (Jvm.Cond.fieldLink "BranchingStoryModel" (184 : Nat) "BranchingStoryModel" "terms" "I") ∈ lw_tbl := in_tb 1324 (by decide +kernel)
theorem wt_1327 : (Jvm.Cond.fieldLink "BranchingStoryModel" (58 : Nat) "BranchingStoryModel" "blockFirst" "[I") ∈ lw_tbl := in_tb 1327 (by decide +kernel)
theorem wt_1328 : (Jvm.Cond.fieldLink "BranchingStoryModel" (61 : Nat) "BranchingStoryModel" "blockLast" "[I") ∈ lw_tbl := in_tb 1328 (by decide +kernel)
theorem wt_1339 : (Jvm.Cond.fieldLink "BranchingStoryModel" (147 : Nat) "BranchingStoryModel" "ofStory" "Z") ∈ lw_tbl := in_tb 1339 (by decide +kernel)
theorem wt_1340 : (Jvm.Cond.fieldLink "BranchingStoryModel" (154 : Nat) "BranchingStoryModel" "many" "I") ∈ lw_tbl := in_tb 1340 (by decide +kernel)
theorem wt_1341 : (Jvm.Cond.fieldLink "BranchingStoryModel" (151 : Nat) "BranchingStoryModel" "at" "I") ∈ lw_tbl := in_tb 1341 (by decide +kernel)
theorem wt_1343 : (Jvm.Cond.fieldLink "BranchingStoryModel" (83 : Nat) "BranchingStoryModel" "open" "[I") ∈ lw_tbl := in_tb 1343 (by decide +kernel)
theorem wt_1344 : (Jvm.Cond.fieldLink "BranchingStoryModel" (178 : Nat) "BranchingStoryModel" "depth" "I") ∈ lw_tbl := in_tb 1344 (by decide +kernel)
theorem fl_X10_7 : FL RX10 7 9 0 := ⟨RX10, TX10, 74, rfl, by decide, inX10, Or.inl wt_1305⟩
theorem fl_X10_13 : FL RX10 13 9 2 := ⟨RX10, TX10, 74, rfl, by decide, inX10, Or.inl wt_1307⟩
theorem fl_X10_16 : FL RX10 16 9 6 := ⟨RX10, TX10, 74, rfl, by decide, inX10, Or.inl wt_1311⟩
theorem fl_X10_19 : FL RX10 19 9 7 := ⟨RX10, TX10, 74, rfl, by decide, inX10, Or.inl wt_1312⟩
theorem fl_X10_22 : FL RX10 22 9 8 := ⟨RX10, TX10, 74, rfl, by decide, inX10, Or.inl wt_1313⟩
theorem fl_X10_25 : FL RX10 25 9 9 := ⟨RX10, TX10, 74, rfl, by decide, inX10, Or.inl wt_1314⟩
theorem fl_X10_28 : FL RX10 28 9 10 := ⟨RX10, TX10, 74, rfl, by decide, inX10, Or.inl wt_1315⟩
theorem fl_X10_31 : FL RX10 31 9 11 := ⟨RX10, TX10, 74, rfl, by decide, inX10, Or.inl wt_1316⟩
theorem fl_X10_34 : FL RX10 34 9 12 := ⟨RX10, TX10, 74, rfl, by decide, inX10, Or.inl wt_1317⟩
theorem fl_X10_37 : FL RX10 37 9 13 := ⟨RX10, TX10, 74, rfl, by decide, inX10, Or.inl wt_1318⟩
theorem fl_X10_40 : FL RX10 40 9 14 := ⟨RX10, TX10, 74, rfl, by decide, inX10, Or.inl wt_1319⟩
theorem fl_X10_58 : FL RX10 58 9 22 := ⟨RX10, TX10, 74, rfl, by decide, inX10, Or.inl wt_1327⟩
theorem fl_X10_61 : FL RX10 61 9 23 := ⟨RX10, TX10, 74, rfl, by decide, inX10, Or.inl wt_1328⟩
theorem fl_X10_83 : FL RX10 83 9 38 := ⟨RX10, TX10, 74, rfl, by decide, inX10, Or.inl wt_1343⟩
theorem fl_X10_147 : FL RX10 147 9 34 := ⟨RX10, TX10, 74, rfl, by decide, inX10, Or.inl wt_1339⟩
theorem fl_X10_151 : FL RX10 151 9 36 := ⟨RX10, TX10, 74, rfl, by decide, inX10, Or.inl wt_1341⟩
theorem fl_X10_154 : FL RX10 154 9 35 := ⟨RX10, TX10, 74, rfl, by decide, inX10, Or.inl wt_1340⟩
theorem fl_X10_178 : FL RX10 178 9 39 := ⟨RX10, TX10, 74, rfl, by decide, inX10, Or.inl wt_1344⟩
theorem fl_X10_181 : FL RX10 181 9 15 := ⟨RX10, TX10, 74, rfl, by decide, inX10, Or.inl wt_1320⟩
theorem fl_X10_184 : FL RX10 184 9 19 := ⟨RX10, TX10, 74, rfl, by decide, inX10, Or.inl wt_1324⟩
theorem fp_X10_151 : FP RX10 151 9 36 .int := ⟨RX10, TX10, 74, tyX10, rfl, by decide, inX10, tyX10_ok, nmX10, rfl, by decide +kernel, Or.inl wt_1341⟩
theorem fp_X10_181 : FP RX10 181 9 15 .int := ⟨RX10, TX10, 74, tyX10, rfl, by decide, inX10, tyX10_ok, nmX10, rfl, by decide +kernel, Or.inl wt_1320⟩
/-! BranchingStoryModel.here()I -/
def f_X10_here_J54 (Q : St → Int → Prop) (σ : St) (v1 : Nat) : Prop :=
  inR (σ 0 36) ∧ inR (σ 0 35) ∧ (((σ 0 35) ≤ (σ 0 36) → Q σ (-1)) ∧ (¬ (σ 0 35) ≤ (σ 0 36) → isIA KM v1 ∧ 0 ≤ (σ 0 36) ∧ (σ 0 36) < ((alen KM v1 : Nat) : Int) ∧ Q σ (σ v1 (σ 0 36).toNat)))
def f_X10_here_L19 (Q : St → Int → Prop) : Nat → St → Nat → Prop
  | 0, _, _ => False
  | n + 1, σ, v1 => inR (σ 0 36) ∧ inR (σ 0 35) ∧ (((σ 0 35) ≤ (σ 0 36) → f_X10_here_J54 Q σ v1) ∧ (¬ (σ 0 35) ≤ (σ 0 36) → isIA KM v1 ∧ 0 ≤ (σ 0 36) ∧ (σ 0 36) < ((alen KM v1 : Nat) : Int) ∧ inR (σ v1 (σ 0 36).toNat) ∧ ((¬ (σ v1 (σ 0 36).toNat) = 32 → f_X10_here_J54 Q σ v1) ∧ ((σ v1 (σ 0 36).toNat) = 32 → ∀ σ1 : St, σ1 = sset σ 0 36 ((σ 0 36) + 1) → f_X10_here_L19 Q n σ1 v1))))
def f_X10_here (σ : St) (Q : St → Int → Prop) : Prop :=
  inR (σ 0 34) ∧ (((σ 0 34) = 0 → f_X10_here_L19 Q FU σ 1) ∧ (¬ (σ 0 34) = 0 → f_X10_here_L19 Q FU σ 2))
set_option maxRecDepth 100000 in
set_option maxHeartbeats 4000000 in
theorem w_X10_here_J54 {X : Cx} {Y : Cy} {Q : St → Int → Prop} (ok : Ok X Y KM cX10_here 2 RX10 (rm0q 0 0) (some .int)) (σ : St) (v1 : Nat) (h : f_X10_here_J54 Q σ v1) : Wq X Y KM 2 (QF X Y (Qiq Y KM Q)) σ 54 [(0, .inr (.inr 0)), (1, .inr (.inr v1))] [] := by
  unfold f_X10_here_J54 at h
  refine q_aload_n ok dX10_here_54 0 rfl ?_
  refine q_getI ok fl_X10_151 kM_0 fM_0_36 dX10_here_55 ?_
  refine q_aload_n ok dX10_here_58 0 rfl ?_
  refine q_getI ok fl_X10_154 kM_0 fM_0_35 dX10_here_59 ?_
  obtain ⟨g1, g2, hT1a, hT1b⟩ := h
  refine q_icmp_ge (tgt := 74) ok dX10_here_62 (by decide) g1 g2 (fun c1 => ?_) (fun c1 => ?_)
  · have h := hT1a c1
    refine q_iconst ok dX10_here_74 ?_
    exact q_iret ok dX10_here_75 h
  · have h := hT1b c1
    refine q_aload_n ok dX10_here_65 1 rfl ?_
    refine q_aload_n ok dX10_here_66 0 rfl ?_
    refine q_getI ok fl_X10_151 kM_0 fM_0_36 dX10_here_67 ?_
    obtain ⟨g3, h⟩ := h
    obtain ⟨g4, g5, h⟩ := h
    refine q_iald ok kM_ok g3 g4 g5 dX10_here_70 ?_
    refine q_goto (tgt := 75) ok dX10_here_71 (by decide) ?_
    exact q_iret ok dX10_here_75 h
set_option maxRecDepth 100000 in
set_option maxHeartbeats 4000000 in
theorem w_X10_here_L19 {X : Cx} {Y : Cy} {Q : St → Int → Prop} (ok : Ok X Y KM cX10_here 2 RX10 (rm0q 0 0) (some .int)) : ∀ (n : Nat) (σ : St) (v1 : Nat) , f_X10_here_L19 Q n σ v1 → Wq X Y KM 2 (QF X Y (Qiq Y KM Q)) σ 19 [(0, .inr (.inr 0)), (1, .inr (.inr v1))] [] := by
  intro n
  induction n with
  | zero => intro σ v1 h; exact h.elim
  | succ n ih =>
    intro σ v1 h
    rw [f_X10_here_L19] at h
    refine q_aload_n ok dX10_here_19 0 rfl ?_
    refine q_getI ok fl_X10_151 kM_0 fM_0_36 dX10_here_20 ?_
    refine q_aload_n ok dX10_here_23 0 rfl ?_
    refine q_getI ok fl_X10_154 kM_0 fM_0_35 dX10_here_24 ?_
    obtain ⟨g1, g2, hT2a, hT2b⟩ := h
    refine q_icmp_ge (tgt := 54) ok dX10_here_27 (by decide) g1 g2 (fun c2 => ?_) (fun c2 => ?_)
    · have h := hT2a c2
      exact w_X10_here_J54 ok σ v1 h
    · have h := hT2b c2
      refine q_aload_n ok dX10_here_30 1 rfl ?_
      refine q_aload_n ok dX10_here_31 0 rfl ?_
      refine q_getI ok fl_X10_151 kM_0 fM_0_36 dX10_here_32 ?_
      obtain ⟨g3, h⟩ := h
      obtain ⟨g4, g5, h⟩ := h
      refine q_iald ok kM_ok g3 g4 g5 dX10_here_35 ?_
      refine q_bipush ok dX10_here_36 rfl ?_
      obtain ⟨g6, hT1a, hT1b⟩ := h
      refine q_icmp_ne (tgt := 54) ok dX10_here_38 (by decide) g6 (by unfold inR; decide) (fun c1 => ?_) (fun c1 => ?_)
      · have h := hT1a c1
        exact w_X10_here_J54 ok σ v1 h
      · have h := hT1b c1
        refine q_aload_n ok dX10_here_41 0 rfl ?_
        refine q_dup ok dX10_here_42 rfl ?_
        refine q_getI ok fl_X10_151 kM_0 fM_0_36 dX10_here_43 ?_
        refine q_iconst ok dX10_here_46 ?_
        refine q_iadd ok dX10_here_47 ?_
        refine q_putI ok fp_X10_151 kM_0 fM_0_36 dX10_here_48 (wq_s (fun σ1 eσ1 => ?_))
        have h := h σ1 eσ1
        refine q_goto (tgt := 19) ok dX10_here_51 (by decide) ?_
        exact ih σ1 v1 h
set_option maxRecDepth 100000 in
set_option maxHeartbeats 4000000 in
theorem c_X10_here (l : Launch) (Y : Cy) (hD : ∀ σ, va_D Y.2.2.2 (wsOf KM Y.2.1 Y.2.2.1 σ)) {σ : St} {Q : St → Int → Prop} (h : f_X10_here  σ Q) : ConI l yX10_here cX10_here 2 .int (rm0q 0 0) Y KM σ [.inr (.inr 0)] Q := con_of (lv := [(0, .inr (.inr 0))]) (by decide) hD (Nat.le_of_ble_eq_true rfl) rfl (fun X _ ok => by
  have ok : Ok X Y KM cX10_here 2 RX10 (rm0q 0 0) (some .int) := ok
  unfold f_X10_here at h
  refine q_aload_n ok dX10_here_0 0 rfl ?_
  refine q_getI ok fl_X10_147 kM_0 fM_0_34 dX10_here_1 ?_
  obtain ⟨g1, hT1a, hT1b⟩ := h
  refine q_if_eq (tgt := 14) ok dX10_here_4 (by decide) g1 (fun c1 => ?_) (fun c1 => ?_)
  · have h := hT1a c1
    refine q_aload_n ok dX10_here_14 0 rfl ?_
    refine q_getC ok fl_X10_7 kM_0 fM_0_0 dX10_here_15 ?_
    refine q_astore_n (lv' := [(1, .inr (.inr 1)), (0, .inr (.inr 0))]) ok dX10_here_18 (by decide) rfl ?_
    refine q_sub [1, 0] rfl ?_
    exact w_X10_here_L19 ok FU σ 1 h
  · have h := hT1b c1
    refine q_aload_n ok dX10_here_7 0 rfl ?_
    refine q_getC ok fl_X10_13 kM_0 fM_0_2 dX10_here_8 ?_
    refine q_goto (tgt := 18) ok dX10_here_11 (by decide) ?_
    refine q_astore_n (lv' := [(1, .inr (.inr 2)), (0, .inr (.inr 0))]) ok dX10_here_18 (by decide) rfl ?_
    refine q_sub [1, 0] rfl ?_
    exact w_X10_here_L19 ok FU σ 2 h)
/-! BranchingStoryModel.statement(III)I -/
def f_X10_statement_J135 (Q : St → Int → Prop) (σ : St) (v4 : Int) (v5 : Int) : Prop :=
  0 ≤ v5 ∧ v5 < 64 ∧ ∀ σ1 : St, σ1 = sset σ 18 v5.toNat v4 → ∀ σ2 : St, σ2 = sset σ1 0 15 ((σ1 0 15) + 1) → Q σ2 v4
def f_X10_statement (a0 : Int) (a1 : Int) (a2 : Int) (σ : St) (Q : St → Int → Prop) : Prop :=
  ∀ x1 : Int, x1 = (σ 0 15) → 0 ≤ ((σ 0 39) - 1) ∧ ((σ 0 39) - 1) < 8 ∧ ∀ x2 : Int, x2 = (σ 25 ((σ 0 39) - 1).toNat) → 0 ≤ x1 ∧ x1 < 401 ∧ ∀ σ1 : St, σ1 = sset σ 3 x1.toNat a0 → 0 ≤ x1 ∧ x1 < 401 ∧ ∀ σ2 : St, σ2 = sset σ1 4 x1.toNat a1 → 0 ≤ x1 ∧ x1 < 401 ∧ ∀ σ3 : St, σ3 = sset σ2 5 x1.toNat a2 → 0 ≤ x1 ∧ x1 < 401 ∧ ∀ σ4 : St, σ4 = sset σ3 6 x1.toNat (-1) → 0 ≤ x1 ∧ x1 < 401 ∧ ∀ σ5 : St, σ5 = sset σ4 7 x1.toNat x2 → 0 ≤ x1 ∧ x1 < 401 ∧ ∀ σ6 : St, σ6 = sset σ5 8 x1.toNat (-1) → 0 ≤ x1 ∧ x1 < 401 ∧ ∀ σ7 : St, σ7 = sset σ6 9 x1.toNat (-1) → 0 ≤ x1 ∧ x1 < 401 ∧ ∀ σ8 : St, σ8 = sset σ7 10 x1.toNat (σ7 0 19) → 0 ≤ x1 ∧ x1 < 401 ∧ ∀ σ9 : St, σ9 = sset σ8 11 x1.toNat (σ8 0 19) → 0 ≤ x2 ∧ x2 < 64 ∧ inR (σ9 18 x2.toNat) ∧ ((¬ (σ9 18 x2.toNat) = (-1) → 0 ≤ x2 ∧ x2 < 64 ∧ 0 ≤ (σ9 18 x2.toNat) ∧ (σ9 18 x2.toNat) < 401 ∧ ∀ σ10 : St, σ10 = sset σ9 6 (σ9 18 x2.toNat).toNat x1 → f_X10_statement_J135 Q σ10 x1 x2) ∧ ((σ9 18 x2.toNat) = (-1) → 0 ≤ x2 ∧ x2 < 64 ∧ ∀ σ11 : St, σ11 = sset σ9 17 x2.toNat x1 → f_X10_statement_J135 Q σ11 x1 x2))
set_option maxRecDepth 100000 in
set_option maxHeartbeats 4000000 in
theorem w_X10_statement_J135 {X : Cx} {Y : Cy} {Q : St → Int → Prop} (ok : Ok X Y KM cX10_statement 6 RX10 (rm0q 0 0) (some .int)) (σ : St) (v4 : Int) (v5 : Int) (h : f_X10_statement_J135 Q σ v4 v5) : Wq X Y KM 6 (QF X Y (Qiq Y KM Q)) σ 135 [(0, .inr (.inr 0)), (4, .inl v4), (5, .inl v5)] [] := by
  unfold f_X10_statement_J135 at h
  refine q_aload_n ok dX10_statement_135 0 rfl ?_
  refine q_getC ok fl_X10_61 kM_0 fM_0_23 dX10_statement_136 ?_
  refine q_iload ok dX10_statement_139 2 rfl ?_
  refine q_iload ok dX10_statement_141 1 rfl ?_
  obtain ⟨g1, g2, h⟩ := h
  refine q_iast ok kM_ok kM_18 g1 g2 dX10_statement_143 (wq_s (fun σ1 eσ1 => ?_))
  have h := h σ1 eσ1
  refine q_aload_n ok dX10_statement_144 0 rfl ?_
  refine q_dup ok dX10_statement_145 rfl ?_
  refine q_getI ok fl_X10_181 kM_0 fM_0_15 dX10_statement_146 ?_
  refine q_iconst ok dX10_statement_149 ?_
  refine q_iadd ok dX10_statement_150 ?_
  refine q_putI ok fp_X10_181 kM_0 fM_0_15 dX10_statement_151 (wq_s (fun σ2 eσ2 => ?_))
  have h := h σ2 eσ2
  refine q_iload ok dX10_statement_154 1 rfl ?_
  exact q_iret ok dX10_statement_156 h
set_option maxRecDepth 100000 in
set_option maxHeartbeats 4000000 in
theorem c_X10_statement (l : Launch) (Y : Cy) (hD : ∀ σ, va_D Y.2.2.2 (wsOf KM Y.2.1 Y.2.2.1 σ)) {a0 : Int} {a1 : Int} {a2 : Int} {σ : St} {Q : St → Int → Prop} (h : f_X10_statement a0 a1 a2 σ Q) : ConI l yX10_statement cX10_statement 6 .int (rm0q 0 0) Y KM σ [.inr (.inr 0), .inl a0, .inl a1, .inl a2] Q := con_of (lv := [(0, .inr (.inr 0)), (1, .inl a0), (2, .inl a1), (3, .inl a2)]) (by decide) hD (Nat.le_of_ble_eq_true rfl) rfl (fun X _ ok => by
  have ok : Ok X Y KM cX10_statement 6 RX10 (rm0q 0 0) (some .int) := ok
  unfold f_X10_statement at h
  refine q_aload_n ok dX10_statement_0 0 rfl ?_
  refine q_getI ok fl_X10_181 kM_0 fM_0_15 dX10_statement_1 ?_
  refine wq_i (fun x1 ex1 => ?_)
  have h := h x1 ex1
  refine q_istore (lv' := [(4, .inl x1), (0, .inr (.inr 0)), (1, .inl a0), (2, .inl a1), (3, .inl a2)]) ok dX10_statement_4 (by decide) rfl ?_
  refine q_aload_n ok dX10_statement_6 1 rfl ?_
  refine q_getC ok fl_X10_83 kM_0 fM_0_38 dX10_statement_7 ?_
  refine q_aload_n ok dX10_statement_10 1 rfl ?_
  refine q_getI ok fl_X10_178 kM_0 fM_0_39 dX10_statement_11 ?_
  refine q_iconst ok dX10_statement_14 ?_
  refine q_isub ok dX10_statement_15 ?_
  obtain ⟨g1, g2, h⟩ := h
  refine q_iald ok kM_ok kM_25 g1 g2 dX10_statement_16 ?_
  refine wq_i (fun x2 ex2 => ?_)
  have h := h x2 ex2
  refine q_istore (lv' := [(5, .inl x2), (4, .inl x1), (0, .inr (.inr 0)), (1, .inl a0), (2, .inl a1), (3, .inl a2)]) ok dX10_statement_17 (by decide) rfl ?_
  refine q_aload_n ok dX10_statement_19 2 rfl ?_
  refine q_getC ok fl_X10_16 kM_0 fM_0_6 dX10_statement_20 ?_
  refine q_iload ok dX10_statement_23 1 rfl ?_
  refine q_iload_n ok dX10_statement_25 3 rfl ?_
  obtain ⟨g3, g4, h⟩ := h
  refine q_iast ok kM_ok kM_3 g3 g4 dX10_statement_26 (wq_s (fun σ1 eσ1 => ?_))
  have h := h σ1 eσ1
  refine q_aload_n ok dX10_statement_27 2 rfl ?_
  refine q_getC ok fl_X10_19 kM_0 fM_0_7 dX10_statement_28 ?_
  refine q_iload ok dX10_statement_31 1 rfl ?_
  refine q_iload_n ok dX10_statement_33 4 rfl ?_
  obtain ⟨g5, g6, h⟩ := h
  refine q_iast ok kM_ok kM_4 g5 g6 dX10_statement_34 (wq_s (fun σ2 eσ2 => ?_))
  have h := h σ2 eσ2
  refine q_aload_n ok dX10_statement_35 2 rfl ?_
  refine q_getC ok fl_X10_22 kM_0 fM_0_8 dX10_statement_36 ?_
  refine q_iload ok dX10_statement_39 1 rfl ?_
  refine q_iload_n ok dX10_statement_41 5 rfl ?_
  obtain ⟨g7, g8, h⟩ := h
  refine q_iast ok kM_ok kM_5 g7 g8 dX10_statement_42 (wq_s (fun σ3 eσ3 => ?_))
  have h := h σ3 eσ3
  refine q_aload_n ok dX10_statement_43 2 rfl ?_
  refine q_getC ok fl_X10_25 kM_0 fM_0_9 dX10_statement_44 ?_
  refine q_iload ok dX10_statement_47 1 rfl ?_
  refine q_iconst ok dX10_statement_49 ?_
  obtain ⟨g9, g10, h⟩ := h
  refine q_iast ok kM_ok kM_6 g9 g10 dX10_statement_50 (wq_s (fun σ4 eσ4 => ?_))
  have h := h σ4 eσ4
  refine q_aload_n ok dX10_statement_51 2 rfl ?_
  refine q_getC ok fl_X10_28 kM_0 fM_0_10 dX10_statement_52 ?_
  refine q_iload ok dX10_statement_55 1 rfl ?_
  refine q_iload ok dX10_statement_57 0 rfl ?_
  obtain ⟨g11, g12, h⟩ := h
  refine q_iast ok kM_ok kM_7 g11 g12 dX10_statement_59 (wq_s (fun σ5 eσ5 => ?_))
  have h := h σ5 eσ5
  refine q_aload_n ok dX10_statement_60 2 rfl ?_
  refine q_getC ok fl_X10_31 kM_0 fM_0_11 dX10_statement_61 ?_
  refine q_iload ok dX10_statement_64 1 rfl ?_
  refine q_iconst ok dX10_statement_66 ?_
  obtain ⟨g13, g14, h⟩ := h
  refine q_iast ok kM_ok kM_8 g13 g14 dX10_statement_67 (wq_s (fun σ6 eσ6 => ?_))
  have h := h σ6 eσ6
  refine q_aload_n ok dX10_statement_68 2 rfl ?_
  refine q_getC ok fl_X10_34 kM_0 fM_0_12 dX10_statement_69 ?_
  refine q_iload ok dX10_statement_72 1 rfl ?_
  refine q_iconst ok dX10_statement_74 ?_
  obtain ⟨g15, g16, h⟩ := h
  refine q_iast ok kM_ok kM_9 g15 g16 dX10_statement_75 (wq_s (fun σ7 eσ7 => ?_))
  have h := h σ7 eσ7
  refine q_aload_n ok dX10_statement_76 2 rfl ?_
  refine q_getC ok fl_X10_37 kM_0 fM_0_13 dX10_statement_77 ?_
  refine q_iload ok dX10_statement_80 1 rfl ?_
  refine q_aload_n ok dX10_statement_82 2 rfl ?_
  refine q_getI ok fl_X10_184 kM_0 fM_0_19 dX10_statement_83 ?_
  obtain ⟨g17, g18, h⟩ := h
  refine q_iast ok kM_ok kM_10 g17 g18 dX10_statement_86 (wq_s (fun σ8 eσ8 => ?_))
  have h := h σ8 eσ8
  refine q_aload_n ok dX10_statement_87 2 rfl ?_
  refine q_getC ok fl_X10_40 kM_0 fM_0_14 dX10_statement_88 ?_
  refine q_iload ok dX10_statement_91 1 rfl ?_
  refine q_aload_n ok dX10_statement_93 2 rfl ?_
  refine q_getI ok fl_X10_184 kM_0 fM_0_19 dX10_statement_94 ?_
  obtain ⟨g19, g20, h⟩ := h
  refine q_iast ok kM_ok kM_11 g19 g20 dX10_statement_97 (wq_s (fun σ9 eσ9 => ?_))
  have h := h σ9 eσ9
  refine q_aload_n ok dX10_statement_98 2 rfl ?_
  refine q_getC ok fl_X10_61 kM_0 fM_0_23 dX10_statement_99 ?_
  refine q_iload ok dX10_statement_102 0 rfl ?_
  obtain ⟨g21, g22, h⟩ := h
  refine q_iald ok kM_ok kM_18 g21 g22 dX10_statement_104 ?_
  refine q_iconst ok dX10_statement_105 ?_
  obtain ⟨g23, hT1a, hT1b⟩ := h
  refine q_icmp_ne (tgt := 121) ok dX10_statement_106 (by decide) g23 (by unfold inR; decide) (fun c1 => ?_) (fun c1 => ?_)
  · have h := hT1a c1
    refine q_aload_n ok dX10_statement_121 2 rfl ?_
    refine q_getC ok fl_X10_25 kM_0 fM_0_9 dX10_statement_122 ?_
    refine q_aload_n ok dX10_statement_125 2 rfl ?_
    refine q_getC ok fl_X10_61 kM_0 fM_0_23 dX10_statement_126 ?_
    refine q_iload ok dX10_statement_129 0 rfl ?_
    obtain ⟨g24, g25, h⟩ := h
    refine q_iald ok kM_ok kM_18 g24 g25 dX10_statement_131 ?_
    refine q_iload ok dX10_statement_132 1 rfl ?_
    obtain ⟨g26, g27, h⟩ := h
    refine q_iast ok kM_ok kM_6 g26 g27 dX10_statement_134 (wq_s (fun σ10 eσ10 => ?_))
    have h := h σ10 eσ10
    refine q_sub [2, 1, 0] rfl ?_
    exact w_X10_statement_J135 ok σ10 x1 x2 h
  · have h := hT1b c1
    refine q_aload_n ok dX10_statement_109 2 rfl ?_
    refine q_getC ok fl_X10_58 kM_0 fM_0_22 dX10_statement_110 ?_
    refine q_iload ok dX10_statement_113 0 rfl ?_
    refine q_iload ok dX10_statement_115 1 rfl ?_
    obtain ⟨g28, g29, h⟩ := h
    refine q_iast ok kM_ok kM_17 g28 g29 dX10_statement_117 (wq_s (fun σ11 eσ11 => ?_))
    have h := h σ11 eσ11
    refine q_goto (tgt := 135) ok dX10_statement_118 (by decide) ?_
    refine q_sub [2, 1, 0] rfl ?_
    exact w_X10_statement_J135 ok σ11 x1 x2 h)
