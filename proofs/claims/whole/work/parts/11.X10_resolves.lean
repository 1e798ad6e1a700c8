theorem dX10_resolves_0 : decode cX10_resolves 0 = .ok (.iconst 0, 1) := by decide +kernel
theorem dX10_resolves_1 : decode cX10_resolves 1 = .ok (.istore_n 1, 1) := by decide +kernel
theorem dX10_resolves_2 : decode cX10_resolves 2 = .ok (.iload_n 1, 1) := by decide +kernel
theorem dX10_resolves_3 : decode cX10_resolves 3 = .ok (.aload_n 0, 1) := by decide +kernel
theorem dX10_resolves_4 : decode cX10_resolves 4 = .ok (.getfield 181, 3) := by decide +kernel
theorem dX10_resolves_7 : decode cX10_resolves 7 = .ok (.if_icmp .ge 63, 3) := by decide +kernel
theorem dX10_resolves_10 : decode cX10_resolves 10 = .ok (.aload_n 0, 1) := by decide +kernel
theorem dX10_resolves_11 : decode cX10_resolves 11 = .ok (.getfield 16, 3) := by decide +kernel
theorem dX10_resolves_14 : decode cX10_resolves 14 = .ok (.iload_n 1, 1) := by decide +kernel
theorem dX10_resolves_15 : decode cX10_resolves 15 = .ok (.iaload, 1) := by decide +kernel
theorem dX10_resolves_16 : decode cX10_resolves 16 = .ok (.iconst 5, 1) := by decide +kernel
theorem dX10_resolves_17 : decode cX10_resolves 17 = .ok (.if_icmp .ne 47, 3) := by decide +kernel
theorem dX10_resolves_20 : decode cX10_resolves 20 = .ok (.aload_n 0, 1) := by decide +kernel
theorem dX10_resolves_21 : decode cX10_resolves 21 = .ok (.getfield 77, 3) := by decide +kernel
theorem dX10_resolves_24 : decode cX10_resolves 24 = .ok (.aload_n 0, 1) := by decide +kernel
theorem dX10_resolves_25 : decode cX10_resolves 25 = .ok (.getfield 19, 3) := by decide +kernel
theorem dX10_resolves_28 : decode cX10_resolves 28 = .ok (.iload_n 1, 1) := by decide +kernel
theorem dX10_resolves_29 : decode cX10_resolves 29 = .ok (.iaload, 1) := by decide +kernel
theorem dX10_resolves_30 : decode cX10_resolves 30 = .ok (.iaload, 1) := by decide +kernel
theorem dX10_resolves_31 : decode cX10_resolves 31 = .ok (.iconst (-1), 1) := by decide +kernel
theorem dX10_resolves_32 : decode cX10_resolves 32 = .ok (.if_icmp .ne 15, 3) := by decide +kernel
theorem dX10_resolves_35 : decode cX10_resolves 35 = .ok (.aload_n 0, 1) := by decide +kernel
theorem dX10_resolves_36 : decode cX10_resolves 36 = .ok (.aload_n 0, 1) := by decide +kernel
theorem dX10_resolves_37 : decode cX10_resolves 37 = .ok (.getfield 22, 3) := by decide +kernel
theorem dX10_resolves_40 : decode cX10_resolves 40 = .ok (.iload_n 1, 1) := by decide +kernel
theorem dX10_resolves_41 : decode cX10_resolves 41 = .ok (.iaload, 1) := by decide +kernel
theorem dX10_resolves_42 : decode cX10_resolves 42 = .ok (.putfield 151, 3) := by decide +kernel
theorem dX10_resolves_45 : decode cX10_resolves 45 = .ok (.iconst 0, 1) := by decide +kernel
theorem dX10_resolves_46 : decode cX10_resolves 46 = .ok (.ireturn, 1) := by decide +kernel
theorem dX10_resolves_47 : decode cX10_resolves 47 = .ok (.aload_n 0, 1) := by decide +kernel
theorem dX10_resolves_48 : decode cX10_resolves 48 = .ok (.getfield 19, 3) := by decide +kernel
theorem dX10_resolves_51 : decode cX10_resolves 51 = .ok (.iload_n 1, 1) := by decide +kernel
theorem dX10_resolves_52 : decode cX10_resolves 52 = .ok (.aload_n 0, 1) := by decide +kernel
theorem dX10_resolves_53 : decode cX10_resolves 53 = .ok (.getfield 77, 3) := by decide +kernel
theorem dX10_resolves_56 : decode cX10_resolves 56 = .ok (.aload_n 0, 1) := by decide +kernel
theorem dX10_resolves_57 : decode cX10_resolves 57 = .ok (.getfield 19, 3) := by decide +kernel
theorem dX10_resolves_60 : decode cX10_resolves 60 = .ok (.iload_n 1, 1) := by decide +kernel
theorem dX10_resolves_61 : decode cX10_resolves 61 = .ok (.iaload, 1) := by decide +kernel
theorem dX10_resolves_62 : decode cX10_resolves 62 = .ok (.iaload, 1) := by decide +kernel
theorem dX10_resolves_63 : decode cX10_resolves 63 = .ok (.iastore, 1) := by decide +kernel
theorem dX10_resolves_64 : decode cX10_resolves 64 = .ok (.iinc 1 1, 3) := by decide +kernel
theorem dX10_resolves_67 : decode cX10_resolves 67 = .ok (.goto (-65), 3) := by decide +kernel
theorem dX10_resolves_70 : decode cX10_resolves 70 = .ok (.iconst 1, 1) := by decide +kernel
theorem dX10_resolves_71 : decode cX10_resolves 71 = .ok (.ireturn, 1) := by decide +kernel
theorem dX10_readsAll_0 : decode cX10_readsAll 0 = .ok (.aload_n 0, 1) := by decide +kernel
theorem dX10_readsAll_1 : decode cX10_readsAll 1 = .ok (.iload_n 1, 1) := by decide +kernel
theorem dX10_readsAll_2 : decode cX10_readsAll 2 = .ok (.putfield 147, 3) := by decide +kernel
theorem dX10_readsAll_5 : decode cX10_readsAll 5 = .ok (.aload_n 0, 1) := by decide +kernel
theorem dX10_readsAll_6 : decode cX10_readsAll 6 = .ok (.iload_n 1, 1) := by decide +kernel
theorem dX10_readsAll_7 : decode cX10_readsAll 7 = .ok (.ifCond .eq 10, 3) := by decide +kernel
theorem dX10_readsAll_10 : decode cX10_readsAll 10 = .ok (.aload_n 0, 1) := by decide +kernel
theorem dX10_readsAll_11 : decode cX10_readsAll 11 = .ok (.getfield 234, 3) := by decide +kernel
theorem dX10_readsAll_14 : decode cX10_readsAll 14 = .ok (.goto 7, 3) := by decide +kernel
theorem dX10_readsAll_17 : decode cX10_readsAll 17 = .ok (.aload_n 0, 1) := by decide +kernel
theorem dX10_readsAll_18 : decode cX10_readsAll 18 = .ok (.getfield 237, 3) := by decide +kernel
theorem dX10_readsAll_21 : decode cX10_readsAll 21 = .ok (.putfield 154, 3) := by decide +kernel
theorem dX10_readsAll_24 : decode cX10_readsAll 24 = .ok (.aload_n 0, 1) := by decide +kernel
theorem dX10_readsAll_25 : decode cX10_readsAll 25 = .ok (.iconst 0, 1) := by decide +kernel
theorem dX10_readsAll_26 : decode cX10_readsAll 26 = .ok (.putfield 151, 3) := by decide +kernel
theorem dX10_readsAll_29 : decode cX10_readsAll 29 = .ok (.aload_n 0, 1) := by decide +kernel
theorem dX10_readsAll_30 : decode cX10_readsAll 30 = .ok (.iconst 1, 1) := by decide +kernel
theorem dX10_readsAll_31 : decode cX10_readsAll 31 = .ok (.putfield 157, 3) := by decide +kernel
theorem dX10_readsAll_34 : decode cX10_readsAll 34 = .ok (.aload_n 0, 1) := by decide +kernel
theorem dX10_readsAll_35 : decode cX10_readsAll 35 = .ok (.iconst 0, 1) := by decide +kernel
theorem dX10_readsAll_36 : decode cX10_readsAll 36 = .ok (.putfield 181, 3) := by decide +kernel
theorem dX10_readsAll_39 : decode cX10_readsAll 39 = .ok (.aload_n 0, 1) := by decide +kernel
theorem dX10_readsAll_40 : decode cX10_readsAll 40 = .ok (.iconst 0, 1) := by decide +kernel
theorem dX10_readsAll_41 : decode cX10_readsAll 41 = .ok (.putfield 184, 3) := by decide +kernel
theorem dX10_readsAll_44 : decode cX10_readsAll 44 = .ok (.aload_n 0, 1) := by decide +kernel
theorem dX10_readsAll_45 : decode cX10_readsAll 45 = .ok (.iconst 0, 1) := by decide +kernel
theorem dX10_readsAll_46 : decode cX10_readsAll 46 = .ok (.putfield 175, 3) := by decide +kernel
theorem dX10_readsAll_49 : decode cX10_readsAll 49 = .ok (.aload_n 0, 1) := by decide +kernel
theorem dX10_readsAll_50 : decode cX10_readsAll 50 = .ok (.iconst 0, 1) := by decide +kernel
theorem dX10_readsAll_51 : decode cX10_readsAll 51 = .ok (.putfield 195, 3) := by decide +kernel
theorem dX10_readsAll_54 : decode cX10_readsAll 54 = .ok (.aload_n 0, 1) := by decide +kernel
theorem dX10_readsAll_55 : decode cX10_readsAll 55 = .ok (.iconst 0, 1) := by decide +kernel
theorem dX10_readsAll_56 : decode cX10_readsAll 56 = .ok (.putfield 222, 3) := by decide +kernel
theorem dX10_readsAll_59 : decode cX10_readsAll 59 = .ok (.aload_n 0, 1) := by decide +kernel
theorem dX10_readsAll_60 : decode cX10_readsAll 60 = .ok (.iconst 0, 1) := by decide +kernel
theorem dX10_readsAll_61 : decode cX10_readsAll 61 = .ok (.putfield 208, 3) := by decide +kernel
theorem dX10_readsAll_64 : decode cX10_readsAll 64 = .ok (.aload_n 0, 1) := by decide +kernel
theorem dX10_readsAll_65 : decode cX10_readsAll 65 = .ok (.iconst 0, 1) := by decide +kernel
theorem dX10_readsAll_66 : decode cX10_readsAll 66 = .ok (.putfield 178, 3) := by decide +kernel
theorem dX10_readsAll_69 : decode cX10_readsAll 69 = .ok (.iconst 0, 1) := by decide +kernel
theorem dX10_readsAll_70 : decode cX10_readsAll 70 = .ok (.istore_n 2, 1) := by decide +kernel
theorem dX10_readsAll_71 : decode cX10_readsAll 71 = .ok (.iload_n 2, 1) := by decide +kernel
theorem dX10_readsAll_72 : decode cX10_readsAll 72 = .ok (.bipush 12, 2) := by decide +kernel
theorem dX10_readsAll_74 : decode cX10_readsAll 74 = .ok (.if_icmp .ge 16, 3) := by decide +kernel
theorem dX10_readsAll_77 : decode cX10_readsAll 77 = .ok (.aload_n 0, 1) := by decide +kernel
theorem dX10_readsAll_78 : decode cX10_readsAll 78 = .ok (.getfield 77, 3) := by decide +kernel
theorem dX10_readsAll_81 : decode cX10_readsAll 81 = .ok (.iload_n 2, 1) := by decide +kernel
theorem dX10_readsAll_82 : decode cX10_readsAll 82 = .ok (.iconst (-1), 1) := by decide +kernel
theorem dX10_readsAll_83 : decode cX10_readsAll 83 = .ok (.iastore, 1) := by decide +kernel
theorem dX10_readsAll_84 : decode cX10_readsAll 84 = .ok (.iinc 2 1, 3) := by decide +kernel
theorem dX10_readsAll_87 : decode cX10_readsAll 87 = .ok (.goto (-16), 3) := by decide +kernel
theorem dX10_readsAll_90 : decode cX10_readsAll 90 = .ok (.aload_n 0, 1) := by decide +kernel
theorem dX10_readsAll_91 : decode cX10_readsAll 91 = .ok (.invokevirtual 240, 3) := by decide +kernel
theorem dX10_readsAll_94 : decode cX10_readsAll 94 = .ok (.aload_n 0, 1) := by decide +kernel
theorem dX10_readsAll_95 : decode cX10_readsAll 95 = .ok (.getfield 157, 3) := by decide +kernel
theorem dX10_readsAll_98 : decode cX10_readsAll 98 = .ok (.istore_n 2, 1) := by decide +kernel
theorem dX10_readsAll_99 : decode cX10_readsAll 99 = .ok (.iload_n 2, 1) := by decide +kernel
theorem dX10_readsAll_100 : decode cX10_readsAll 100 = .ok (.ifCond .eq 94, 3) := by decide +kernel
theorem dX10_readsAll_103 : decode cX10_readsAll 103 = .ok (.aload_n 0, 1) := by decide +kernel
theorem dX10_readsAll_104 : decode cX10_readsAll 104 = .ok (.invokevirtual 160, 3) := by decide +kernel
theorem dX10_readsAll_107 : decode cX10_readsAll 107 = .ok (.istore_n 3, 1) := by decide +kernel
theorem dX10_readsAll_108 : decode cX10_readsAll 108 = .ok (.iload_n 3, 1) := by decide +kernel
theorem dX10_readsAll_109 : decode cX10_readsAll 109 = .ok (.iconst (-1), 1) := by decide +kernel
theorem dX10_readsAll_110 : decode cX10_readsAll 110 = .ok (.if_icmp .ne 25, 3) := by decide +kernel
theorem dX10_readsAll_113 : decode cX10_readsAll 113 = .ok (.aload_n 0, 1) := by decide +kernel
theorem dX10_readsAll_114 : decode cX10_readsAll 114 = .ok (.aload_n 0, 1) := by decide +kernel
theorem dX10_readsAll_115 : decode cX10_readsAll 115 = .ok (.getfield 178, 3) := by decide +kernel
theorem dX10_readsAll_118 : decode cX10_readsAll 118 = .ok (.iconst 1, 1) := by decide +kernel
theorem dX10_readsAll_119 : decode cX10_readsAll 119 = .ok (.if_icmp .ne 7, 3) := by decide +kernel
theorem dX10_readsAll_122 : decode cX10_readsAll 122 = .ok (.iconst 1, 1) := by decide +kernel
theorem dX10_readsAll_123 : decode cX10_readsAll 123 = .ok (.goto 4, 3) := by decide +kernel
theorem dX10_readsAll_126 : decode cX10_readsAll 126 = .ok (.iconst 0, 1) := by decide +kernel
theorem dX10_readsAll_127 : decode cX10_readsAll 127 = .ok (.invokevirtual 164, 3) := by decide +kernel
theorem dX10_readsAll_130 : decode cX10_readsAll 130 = .ok (.iconst 0, 1) := by decide +kernel
theorem dX10_readsAll_131 : decode cX10_readsAll 131 = .ok (.istore_n 2, 1) := by decide +kernel
theorem dX10_readsAll_132 : decode cX10_readsAll 132 = .ok (.goto 42, 3) := by decide +kernel
theorem dX10_readsAll_135 : decode cX10_readsAll 135 = .ok (.iload_n 3, 1) := by decide +kernel
theorem dX10_readsAll_136 : decode cX10_readsAll 136 = .ok (.bipush 61, 2) := by decide +kernel
theorem dX10_readsAll_138 : decode cX10_readsAll 138 = .ok (.if_icmp .ne 18, 3) := by decide +kernel
theorem dX10_readsAll_141 : decode cX10_readsAll 141 = .ok (.aload_n 0, 1) := by decide +kernel
theorem dX10_readsAll_142 : decode cX10_readsAll 142 = .ok (.getfield 178, 3) := by decide +kernel
theorem dX10_readsAll_145 : decode cX10_readsAll 145 = .ok (.iconst 1, 1) := by decide +kernel
theorem dX10_readsAll_146 : decode cX10_readsAll 146 = .ok (.if_icmp .ne 10, 3) := by decide +kernel
theorem dX10_readsAll_149 : decode cX10_readsAll 149 = .ok (.aload_n 0, 1) := by decide +kernel
theorem dX10_readsAll_150 : decode cX10_readsAll 150 = .ok (.invokevirtual 240, 3) := by decide +kernel
theorem dX10_readsAll_153 : decode cX10_readsAll 153 = .ok (.goto 21, 3) := by decide +kernel
theorem dX10_readsAll_156 : decode cX10_readsAll 156 = .ok (.iload_n 3, 1) := by decide +kernel
theorem dX10_readsAll_157 : decode cX10_readsAll 157 = .ok (.bipush 125, 2) := by decide +kernel
theorem dX10_readsAll_159 : decode cX10_readsAll 159 = .ok (.if_icmp .ne 10, 3) := by decide +kernel
theorem dX10_readsAll_162 : decode cX10_readsAll 162 = .ok (.aload_n 0, 1) := by decide +kernel
theorem dX10_readsAll_163 : decode cX10_readsAll 163 = .ok (.invokevirtual 243, 3) := by decide +kernel
theorem dX10_readsAll_166 : decode cX10_readsAll 166 = .ok (.goto 8, 3) := by decide +kernel
theorem dX10_readsAll_169 : decode cX10_readsAll 169 = .ok (.aload_n 0, 1) := by decide +kernel
theorem dX10_readsAll_170 : decode cX10_readsAll 170 = .ok (.iload_n 3, 1) := by decide +kernel
theorem dX10_readsAll_171 : decode cX10_readsAll 171 = .ok (.invokevirtual 246, 3) := by decide +kernel
theorem dX10_readsAll_174 : decode cX10_readsAll 174 = .ok (.iload_n 2, 1) := by decide +kernel
theorem dX10_readsAll_175 : decode cX10_readsAll 175 = .ok (.ifCond .eq 14, 3) := by decide +kernel
theorem dX10_readsAll_178 : decode cX10_readsAll 178 = .ok (.aload_n 0, 1) := by decide +kernel
theorem dX10_readsAll_179 : decode cX10_readsAll 179 = .ok (.getfield 157, 3) := by decide +kernel
theorem dX10_readsAll_182 : decode cX10_readsAll 182 = .ok (.ifCond .eq 7, 3) := by decide +kernel
theorem dX10_readsAll_185 : decode cX10_readsAll 185 = .ok (.iconst 1, 1) := by decide +kernel
theorem dX10_readsAll_186 : decode cX10_readsAll 186 = .ok (.goto 4, 3) := by decide +kernel
theorem dX10_readsAll_189 : decode cX10_readsAll 189 = .ok (.iconst 0, 1) := by decide +kernel
theorem dX10_readsAll_190 : decode cX10_readsAll 190 = .ok (.istore_n 2, 1) := by decide +kernel
theorem dX10_readsAll_191 : decode cX10_readsAll 191 = .ok (.goto (-92), 3) := by decide +kernel
theorem dX10_readsAll_194 : decode cX10_readsAll 194 = .ok (.aload_n 0, 1) := by decide +kernel
theorem dX10_readsAll_195 : decode cX10_readsAll 195 = .ok (.getfield 157, 3) := by decide +kernel
theorem dX10_readsAll_198 : decode cX10_readsAll 198 = .ok (.ifCond .eq 14, 3) := by decide +kernel
theorem dX10_readsAll_201 : decode cX10_readsAll 201 = .ok (.aload_n 0, 1) := by decide +kernel
theorem dX10_readsAll_202 : decode cX10_readsAll 202 = .ok (.invokevirtual 249, 3) := by decide +kernel
theorem dX10_readsAll_205 : decode cX10_readsAll 205 = .ok (.ifCond .eq 7, 3) := by decide +kernel
theorem dX10_readsAll_208 : decode cX10_readsAll 208 = .ok (.iconst 1, 1) := by decide +kernel
theorem dX10_readsAll_209 : decode cX10_readsAll 209 = .ok (.goto 4, 3) := by decide +kernel
theorem dX10_readsAll_212 : decode cX10_readsAll 212 = .ok (.iconst 0, 1) := by decide +kernel
theorem dX10_readsAll_213 : decode cX10_readsAll 213 = .ok (.ireturn, 1) := by decide +kernel
theorem dX10_type_0 : decode cX10_type 0 = .ok (.aload_n 0, 1) := by decide +kernel
theorem dX10_type_1 : decode cX10_type 1 = .ok (.iconst 0, 1) := by decide +kernel
theorem dX10_type_2 : decode cX10_type 2 = .ok (.putfield 143, 3) := by decide +kernel
theorem dX10_type_5 : decode cX10_type 5 = .ok (.iload_n 1, 1) := by decide +kernel
theorem dX10_type_6 : decode cX10_type 6 = .ok (.iconst 0, 1) := by decide +kernel
theorem dX10_type_7 : decode cX10_type 7 = .ok (.sipush 255, 3) := by decide +kernel
theorem dX10_type_10 : decode cX10_type 10 = .ok (.invokestatic 168, 3) := by decide +kernel
theorem dX10_type_13 : decode cX10_type 13 = .ok (.ifCond .ne 9, 3) := by decide +kernel
theorem dX10_type_16 : decode cX10_type 16 = .ok (.aload_n 0, 1) := by decide +kernel
theorem dX10_type_17 : decode cX10_type 17 = .ok (.iconst 1, 1) := by decide +kernel
theorem dX10_type_18 : decode cX10_type 18 = .ok (.invokevirtual 253, 3) := by decide +kernel
theorem dX10_type_21 : decode cX10_type 21 = .ok (.ireturn, 1) := by decide +kernel
theorem dX10_type_22 : decode cX10_type 22 = .ok (.aload_n 0, 1) := by decide +kernel
theorem dX10_type_23 : decode cX10_type 23 = .ok (.getfield 237, 3) := by decide +kernel
theorem dX10_type_26 : decode cX10_type 26 = .ok (.sipush 400, 3) := by decide +kernel
theorem dX10_type_29 : decode cX10_type 29 = .ok (.if_icmp .ne 9, 3) := by decide +kernel
theorem dX10_type_32 : decode cX10_type 32 = .ok (.aload_n 0, 1) := by decide +kernel
theorem dX10_type_33 : decode cX10_type 33 = .ok (.iconst 2, 1) := by decide +kernel
theorem dX10_type_34 : decode cX10_type 34 = .ok (.invokevirtual 253, 3) := by decide +kernel
theorem dX10_type_37 : decode cX10_type 37 = .ok (.ireturn, 1) := by decide +kernel
theorem dX10_type_38 : decode cX10_type 38 = .ok (.aload_n 0, 1) := by decide +kernel
theorem dX10_type_39 : decode cX10_type 39 = .ok (.getfield 7, 3) := by decide +kernel
theorem dX10_type_42 : decode cX10_type 42 = .ok (.aload_n 0, 1) := by decide +kernel
theorem dX10_type_43 : decode cX10_type 43 = .ok (.getfield 237, 3) := by decide +kernel
theorem dX10_type_46 : decode cX10_type 46 = .ok (.iload_n 1, 1) := by decide +kernel
theorem dX10_type_47 : decode cX10_type 47 = .ok (.iastore, 1) := by decide +kernel
theorem dX10_type_48 : decode cX10_type 48 = .ok (.aload_n 0, 1) := by decide +kernel
theorem dX10_type_49 : decode cX10_type 49 = .ok (.dup, 1) := by decide +kernel
theorem dX10_type_50 : decode cX10_type 50 = .ok (.getfield 237, 3) := by decide +kernel
theorem dX10_type_53 : decode cX10_type 53 = .ok (.iconst 1, 1) := by decide +kernel
theorem dX10_type_54 : decode cX10_type 54 = .ok (.iadd, 1) := by decide +kernel
theorem dX10_type_55 : decode cX10_type 55 = .ok (.putfield 237, 3) := by decide +kernel
theorem dX10_type_58 : decode cX10_type 58 = .ok (.aload_n 0, 1) := by decide +kernel
theorem dX10_type_59 : decode cX10_type 59 = .ok (.getfield 237, 3) := by decide +kernel
theorem dX10_type_62 : decode cX10_type 62 = .ok (.ireturn, 1) := by decide +kernel
theorem dX10_clearText_0 : decode cX10_clearText 0 = .ok (.aload_n 0, 1) := by decide +kernel
theorem dX10_clearText_1 : decode cX10_clearText 1 = .ok (.iconst 0, 1) := by decide +kernel
theorem dX10_clearText_2 : decode cX10_clearText 2 = .ok (.putfield 143, 3) := by decide +kernel
theorem dX10_clearText_5 : decode cX10_clearText 5 = .ok (.aload_n 0, 1) := by decide +kernel
theorem dX10_clearText_6 : decode cX10_clearText 6 = .ok (.getfield 237, 3) := by decide +kernel
theorem dX10_clearText_9 : decode cX10_clearText 9 = .ok (.istore_n 1, 1) := by decide +kernel
theorem dX10_clearText_10 : decode cX10_clearText 10 = .ok (.aload_n 0, 1) := by decide +kernel
theorem dX10_clearText_11 : decode cX10_clearText 11 = .ok (.iconst 0, 1) := by decide +kernel
theorem dX10_clearText_12 : decode cX10_clearText 12 = .ok (.putfield 237, 3) := by decide +kernel
theorem dX10_clearText_15 : decode cX10_clearText 15 = .ok (.iload_n 1, 1) := by decide +kernel
theorem dX10_clearText_16 : decode cX10_clearText 16 = .ok (.ireturn, 1) := by decide +kernel
theorem dX10_fault_0 : decode cX10_fault 0 = .ok (.aload_n 0, 1) := by decide +kernel
theorem dX10_fault_1 : decode cX10_fault 1 = .ok (.iconst 0, 1) := by decide +kernel
theorem dX10_fault_2 : decode cX10_fault 2 = .ok (.putfield 143, 3) := by decide +kernel
theorem dX10_fault_5 : decode cX10_fault 5 = .ok (.aload_n 0, 1) := by decide +kernel
theorem dX10_fault_6 : decode cX10_fault 6 = .ok (.iconst 0, 1) := by decide +kernel
theorem dX10_fault_7 : decode cX10_fault 7 = .ok (.invokevirtual 257, 3) := by decide +kernel
theorem dX10_fault_10 : decode cX10_fault 10 = .ok (.istore_n 1, 1) := by decide +kernel
theorem dX10_fault_11 : decode cX10_fault 11 = .ok (.iload_n 1, 1) := by decide +kernel
theorem dX10_fault_12 : decode cX10_fault 12 = .ok (.ifCond .eq 7, 3) := by decide +kernel
theorem dX10_fault_15 : decode cX10_fault 15 = .ok (.iconst (-1), 1) := by decide +kernel
theorem dX10_fault_16 : decode cX10_fault 16 = .ok (.goto 7, 3) := by decide +kernel
theorem dX10_fault_19 : decode cX10_fault 19 = .ok (.aload_n 0, 1) := by decide +kernel
theorem dX10_fault_20 : decode cX10_fault 20 = .ok (.getfield 151, 3) := by decide +kernel
theorem dX10_fault_23 : decode cX10_fault 23 = .ok (.istore_n 2, 1) := by decide +kernel
theorem dX10_fault_24 : decode cX10_fault 24 = .ok (.aload_n 0, 1) := by decide +kernel
theorem dX10_fault_25 : decode cX10_fault 25 = .ok (.getfield 261, 3) := by decide +kernel
theorem dX10_fault_28 : decode cX10_fault 28 = .ok (.ifCond .eq 9, 3) := by decide +kernel
theorem dX10_fault_31 : decode cX10_fault 31 = .ok (.aload_n 0, 1) := by decide +kernel
theorem dX10_fault_32 : decode cX10_fault 32 = .ok (.iconst 1, 1) := by decide +kernel
theorem dX10_fault_33 : decode cX10_fault 33 = .ok (.invokevirtual 257, 3) := by decide +kernel
theorem dX10_fault_36 : decode cX10_fault 36 = .ok (.istore_n 1, 1) := by decide +kernel
theorem dX10_fault_37 : decode cX10_fault 37 = .ok (.iload_n 2, 1) := by decide +kernel
theorem dX10_fault_38 : decode cX10_fault 38 = .ok (.ireturn, 1) := by decide +kernel
theorem dX10_build_0 : decode cX10_build 0 = .ok (.aload_n 0, 1) := by decide +kernel
theorem dX10_build_1 : decode cX10_build 1 = .ok (.iconst 0, 1) := by decide +kernel
theorem dX10_build_2 : decode cX10_build 2 = .ok (.putfield 143, 3) := by decide +kernel
theorem dX10_build_5 : decode cX10_build 5 = .ok (.aload_n 0, 1) := by decide +kernel
theorem dX10_build_6 : decode cX10_build 6 = .ok (.invokevirtual 264, 3) := by decide +kernel
theorem dX10_build_9 : decode cX10_build 9 = .ok (.iconst (-1), 1) := by decide +kernel
theorem dX10_build_10 : decode cX10_build 10 = .ok (.if_icmp .eq 9, 3) := by decide +kernel
theorem dX10_build_13 : decode cX10_build 13 = .ok (.aload_n 0, 1) := by decide +kernel
theorem dX10_build_14 : decode cX10_build 14 = .ok (.iconst 1, 1) := by decide +kernel
theorem dX10_build_15 : decode cX10_build 15 = .ok (.invokevirtual 253, 3) := by decide +kernel
theorem dX10_build_18 : decode cX10_build 18 = .ok (.ireturn, 1) := by decide +kernel
theorem dX10_build_19 : decode cX10_build 19 = .ok (.iconst 0, 1) := by decide +kernel
theorem dX10_build_20 : decode cX10_build 20 = .ok (.istore_n 1, 1) := by decide +kernel
theorem dX10_build_21 : decode cX10_build 21 = .ok (.iload_n 1, 1) := by decide +kernel
theorem dX10_build_22 : decode cX10_build 22 = .ok (.aload_n 0, 1) := by decide +kernel
theorem dX10_build_23 : decode cX10_build 23 = .ok (.getfield 237, 3) := by decide +kernel
theorem dX10_build_26 : decode cX10_build 26 = .ok (.if_icmp .ge 21, 3) := by decide +kernel
theorem dX10_build_29 : decode cX10_build 29 = .ok (.aload_n 0, 1) := by decide +kernel
theorem dX10_build_30 : decode cX10_build 30 = .ok (.getfield 13, 3) := by decide +kernel
theorem dX10_build_33 : decode cX10_build 33 = .ok (.iload_n 1, 1) := by decide +kernel
theorem dX10_build_34 : decode cX10_build 34 = .ok (.aload_n 0, 1) := by decide +kernel
theorem dX10_build_35 : decode cX10_build 35 = .ok (.getfield 7, 3) := by decide +kernel
theorem dX10_build_38 : decode cX10_build 38 = .ok (.iload_n 1, 1) := by decide +kernel
theorem dX10_build_39 : decode cX10_build 39 = .ok (.iaload, 1) := by decide +kernel
theorem dX10_build_40 : decode cX10_build 40 = .ok (.iastore, 1) := by decide +kernel
theorem dX10_build_41 : decode cX10_build 41 = .ok (.iinc 1 1, 3) := by decide +kernel
theorem dX10_build_44 : decode cX10_build 44 = .ok (.goto (-23), 3) := by decide +kernel
theorem dX10_build_47 : decode cX10_build 47 = .ok (.aload_n 0, 1) := by decide +kernel
theorem dX10_build_48 : decode cX10_build 48 = .ok (.aload_n 0, 1) := by decide +kernel
theorem dX10_build_49 : decode cX10_build 49 = .ok (.getfield 237, 3) := by decide +kernel
theorem dX10_build_52 : decode cX10_build 52 = .ok (.putfield 234, 3) := by decide +kernel
theorem dX10_build_55 : decode cX10_build 55 = .ok (.aload_n 0, 1) := by decide +kernel
theorem dX10_build_56 : decode cX10_build 56 = .ok (.aload_n 0, 1) := by decide +kernel
theorem dX10_build_57 : decode cX10_build 57 = .ok (.iconst 1, 1) := by decide +kernel
theorem dX10_build_58 : decode cX10_build 58 = .ok (.invokevirtual 257, 3) := by decide +kernel
theorem dX10_build_61 : decode cX10_build 61 = .ok (.putfield 261, 3) := by decide +kernel
theorem dX10_build_64 : decode cX10_build 64 = .ok (.iconst 0, 1) := by decide +kernel
theorem dX10_build_65 : decode cX10_build 65 = .ok (.istore_n 1, 1) := by decide +kernel
theorem dX10_build_66 : decode cX10_build 66 = .ok (.iload_n 1, 1) := by decide +kernel
theorem dX10_build_67 : decode cX10_build 67 = .ok (.bipush 31, 2) := by decide +kernel
theorem dX10_build_69 : decode cX10_build 69 = .ok (.if_icmp .ge 16, 3) := by decide +kernel
theorem dX10_build_72 : decode cX10_build 72 = .ok (.aload_n 0, 1) := by decide +kernel
theorem dX10_build_73 : decode cX10_build 73 = .ok (.getfield 86, 3) := by decide +kernel
theorem dX10_build_76 : decode cX10_build 76 = .ok (.iload_n 1, 1) := by decide +kernel
theorem dX10_build_77 : decode cX10_build 77 = .ok (.iconst 0, 1) := by decide +kernel
theorem dX10_build_78 : decode cX10_build 78 = .ok (.iastore, 1) := by decide +kernel
theorem dX10_build_79 : decode cX10_build 79 = .ok (.iinc 1 1, 3) := by decide +kernel
theorem dX10_build_82 : decode cX10_build 82 = .ok (.goto (-16), 3) := by decide +kernel
theorem dX10_build_85 : decode cX10_build 85 = .ok (.aload_n 0, 1) := by decide +kernel
theorem dX10_build_86 : decode cX10_build 86 = .ok (.iconst 0, 1) := by decide +kernel
theorem dX10_build_87 : decode cX10_build 87 = .ok (.putfield 267, 3) := by decide +kernel
theorem dX10_build_90 : decode cX10_build 90 = .ok (.aload_n 0, 1) := by decide +kernel
theorem dX10_build_91 : decode cX10_build 91 = .ok (.iconst 0, 1) := by decide +kernel
theorem dX10_build_92 : decode cX10_build 92 = .ok (.putfield 270, 3) := by decide +kernel
theorem dX10_build_95 : decode cX10_build 95 = .ok (.aload_n 0, 1) := by decide +kernel
theorem dX10_build_96 : decode cX10_build 96 = .ok (.iconst 0, 1) := by decide +kernel
theorem dX10_build_97 : decode cX10_build 97 = .ok (.putfield 273, 3) := by decide +kernel
theorem dX10_build_100 : decode cX10_build 100 = .ok (.aload_n 0, 1) := by decide +kernel
theorem dX10_build_101 : decode cX10_build 101 = .ok (.getfield 195, 3) := by decide +kernel
theorem dX10_build_104 : decode cX10_build 104 = .ok (.ireturn, 1) := by decide +kernel
theorem dX10_count_0 : decode cX10_count 0 = .ok (.aload_n 0, 1) := by decide +kernel
theorem dX10_count_1 : decode cX10_count 1 = .ok (.iconst 0, 1) := by decide +kernel
theorem dX10_count_2 : decode cX10_count 2 = .ok (.putfield 143, 3) := by decide +kernel
theorem dX10_count_5 : decode cX10_count 5 = .ok (.iload_n 1, 1) := by decide +kernel
theorem dX10_count_6 : decode cX10_count 6 = .ok (.iconst 0, 1) := by decide +kernel
theorem dX10_count_7 : decode cX10_count 7 = .ok (.iconst 2, 1) := by decide +kernel
theorem dX10_count_8 : decode cX10_count 8 = .ok (.invokestatic 168, 3) := by decide +kernel
theorem dX10_count_11 : decode cX10_count 11 = .ok (.ifCond .ne 9, 3) := by decide +kernel
theorem dX10_count_14 : decode cX10_count 14 = .ok (.aload_n 0, 1) := by decide +kernel
theorem dX10_count_15 : decode cX10_count 15 = .ok (.iconst 1, 1) := by decide +kernel
theorem dX10_count_16 : decode cX10_count 16 = .ok (.invokevirtual 253, 3) := by decide +kernel
theorem dX10_count_19 : decode cX10_count 19 = .ok (.ireturn, 1) := by decide +kernel
theorem dX10_count_20 : decode cX10_count 20 = .ok (.aload_n 0, 1) := by decide +kernel
theorem dX10_count_21 : decode cX10_count 21 = .ok (.getfield 261, 3) := by decide +kernel
theorem dX10_count_24 : decode cX10_count 24 = .ok (.ifCond .ne 7, 3) := by decide +kernel
theorem dX10_count_27 : decode cX10_count 27 = .ok (.iconst 0, 1) := by decide +kernel
theorem dX10_count_28 : decode cX10_count 28 = .ok (.goto 30, 3) := by decide +kernel
theorem dX10_count_31 : decode cX10_count 31 = .ok (.iload_n 1, 1) := by decide +kernel
theorem dX10_count_32 : decode cX10_count 32 = .ok (.ifCond .ne 10, 3) := by decide +kernel
theorem dX10_count_35 : decode cX10_count 35 = .ok (.aload_n 0, 1) := by decide +kernel
theorem dX10_count_36 : decode cX10_count 36 = .ok (.getfield 195, 3) := by decide +kernel
theorem dX10_count_39 : decode cX10_count 39 = .ok (.goto 19, 3) := by decide +kernel
theorem dX10_count_42 : decode cX10_count 42 = .ok (.iload_n 1, 1) := by decide +kernel
theorem dX10_count_43 : decode cX10_count 43 = .ok (.iconst 1, 1) := by decide +kernel
theorem dX10_count_44 : decode cX10_count 44 = .ok (.if_icmp .ne 10, 3) := by decide +kernel
theorem dX10_count_47 : decode cX10_count 47 = .ok (.aload_n 0, 1) := by decide +kernel
theorem dX10_count_48 : decode cX10_count 48 = .ok (.getfield 222, 3) := by decide +kernel
theorem dX10_count_51 : decode cX10_count 51 = .ok (.goto 7, 3) := by decide +kernel
theorem dX10_count_54 : decode cX10_count 54 = .ok (.aload_n 0, 1) := by decide +kernel
theorem dX10_count_55 : decode cX10_count 55 = .ok (.getfield 208, 3) := by decide +kernel
theorem dX10_count_58 : decode cX10_count 58 = .ok (.ireturn, 1) := by decide +kernel
theorem dX10_isNode_0 : decode cX10_isNode 0 = .ok (.aload_n 0, 1) := by decide +kernel
theorem dX10_isNode_1 : decode cX10_isNode 1 = .ok (.getfield 261, 3) := by decide +kernel
theorem dX10_isNode_4 : decode cX10_isNode 4 = .ok (.ifCond .eq 21, 3) := by decide +kernel
theorem dX10_isNode_7 : decode cX10_isNode 7 = .ok (.iload_n 1, 1) := by decide +kernel
theorem dX10_isNode_8 : decode cX10_isNode 8 = .ok (.iconst 0, 1) := by decide +kernel
theorem dX10_isNode_9 : decode cX10_isNode 9 = .ok (.aload_n 0, 1) := by decide +kernel
theorem dX10_isNode_10 : decode cX10_isNode 10 = .ok (.getfield 195, 3) := by decide +kernel
theorem dX10_isNode_13 : decode cX10_isNode 13 = .ok (.iconst 1, 1) := by decide +kernel
theorem dX10_isNode_14 : decode cX10_isNode 14 = .ok (.isub, 1) := by decide +kernel
theorem dX10_isNode_15 : decode cX10_isNode 15 = .ok (.invokestatic 168, 3) := by decide +kernel
theorem dX10_isNode_18 : decode cX10_isNode 18 = .ok (.ifCond .eq 7, 3) := by decide +kernel
theorem dX10_isNode_21 : decode cX10_isNode 21 = .ok (.iconst 1, 1) := by decide +kernel
theorem dX10_isNode_22 : decode cX10_isNode 22 = .ok (.goto 4, 3) := by decide +kernel
theorem dX10_isNode_25 : decode cX10_isNode 25 = .ok (.iconst 0, 1) := by decide +kernel
theorem dX10_isNode_26 : decode cX10_isNode 26 = .ok (.ireturn, 1) := by decide +kernel
theorem dX10_isChoice_0 : decode cX10_isChoice 0 = .ok (.aload_n 0, 1) := by decide +kernel
theorem dX10_isChoice_1 : decode cX10_isChoice 1 = .ok (.getfield 261, 3) := by decide +kernel
theorem dX10_isChoice_4 : decode cX10_isChoice 4 = .ok (.ifCond .eq 21, 3) := by decide +kernel
theorem dX10_isChoice_7 : decode cX10_isChoice 7 = .ok (.iload_n 1, 1) := by decide +kernel
theorem dX10_isChoice_8 : decode cX10_isChoice 8 = .ok (.iconst 0, 1) := by decide +kernel
theorem dX10_isChoice_9 : decode cX10_isChoice 9 = .ok (.aload_n 0, 1) := by decide +kernel
theorem dX10_isChoice_10 : decode cX10_isChoice 10 = .ok (.getfield 222, 3) := by decide +kernel
theorem dX10_isChoice_13 : decode cX10_isChoice 13 = .ok (.iconst 1, 1) := by decide +kernel
theorem dX10_isChoice_14 : decode cX10_isChoice 14 = .ok (.isub, 1) := by decide +kernel
theorem dX10_isChoice_15 : decode cX10_isChoice 15 = .ok (.invokestatic 168, 3) := by decide +kernel
theorem dX10_isChoice_18 : decode cX10_isChoice 18 = .ok (.ifCond .eq 7, 3) := by decide +kernel
theorem dX10_isChoice_21 : decode cX10_isChoice 21 = .ok (.iconst 1, 1) := by decide +kernel
theorem dX10_isChoice_22 : decode cX10_isChoice 22 = .ok (.goto 4, 3) := by decide +kernel
theorem dX10_isChoice_25 : decode cX10_isChoice 25 = .ok (.iconst 0, 1) := by decide +kernel
theorem dX10_isChoice_26 : decode cX10_isChoice 26 = .ok (.ireturn, 1) := by decide +kernel
theorem dX10_name_0 : decode cX10_name 0 = .ok (.aload_n 0, 1) := by decide +kernel
theorem dX10_name_1 : decode cX10_name 1 = .ok (.iconst 0, 1) := by decide +kernel
theorem dX10_name_2 : decode cX10_name 2 = .ok (.putfield 143, 3) := by decide +kernel
theorem dX10_name_5 : decode cX10_name 5 = .ok (.aload_n 0, 1) := by decide +kernel
theorem dX10_name_6 : decode cX10_name 6 = .ok (.iload_n 1, 1) := by decide +kernel
theorem dX10_name_7 : decode cX10_name 7 = .ok (.invokevirtual 276, 3) := by decide +kernel
theorem dX10_name_10 : decode cX10_name 10 = .ok (.ifCond .eq 12, 3) := by decide +kernel
theorem dX10_name_13 : decode cX10_name 13 = .ok (.aload_n 0, 1) := by decide +kernel
theorem dX10_name_14 : decode cX10_name 14 = .ok (.getfield 67, 3) := by decide +kernel
theorem dX10_name_17 : decode cX10_name 17 = .ok (.iload_n 1, 1) := by decide +kernel
theorem dX10_name_18 : decode cX10_name 18 = .ok (.iaload, 1) := by decide +kernel
theorem dX10_name_19 : decode cX10_name 19 = .ok (.goto 8, 3) := by decide +kernel
theorem dX10_name_22 : decode cX10_name 22 = .ok (.aload_n 0, 1) := by decide +kernel
theorem dX10_name_23 : decode cX10_name 23 = .ok (.iconst 1, 1) := by decide +kernel
theorem dX10_name_24 : decode cX10_name 24 = .ok (.invokevirtual 253, 3) := by decide +kernel
theorem dX10_name_27 : decode cX10_name 27 = .ok (.ireturn, 1) := by decide +kernel
theorem dX10_isHub_0 : decode cX10_isHub 0 = .ok (.aload_n 0, 1) := by decide +kernel
theorem dX10_isHub_1 : decode cX10_isHub 1 = .ok (.iconst 0, 1) := by decide +kernel
theorem dX10_isHub_2 : decode cX10_isHub 2 = .ok (.putfield 143, 3) := by decide +kernel
theorem dX10_isHub_5 : decode cX10_isHub 5 = .ok (.aload_n 0, 1) := by decide +kernel
theorem dX10_isHub_6 : decode cX10_isHub 6 = .ok (.iload_n 1, 1) := by decide +kernel
theorem dX10_isHub_7 : decode cX10_isHub 7 = .ok (.invokevirtual 276, 3) := by decide +kernel
theorem dX10_isHub_10 : decode cX10_isHub 10 = .ok (.ifCond .ne 11, 3) := by decide +kernel
theorem dX10_isHub_13 : decode cX10_isHub 13 = .ok (.aload_n 0, 1) := by decide +kernel
theorem dX10_isHub_14 : decode cX10_isHub 14 = .ok (.iconst 1, 1) := by decide +kernel
theorem dX10_isHub_15 : decode cX10_isHub 15 = .ok (.invokevirtual 253, 3) := by decide +kernel
theorem dX10_isHub_18 : decode cX10_isHub 18 = .ok (.pop, 1) := by decide +kernel
theorem dX10_isHub_19 : decode cX10_isHub 19 = .ok (.iconst 0, 1) := by decide +kernel
theorem dX10_isHub_20 : decode cX10_isHub 20 = .ok (.ireturn, 1) := by decide +kernel
theorem dX10_isHub_21 : decode cX10_isHub 21 = .ok (.aload_n 0, 1) := by decide +kernel
theorem dX10_isHub_22 : decode cX10_isHub 22 = .ok (.getfield 70, 3) := by decide +kernel
theorem dX10_isHub_25 : decode cX10_isHub 25 = .ok (.iload_n 1, 1) := by decide +kernel
theorem dX10_isHub_26 : decode cX10_isHub 26 = .ok (.baload, 1) := by decide +kernel
theorem dX10_isHub_27 : decode cX10_isHub 27 = .ok (.ireturn, 1) := by decide +kernel
theorem dX10_label_0 : decode cX10_label 0 = .ok (.aload_n 0, 1) := by decide +kernel
theorem dX10_label_1 : decode cX10_label 1 = .ok (.iconst 0, 1) := by decide +kernel
theorem dX10_label_2 : decode cX10_label 2 = .ok (.putfield 143, 3) := by decide +kernel
theorem dX10_label_5 : decode cX10_label 5 = .ok (.aload_n 0, 1) := by decide +kernel
theorem dX10_label_6 : decode cX10_label 6 = .ok (.iload_n 1, 1) := by decide +kernel
theorem dX10_label_7 : decode cX10_label 7 = .ok (.invokevirtual 280, 3) := by decide +kernel
theorem dX10_label_10 : decode cX10_label 10 = .ok (.ifCond .eq 17, 3) := by decide +kernel
theorem dX10_label_13 : decode cX10_label 13 = .ok (.aload_n 0, 1) := by decide +kernel
theorem dX10_label_14 : decode cX10_label 14 = .ok (.getfield 22, 3) := by decide +kernel
theorem dX10_label_17 : decode cX10_label 17 = .ok (.aload_n 0, 1) := by decide +kernel
theorem dX10_label_18 : decode cX10_label 18 = .ok (.getfield 80, 3) := by decide +kernel
theorem dX10_label_21 : decode cX10_label 21 = .ok (.iload_n 1, 1) := by decide +kernel
theorem dX10_label_22 : decode cX10_label 22 = .ok (.iaload, 1) := by decide +kernel
theorem dX10_label_23 : decode cX10_label 23 = .ok (.iaload, 1) := by decide +kernel
theorem dX10_label_24 : decode cX10_label 24 = .ok (.goto 8, 3) := by decide +kernel
theorem dX10_label_27 : decode cX10_label 27 = .ok (.aload_n 0, 1) := by decide +kernel
theorem dX10_label_28 : decode cX10_label 28 = .ok (.iconst 1, 1) := by decide +kernel
theorem dX10_label_29 : decode cX10_label 29 = .ok (.invokevirtual 253, 3) := by decide +kernel
theorem dX10_label_32 : decode cX10_label 32 = .ok (.ireturn, 1) := by decide +kernel
theorem dX10_nodeOfChoice_0 : decode cX10_nodeOfChoice 0 = .ok (.aload_n 0, 1) := by decide +kernel
theorem dX10_nodeOfChoice_1 : decode cX10_nodeOfChoice 1 = .ok (.getfield 64, 3) := by decide +kernel
theorem dX10_nodeOfChoice_4 : decode cX10_nodeOfChoice 4 = .ok (.aload_n 0, 1) := by decide +kernel
theorem dX10_nodeOfChoice_5 : decode cX10_nodeOfChoice 5 = .ok (.getfield 28, 3) := by decide +kernel
theorem dX10_nodeOfChoice_8 : decode cX10_nodeOfChoice 8 = .ok (.aload_n 0, 1) := by decide +kernel
theorem dX10_nodeOfChoice_9 : decode cX10_nodeOfChoice 9 = .ok (.getfield 80, 3) := by decide +kernel
theorem dX10_nodeOfChoice_12 : decode cX10_nodeOfChoice 12 = .ok (.iload_n 1, 1) := by decide +kernel
theorem dX10_nodeOfChoice_13 : decode cX10_nodeOfChoice 13 = .ok (.iaload, 1) := by decide +kernel
theorem dX10_nodeOfChoice_14 : decode cX10_nodeOfChoice 14 = .ok (.iaload, 1) := by decide +kernel
theorem dX10_nodeOfChoice_15 : decode cX10_nodeOfChoice 15 = .ok (.iaload, 1) := by decide +kernel
theorem dX10_nodeOfChoice_16 : decode cX10_nodeOfChoice 16 = .ok (.ireturn, 1) := by decide +kernel
theorem dX10_nodeOf_0 : decode cX10_nodeOf 0 = .ok (.aload_n 0, 1) := by decide +kernel
theorem dX10_nodeOf_1 : decode cX10_nodeOf 1 = .ok (.iconst 0, 1) := by decide +kernel
theorem dX10_nodeOf_2 : decode cX10_nodeOf 2 = .ok (.putfield 143, 3) := by decide +kernel
theorem dX10_nodeOf_5 : decode cX10_nodeOf 5 = .ok (.aload_n 0, 1) := by decide +kernel
theorem dX10_nodeOf_6 : decode cX10_nodeOf 6 = .ok (.iload_n 1, 1) := by decide +kernel
theorem dX10_nodeOf_7 : decode cX10_nodeOf 7 = .ok (.invokevirtual 280, 3) := by decide +kernel
theorem dX10_nodeOf_10 : decode cX10_nodeOf 10 = .ok (.ifCond .eq 11, 3) := by decide +kernel
theorem dX10_nodeOf_13 : decode cX10_nodeOf 13 = .ok (.aload_n 0, 1) := by decide +kernel
theorem dX10_nodeOf_14 : decode cX10_nodeOf 14 = .ok (.iload_n 1, 1) := by decide +kernel
theorem dX10_nodeOf_15 : decode cX10_nodeOf 15 = .ok (.invokevirtual 283, 3) := by decide +kernel
theorem dX10_nodeOf_18 : decode cX10_nodeOf 18 = .ok (.goto 8, 3) := by decide +kernel
theorem dX10_nodeOf_21 : decode cX10_nodeOf 21 = .ok (.aload_n 0, 1) := by decide +kernel
theorem dX10_nodeOf_22 : decode cX10_nodeOf 22 = .ok (.iconst 1, 1) := by decide +kernel
theorem dX10_nodeOf_23 : decode cX10_nodeOf 23 = .ok (.invokevirtual 253, 3) := by decide +kernel
theorem dX10_nodeOf_26 : decode cX10_nodeOf 26 = .ok (.ireturn, 1) := by decide +kernel
theorem dX10_termHolds_0 : decode cX10_termHolds 0 = .ok (.aload_n 0, 1) := by decide +kernel
theorem dX10_termHolds_1 : decode cX10_termHolds 1 = .ok (.getfield 43, 3) := by decide +kernel
theorem dX10_termHolds_4 : decode cX10_termHolds 4 = .ok (.iload_n 1, 1) := by decide +kernel
theorem dX10_termHolds_5 : decode cX10_termHolds 5 = .ok (.iaload, 1) := by decide +kernel
theorem dX10_termHolds_6 : decode cX10_termHolds 6 = .ok (.iconst 2, 1) := by decide +kernel
theorem dX10_termHolds_7 : decode cX10_termHolds 7 = .ok (.if_icmp .ge 33, 3) := by decide +kernel
theorem dX10_termHolds_10 : decode cX10_termHolds 10 = .ok (.aload_n 0, 1) := by decide +kernel
theorem dX10_termHolds_11 : decode cX10_termHolds 11 = .ok (.getfield 86, 3) := by decide +kernel
theorem dX10_termHolds_14 : decode cX10_termHolds 14 = .ok (.iconst 4, 1) := by decide +kernel
theorem dX10_termHolds_15 : decode cX10_termHolds 15 = .ok (.iaload, 1) := by decide +kernel
theorem dX10_termHolds_16 : decode cX10_termHolds 16 = .ok (.aload_n 0, 1) := by decide +kernel
theorem dX10_termHolds_17 : decode cX10_termHolds 17 = .ok (.getfield 46, 3) := by decide +kernel
theorem dX10_termHolds_20 : decode cX10_termHolds 20 = .ok (.iload_n 1, 1) := by decide +kernel
theorem dX10_termHolds_21 : decode cX10_termHolds 21 = .ok (.iaload, 1) := by decide +kernel
theorem dX10_termHolds_22 : decode cX10_termHolds 22 = .ok (.ishr, 1) := by decide +kernel
theorem dX10_termHolds_23 : decode cX10_termHolds 23 = .ok (.iconst 1, 1) := by decide +kernel
theorem dX10_termHolds_24 : decode cX10_termHolds 24 = .ok (.iand, 1) := by decide +kernel
theorem dX10_termHolds_25 : decode cX10_termHolds 25 = .ok (.aload_n 0, 1) := by decide +kernel
theorem dX10_termHolds_26 : decode cX10_termHolds 26 = .ok (.getfield 43, 3) := by decide +kernel
theorem dX10_termHolds_29 : decode cX10_termHolds 29 = .ok (.iload_n 1, 1) := by decide +kernel
theorem dX10_termHolds_30 : decode cX10_termHolds 30 = .ok (.iaload, 1) := by decide +kernel
theorem dX10_termHolds_31 : decode cX10_termHolds 31 = .ok (.if_icmp .eq 7, 3) := by decide +kernel
theorem dX10_termHolds_34 : decode cX10_termHolds 34 = .ok (.iconst 1, 1) := by decide +kernel
theorem dX10_termHolds_35 : decode cX10_termHolds 35 = .ok (.goto 4, 3) := by decide +kernel
theorem dX10_termHolds_38 : decode cX10_termHolds 38 = .ok (.iconst 0, 1) := by decide +kernel
theorem dX10_termHolds_39 : decode cX10_termHolds 39 = .ok (.ireturn, 1) := by decide +kernel
theorem dX10_termHolds_40 : decode cX10_termHolds 40 = .ok (.aload_n 0, 1) := by decide +kernel
theorem dX10_termHolds_41 : decode cX10_termHolds 41 = .ok (.getfield 86, 3) := by decide +kernel
theorem dX10_termHolds_44 : decode cX10_termHolds 44 = .ok (.iconst 5, 1) := by decide +kernel
theorem dX10_termHolds_45 : decode cX10_termHolds 45 = .ok (.aload_n 0, 1) := by decide +kernel
theorem dX10_termHolds_46 : decode cX10_termHolds 46 = .ok (.getfield 46, 3) := by decide +kernel
theorem dX10_termHolds_49 : decode cX10_termHolds 49 = .ok (.iload_n 1, 1) := by decide +kernel
theorem dX10_termHolds_50 : decode cX10_termHolds 50 = .ok (.iaload, 1) := by decide +kernel
theorem dX10_termHolds_51 : decode cX10_termHolds 51 = .ok (.iadd, 1) := by decide +kernel
theorem dX10_termHolds_52 : decode cX10_termHolds 52 = .ok (.iaload, 1) := by decide +kernel
theorem dX10_termHolds_53 : decode cX10_termHolds 53 = .ok (.istore_n 2, 1) := by decide +kernel
theorem dX10_termHolds_54 : decode cX10_termHolds 54 = .ok (.aload_n 0, 1) := by decide +kernel
theorem dX10_termHolds_55 : decode cX10_termHolds 55 = .ok (.getfield 43, 3) := by decide +kernel
theorem dX10_termHolds_58 : decode cX10_termHolds 58 = .ok (.iload_n 1, 1) := by decide +kernel
theorem dX10_termHolds_59 : decode cX10_termHolds 59 = .ok (.iaload, 1) := by decide +kernel
theorem dX10_termHolds_60 : decode cX10_termHolds 60 = .ok (.iconst 2, 1) := by decide +kernel
theorem dX10_termHolds_61 : decode cX10_termHolds 61 = .ok (.if_icmp .ne 21, 3) := by decide +kernel
theorem dX10_termHolds_64 : decode cX10_termHolds 64 = .ok (.iload_n 2, 1) := by decide +kernel
theorem dX10_termHolds_65 : decode cX10_termHolds 65 = .ok (.aload_n 0, 1) := by decide +kernel
theorem dX10_termHolds_66 : decode cX10_termHolds 66 = .ok (.getfield 49, 3) := by decide +kernel
theorem dX10_termHolds_69 : decode cX10_termHolds 69 = .ok (.iload_n 1, 1) := by decide +kernel
theorem dX10_termHolds_70 : decode cX10_termHolds 70 = .ok (.iaload, 1) := by decide +kernel
theorem dX10_termHolds_71 : decode cX10_termHolds 71 = .ok (.if_icmp .ge 7, 3) := by decide +kernel
theorem dX10_termHolds_74 : decode cX10_termHolds 74 = .ok (.iconst 1, 1) := by decide +kernel
theorem dX10_termHolds_75 : decode cX10_termHolds 75 = .ok (.goto 50, 3) := by decide +kernel
theorem dX10_termHolds_78 : decode cX10_termHolds 78 = .ok (.iconst 0, 1) := by decide +kernel
theorem dX10_termHolds_79 : decode cX10_termHolds 79 = .ok (.goto 46, 3) := by decide +kernel
theorem dX10_termHolds_82 : decode cX10_termHolds 82 = .ok (.aload_n 0, 1) := by decide +kernel
theorem dX10_termHolds_83 : decode cX10_termHolds 83 = .ok (.getfield 43, 3) := by decide +kernel
theorem dX10_termHolds_86 : decode cX10_termHolds 86 = .ok (.iload_n 1, 1) := by decide +kernel
theorem dX10_termHolds_87 : decode cX10_termHolds 87 = .ok (.iaload, 1) := by decide +kernel
theorem dX10_termHolds_88 : decode cX10_termHolds 88 = .ok (.iconst 3, 1) := by decide +kernel
theorem dX10_termHolds_89 : decode cX10_termHolds 89 = .ok (.if_icmp .ne 21, 3) := by decide +kernel
theorem dX10_termHolds_92 : decode cX10_termHolds 92 = .ok (.iload_n 2, 1) := by decide +kernel
theorem dX10_termHolds_93 : decode cX10_termHolds 93 = .ok (.aload_n 0, 1) := by decide +kernel
theorem dX10_termHolds_94 : decode cX10_termHolds 94 = .ok (.getfield 49, 3) := by decide +kernel
theorem dX10_termHolds_97 : decode cX10_termHolds 97 = .ok (.iload_n 1, 1) := by decide +kernel
theorem dX10_termHolds_98 : decode cX10_termHolds 98 = .ok (.iaload, 1) := by decide +kernel
theorem dX10_termHolds_99 : decode cX10_termHolds 99 = .ok (.if_icmp .le 7, 3) := by decide +kernel
theorem dX10_termHolds_102 : decode cX10_termHolds 102 = .ok (.iconst 1, 1) := by decide +kernel
theorem dX10_termHolds_103 : decode cX10_termHolds 103 = .ok (.goto 22, 3) := by decide +kernel
theorem dX10_termHolds_106 : decode cX10_termHolds 106 = .ok (.iconst 0, 1) := by decide +kernel
theorem dX10_termHolds_107 : decode cX10_termHolds 107 = .ok (.goto 18, 3) := by decide +kernel
theorem dX10_termHolds_110 : decode cX10_termHolds 110 = .ok (.iload_n 2, 1) := by decide +kernel
theorem dX10_termHolds_111 : decode cX10_termHolds 111 = .ok (.aload_n 0, 1) := by decide +kernel
theorem dX10_termHolds_112 : decode cX10_termHolds 112 = .ok (.getfield 49, 3) := by decide +kernel
theorem dX10_termHolds_115 : decode cX10_termHolds 115 = .ok (.iload_n 1, 1) := by decide +kernel
theorem dX10_termHolds_116 : decode cX10_termHolds 116 = .ok (.iaload, 1) := by decide +kernel
theorem dX10_termHolds_117 : decode cX10_termHolds 117 = .ok (.if_icmp .ne 7, 3) := by decide +kernel
theorem dX10_termHolds_120 : decode cX10_termHolds 120 = .ok (.iconst 1, 1) := by decide +kernel
theorem dX10_termHolds_121 : decode cX10_termHolds 121 = .ok (.goto 4, 3) := by decide +kernel
theorem dX10_termHolds_124 : decode cX10_termHolds 124 = .ok (.iconst 0, 1) := by decide +kernel
theorem dX10_termHolds_125 : decode cX10_termHolds 125 = .ok (.ireturn, 1) := by decide +kernel
theorem dX10_holds_0 : decode cX10_holds 0 = .ok (.iconst 1, 1) := by decide +kernel
theorem dX10_holds_1 : decode cX10_holds 1 = .ok (.istore_n 2, 1) := by decide +kernel
theorem dX10_holds_2 : decode cX10_holds 2 = .ok (.aload_n 0, 1) := by decide +kernel
theorem dX10_holds_3 : decode cX10_holds 3 = .ok (.getfield 37, 3) := by decide +kernel
theorem dX10_holds_6 : decode cX10_holds 6 = .ok (.iload_n 1, 1) := by decide +kernel
theorem dX10_holds_7 : decode cX10_holds 7 = .ok (.iaload, 1) := by decide +kernel
theorem dX10_holds_8 : decode cX10_holds 8 = .ok (.istore_n 3, 1) := by decide +kernel
theorem dX10_holds_9 : decode cX10_holds 9 = .ok (.iload_n 3, 1) := by decide +kernel
theorem dX10_holds_10 : decode cX10_holds 10 = .ok (.aload_n 0, 1) := by decide +kernel
theorem dX10_holds_11 : decode cX10_holds 11 = .ok (.getfield 40, 3) := by decide +kernel
theorem dX10_holds_14 : decode cX10_holds 14 = .ok (.iload_n 1, 1) := by decide +kernel
theorem dX10_holds_15 : decode cX10_holds 15 = .ok (.iaload, 1) := by decide +kernel
theorem dX10_holds_16 : decode cX10_holds 16 = .ok (.if_icmp .ge 27, 3) := by decide +kernel
theorem dX10_holds_19 : decode cX10_holds 19 = .ok (.iload_n 2, 1) := by decide +kernel
theorem dX10_holds_20 : decode cX10_holds 20 = .ok (.ifCond .eq 15, 3) := by decide +kernel
theorem dX10_holds_23 : decode cX10_holds 23 = .ok (.aload_n 0, 1) := by decide +kernel
theorem dX10_holds_24 : decode cX10_holds 24 = .ok (.iload_n 3, 1) := by decide +kernel
theorem dX10_holds_25 : decode cX10_holds 25 = .ok (.invokevirtual 286, 3) := by decide +kernel
theorem dX10_holds_28 : decode cX10_holds 28 = .ok (.ifCond .eq 7, 3) := by decide +kernel
theorem dX10_holds_31 : decode cX10_holds 31 = .ok (.iconst 1, 1) := by decide +kernel
theorem dX10_holds_32 : decode cX10_holds 32 = .ok (.goto 4, 3) := by decide +kernel
theorem dX10_holds_35 : decode cX10_holds 35 = .ok (.iconst 0, 1) := by decide +kernel
theorem dX10_holds_36 : decode cX10_holds 36 = .ok (.istore_n 2, 1) := by decide +kernel
theorem dX10_holds_37 : decode cX10_holds 37 = .ok (.iinc 3 1, 3) := by decide +kernel
theorem dX10_holds_40 : decode cX10_holds 40 = .ok (.goto (-31), 3) := by decide +kernel
theorem dX10_holds_43 : decode cX10_holds 43 = .ok (.iload_n 2, 1) := by decide +kernel
theorem dX10_holds_44 : decode cX10_holds 44 = .ok (.ireturn, 1) := by decide +kernel
theorem dX10_enters_0 : decode cX10_enters 0 = .ok (.aload_n 0, 1) := by decide +kernel
theorem dX10_enters_1 : decode cX10_enters 1 = .ok (.getfield 86, 3) := by decide +kernel
theorem dX10_enters_4 : decode cX10_enters 4 = .ok (.iconst 2, 1) := by decide +kernel
theorem dX10_enters_5 : decode cX10_enters 5 = .ok (.iload_n 1, 1) := by decide +kernel
theorem dX10_enters_6 : decode cX10_enters 6 = .ok (.iastore, 1) := by decide +kernel
theorem dX10_enters_7 : decode cX10_enters 7 = .ok (.aload_n 0, 1) := by decide +kernel
theorem dX10_enters_8 : decode cX10_enters 8 = .ok (.getfield 86, 3) := by decide +kernel
theorem dX10_enters_11 : decode cX10_enters 11 = .ok (.iconst 3, 1) := by decide +kernel
theorem dX10_enters_12 : decode cX10_enters 12 = .ok (.aload_n 0, 1) := by decide +kernel
theorem dX10_enters_13 : decode cX10_enters 13 = .ok (.getfield 70, 3) := by decide +kernel
theorem dX10_enters_16 : decode cX10_enters 16 = .ok (.iload_n 1, 1) := by decide +kernel
theorem dX10_enters_17 : decode cX10_enters 17 = .ok (.baload, 1) := by decide +kernel
theorem dX10_enters_18 : decode cX10_enters 18 = .ok (.ifCond .eq 7, 3) := by decide +kernel
theorem dX10_enters_21 : decode cX10_enters 21 = .ok (.iload_n 1, 1) := by decide +kernel
theorem dX10_enters_22 : decode cX10_enters 22 = .ok (.goto 9, 3) := by decide +kernel
theorem dX10_enters_25 : decode cX10_enters 25 = .ok (.aload_n 0, 1) := by decide +kernel
theorem dX10_enters_26 : decode cX10_enters 26 = .ok (.getfield 86, 3) := by decide +kernel
theorem dX10_enters_29 : decode cX10_enters 29 = .ok (.iconst 3, 1) := by decide +kernel
theorem dX10_enters_30 : decode cX10_enters 30 = .ok (.iaload, 1) := by decide +kernel
theorem dX10_enters_31 : decode cX10_enters 31 = .ok (.iastore, 1) := by decide +kernel
theorem dX10_enters_32 : decode cX10_enters 32 = .ok (.aload_n 0, 1) := by decide +kernel
theorem dX10_enters_33 : decode cX10_enters 33 = .ok (.aload_n 0, 1) := by decide +kernel
theorem dX10_enters_34 : decode cX10_enters 34 = .ok (.getfield 74, 3) := by decide +kernel
theorem dX10_enters_37 : decode cX10_enters 37 = .ok (.iload_n 1, 1) := by decide +kernel
theorem dX10_enters_38 : decode cX10_enters 38 = .ok (.iaload, 1) := by decide +kernel
theorem dX10_enters_39 : decode cX10_enters 39 = .ok (.putfield 289, 3) := by decide +kernel
theorem dX10_enters_42 : decode cX10_enters 42 = .ok (.aload_n 0, 1) := by decide +kernel
theorem dX10_enters_43 : decode cX10_enters 43 = .ok (.aload_n 0, 1) := by decide +kernel
theorem dX10_enters_44 : decode cX10_enters 44 = .ok (.getfield 58, 3) := by decide +kernel
theorem dX10_enters_47 : decode cX10_enters 47 = .ok (.aload_n 0, 1) := by decide +kernel
theorem dX10_enters_48 : decode cX10_enters 48 = .ok (.getfield 289, 3) := by decide +kernel
theorem dX10_enters_51 : decode cX10_enters 51 = .ok (.iaload, 1) := by decide +kernel
theorem dX10_enters_52 : decode cX10_enters 52 = .ok (.putfield 292, 3) := by decide +kernel
theorem dX10_enters_55 : decode cX10_enters 55 = .ok (.aload_n 0, 1) := by decide +kernel
theorem dX10_enters_56 : decode cX10_enters 56 = .ok (.getfield 98, 3) := by decide +kernel
theorem dX10_enters_59 : decode cX10_enters 59 = .ok (.iload_n 1, 1) := by decide +kernel
theorem dX10_enters_60 : decode cX10_enters 60 = .ok (.aload_n 0, 1) := by decide +kernel
theorem dX10_enters_61 : decode cX10_enters 61 = .ok (.getfield 98, 3) := by decide +kernel
theorem dX10_enters_64 : decode cX10_enters 64 = .ok (.iload_n 1, 1) := by decide +kernel
theorem dX10_enters_65 : decode cX10_enters 65 = .ok (.baload, 1) := by decide +kernel
theorem dX10_enters_66 : decode cX10_enters 66 = .ok (.ifCond .ne 10, 3) := by decide +kernel
theorem dX10_enters_69 : decode cX10_enters 69 = .ok (.aload_n 0, 1) := by decide +kernel
theorem dX10_enters_70 : decode cX10_enters 70 = .ok (.getfield 295, 3) := by decide +kernel
theorem dX10_enters_73 : decode cX10_enters 73 = .ok (.ifCond .eq 7, 3) := by decide +kernel
theorem dX10_enters_76 : decode cX10_enters 76 = .ok (.iconst 1, 1) := by decide +kernel
theorem dX10_enters_77 : decode cX10_enters 77 = .ok (.goto 4, 3) := by decide +kernel
theorem dX10_enters_80 : decode cX10_enters 80 = .ok (.iconst 0, 1) := by decide +kernel
theorem dX10_enters_81 : decode cX10_enters 81 = .ok (.bastore, 1) := by decide +kernel
theorem dX10_enters_82 : decode cX10_enters 82 = .ok (.return_, 1) := by decide +kernel
theorem dX10_goes_0 : decode cX10_goes 0 = .ok (.aload_n 0, 1) := by decide +kernel
theorem dX10_goes_1 : decode cX10_goes 1 = .ok (.getfield 86, 3) := by decide +kernel
theorem dX10_goes_4 : decode cX10_goes 4 = .ok (.bipush 9, 2) := by decide +kernel
theorem dX10_goes_6 : decode cX10_goes 6 = .ok (.iconst 0, 1) := by decide +kernel
theorem dX10_goes_7 : decode cX10_goes 7 = .ok (.iastore, 1) := by decide +kernel
theorem dX10_goes_8 : decode cX10_goes 8 = .ok (.aload_n 0, 1) := by decide +kernel
theorem dX10_goes_9 : decode cX10_goes 9 = .ok (.iload_n 1, 1) := by decide +kernel
theorem dX10_goes_10 : decode cX10_goes 10 = .ok (.invokevirtual 298, 3) := by decide +kernel
theorem dX10_goes_13 : decode cX10_goes 13 = .ok (.return_, 1) := by decide +kernel
theorem dX10_says_0 : decode cX10_says 0 = .ok (.bipush 19, 2) := by decide +kernel
theorem dX10_says_2 : decode cX10_says 2 = .ok (.istore_n 2, 1) := by decide +kernel
theorem dX10_says_3 : decode cX10_says 3 = .ok (.iload_n 2, 1) := by decide +kernel
theorem dX10_says_4 : decode cX10_says 4 = .ok (.ifCond .le 29, 3) := by decide +kernel
theorem dX10_says_7 : decode cX10_says 7 = .ok (.aload_n 0, 1) := by decide +kernel
theorem dX10_says_8 : decode cX10_says 8 = .ok (.getfield 86, 3) := by decide +kernel
theorem dX10_says_11 : decode cX10_says 11 = .ok (.bipush 11, 2) := by decide +kernel
theorem dX10_says_13 : decode cX10_says 13 = .ok (.iload_n 2, 1) := by decide +kernel
theorem dX10_says_14 : decode cX10_says 14 = .ok (.iadd, 1) := by decide +kernel
theorem dX10_says_15 : decode cX10_says 15 = .ok (.aload_n 0, 1) := by decide +kernel
theorem dX10_says_16 : decode cX10_says 16 = .ok (.getfield 86, 3) := by decide +kernel
theorem dX10_says_19 : decode cX10_says 19 = .ok (.bipush 11, 2) := by decide +kernel
theorem dX10_says_21 : decode cX10_says 21 = .ok (.iload_n 2, 1) := by decide +kernel
theorem dX10_says_22 : decode cX10_says 22 = .ok (.iadd, 1) := by decide +kernel
theorem dX10_says_23 : decode cX10_says 23 = .ok (.iconst 1, 1) := by decide +kernel
theorem dX10_says_24 : decode cX10_says 24 = .ok (.isub, 1) := by decide +kernel
theorem dX10_says_25 : decode cX10_says 25 = .ok (.iaload, 1) := by decide +kernel
theorem dX10_says_26 : decode cX10_says 26 = .ok (.iastore, 1) := by decide +kernel
theorem dX10_says_27 : decode cX10_says 27 = .ok (.iinc 2 (-1), 3) := by decide +kernel
theorem dX10_says_30 : decode cX10_says 30 = .ok (.goto (-27), 3) := by decide +kernel
theorem dX10_says_33 : decode cX10_says 33 = .ok (.aload_n 0, 1) := by decide +kernel
theorem dX10_says_34 : decode cX10_says 34 = .ok (.getfield 86, 3) := by decide +kernel
theorem dX10_says_37 : decode cX10_says 37 = .ok (.bipush 11, 2) := by decide +kernel
theorem dX10_says_39 : decode cX10_says 39 = .ok (.iload_n 1, 1) := by decide +kernel
theorem dX10_says_40 : decode cX10_says 40 = .ok (.iastore, 1) := by decide +kernel
theorem dX10_says_41 : decode cX10_says 41 = .ok (.aload_n 0, 1) := by decide +kernel
theorem dX10_says_42 : decode cX10_says 42 = .ok (.getfield 86, 3) := by decide +kernel
theorem dX10_says_45 : decode cX10_says 45 = .ok (.bipush 10, 2) := by decide +kernel
theorem dX10_says_47 : decode cX10_says 47 = .ok (.dup2, 1) := by decide +kernel
theorem dX10_says_48 : decode cX10_says 48 = .ok (.iaload, 1) := by decide +kernel
theorem dX10_says_49 : decode cX10_says 49 = .ok (.iconst 1, 1) := by decide +kernel
theorem dX10_says_50 : decode cX10_says 50 = .ok (.iadd, 1) := by decide +kernel
theorem dX10_says_51 : decode cX10_says 51 = .ok (.iastore, 1) := by decide +kernel
theorem dX10_says_52 : decode cX10_says 52 = .ok (.aload_n 0, 1) := by decide +kernel
theorem dX10_says_53 : decode cX10_says 53 = .ok (.getfield 95, 3) := by decide +kernel
theorem dX10_says_56 : decode cX10_says 56 = .ok (.iload_n 1, 1) := by decide +kernel
theorem dX10_says_57 : decode cX10_says 57 = .ok (.aload_n 0, 1) := by decide +kernel
theorem dX10_says_58 : decode cX10_says 58 = .ok (.getfield 95, 3) := by decide +kernel
theorem dX10_says_61 : decode cX10_says 61 = .ok (.iload_n 1, 1) := by decide +kernel
theorem dX10_says_62 : decode cX10_says 62 = .ok (.baload, 1) := by decide +kernel
theorem dX10_says_63 : decode cX10_says 63 = .ok (.ifCond .ne 10, 3) := by decide +kernel
theorem dX10_says_66 : decode cX10_says 66 = .ok (.aload_n 0, 1) := by decide +kernel
theorem dX10_says_67 : decode cX10_says 67 = .ok (.getfield 295, 3) := by decide +kernel
theorem dX10_says_70 : decode cX10_says 70 = .ok (.ifCond .eq 7, 3) := by decide +kernel
theorem dX10_says_73 : decode cX10_says 73 = .ok (.iconst 1, 1) := by decide +kernel
theorem dX10_says_74 : decode cX10_says 74 = .ok (.goto 4, 3) := by decide +kernel
theorem dX10_says_77 : decode cX10_says 77 = .ok (.iconst 0, 1) := by decide +kernel
theorem dX10_says_78 : decode cX10_says 78 = .ok (.bastore, 1) := by decide +kernel
theorem dX10_says_79 : decode cX10_says 79 = .ok (.return_, 1) := by decide +kernel
theorem dX10_ends_0 : decode cX10_ends 0 = .ok (.aload_n 0, 1) := by decide +kernel
theorem dX10_ends_1 : decode cX10_ends 1 = .ok (.getfield 86, 3) := by decide +kernel
theorem dX10_ends_4 : decode cX10_ends 4 = .ok (.iconst 0, 1) := by decide +kernel
theorem dX10_ends_5 : decode cX10_ends 5 = .ok (.iload_n 1, 1) := by decide +kernel
theorem dX10_ends_6 : decode cX10_ends 6 = .ok (.iastore, 1) := by decide +kernel
theorem dX10_ends_7 : decode cX10_ends 7 = .ok (.aload_n 0, 1) := by decide +kernel
theorem dX10_ends_8 : decode cX10_ends 8 = .ok (.getfield 86, 3) := by decide +kernel
theorem dX10_ends_11 : decode cX10_ends 11 = .ok (.bipush 9, 2) := by decide +kernel
theorem dX10_ends_13 : decode cX10_ends 13 = .ok (.iconst 0, 1) := by decide +kernel
theorem dX10_ends_14 : decode cX10_ends 14 = .ok (.iastore, 1) := by decide +kernel
theorem dX10_ends_15 : decode cX10_ends 15 = .ok (.return_, 1) := by decide +kernel
theorem dX10_leavesBlock_0 : decode cX10_leavesBlock 0 = .ok (.aload_n 0, 1) := by decide +kernel
theorem dX10_leavesBlock_1 : decode cX10_leavesBlock 1 = .ok (.getfield 52, 3) := by decide +kernel
theorem dX10_leavesBlock_4 : decode cX10_leavesBlock 4 = .ok (.aload_n 0, 1) := by decide +kernel
theorem dX10_leavesBlock_5 : decode cX10_leavesBlock 5 = .ok (.getfield 289, 3) := by decide +kernel
theorem dX10_leavesBlock_8 : decode cX10_leavesBlock 8 = .ok (.iaload, 1) := by decide +kernel
theorem dX10_leavesBlock_9 : decode cX10_leavesBlock 9 = .ok (.iconst 2, 1) := by decide +kernel
theorem dX10_leavesBlock_10 : decode cX10_leavesBlock 10 = .ok (.if_icmp .ne 35, 3) := by decide +kernel
theorem dX10_leavesBlock_13 : decode cX10_leavesBlock 13 = .ok (.aload_n 0, 1) := by decide +kernel
theorem dX10_leavesBlock_14 : decode cX10_leavesBlock 14 = .ok (.getfield 55, 3) := by decide +kernel
theorem dX10_leavesBlock_17 : decode cX10_leavesBlock 17 = .ok (.aload_n 0, 1) := by decide +kernel
theorem dX10_leavesBlock_18 : decode cX10_leavesBlock 18 = .ok (.getfield 289, 3) := by decide +kernel
theorem dX10_leavesBlock_21 : decode cX10_leavesBlock 21 = .ok (.iaload, 1) := by decide +kernel
theorem dX10_leavesBlock_22 : decode cX10_leavesBlock 22 = .ok (.istore_n 1, 1) := by decide +kernel
theorem dX10_leavesBlock_23 : decode cX10_leavesBlock 23 = .ok (.aload_n 0, 1) := by decide +kernel
theorem dX10_leavesBlock_24 : decode cX10_leavesBlock 24 = .ok (.aload_n 0, 1) := by decide +kernel
theorem dX10_leavesBlock_25 : decode cX10_leavesBlock 25 = .ok (.getfield 25, 3) := by decide +kernel
theorem dX10_leavesBlock_28 : decode cX10_leavesBlock 28 = .ok (.iload_n 1, 1) := by decide +kernel
theorem dX10_leavesBlock_29 : decode cX10_leavesBlock 29 = .ok (.iaload, 1) := by decide +kernel
theorem dX10_leavesBlock_30 : decode cX10_leavesBlock 30 = .ok (.putfield 292, 3) := by decide +kernel
theorem dX10_leavesBlock_33 : decode cX10_leavesBlock 33 = .ok (.aload_n 0, 1) := by decide +kernel
theorem dX10_leavesBlock_34 : decode cX10_leavesBlock 34 = .ok (.aload_n 0, 1) := by decide +kernel
theorem dX10_leavesBlock_35 : decode cX10_leavesBlock 35 = .ok (.getfield 28, 3) := by decide +kernel
theorem dX10_leavesBlock_38 : decode cX10_leavesBlock 38 = .ok (.iload_n 1, 1) := by decide +kernel
theorem dX10_leavesBlock_39 : decode cX10_leavesBlock 39 = .ok (.iaload, 1) := by decide +kernel
theorem dX10_leavesBlock_40 : decode cX10_leavesBlock 40 = .ok (.putfield 289, 3) := by decide +kernel
theorem dX10_leavesBlock_43 : decode cX10_leavesBlock 43 = .ok (.iconst 1, 1) := by decide +kernel
theorem dX10_leavesBlock_44 : decode cX10_leavesBlock 44 = .ok (.ireturn, 1) := by decide +kernel
theorem dX10_leavesBlock_45 : decode cX10_leavesBlock 45 = .ok (.aload_n 0, 1) := by decide +kernel
theorem dX10_leavesBlock_46 : decode cX10_leavesBlock 46 = .ok (.getfield 86, 3) := by decide +kernel
theorem dX10_leavesBlock_49 : decode cX10_leavesBlock 49 = .ok (.bipush 9, 2) := by decide +kernel
theorem dX10_leavesBlock_51 : decode cX10_leavesBlock 51 = .ok (.iaload, 1) := by decide +kernel
theorem dX10_leavesBlock_52 : decode cX10_leavesBlock 52 = .ok (.ifCond .eq 12, 3) := by decide +kernel
theorem dX10_leavesBlock_55 : decode cX10_leavesBlock 55 = .ok (.aload_n 0, 1) := by decide +kernel
theorem dX10_leavesBlock_56 : decode cX10_leavesBlock 56 = .ok (.getfield 86, 3) := by decide +kernel
theorem dX10_leavesBlock_59 : decode cX10_leavesBlock 59 = .ok (.iconst 0, 1) := by decide +kernel
theorem dX10_leavesBlock_60 : decode cX10_leavesBlock 60 = .ok (.iconst 1, 1) := by decide +kernel
theorem dX10_leavesBlock_61 : decode cX10_leavesBlock 61 = .ok (.iastore, 1) := by decide +kernel
theorem dX10_leavesBlock_62 : decode cX10_leavesBlock 62 = .ok (.iconst 0, 1) := by decide +kernel
theorem dX10_leavesBlock_63 : decode cX10_leavesBlock 63 = .ok (.ireturn, 1) := by decide +kernel
theorem dX10_leavesBlock_64 : decode cX10_leavesBlock 64 = .ok (.aload_n 0, 1) := by decide +kernel
theorem dX10_leavesBlock_65 : decode cX10_leavesBlock 65 = .ok (.getfield 52, 3) := by decide +kernel
theorem dX10_leavesBlock_68 : decode cX10_leavesBlock 68 = .ok (.aload_n 0, 1) := by decide +kernel
theorem dX10_leavesBlock_69 : decode cX10_leavesBlock 69 = .ok (.getfield 289, 3) := by decide +kernel
theorem dX10_leavesBlock_72 : decode cX10_leavesBlock 72 = .ok (.iaload, 1) := by decide +kernel
theorem dX10_leavesBlock_73 : decode cX10_leavesBlock 73 = .ok (.iconst 1, 1) := by decide +kernel
theorem dX10_leavesBlock_74 : decode cX10_leavesBlock 74 = .ok (.if_icmp .ne 15, 3) := by decide +kernel
theorem dX10_leavesBlock_77 : decode cX10_leavesBlock 77 = .ok (.aload_n 0, 1) := by decide +kernel
theorem dX10_leavesBlock_78 : decode cX10_leavesBlock 78 = .ok (.aload_n 0, 1) := by decide +kernel
theorem dX10_leavesBlock_79 : decode cX10_leavesBlock 79 = .ok (.getfield 86, 3) := by decide +kernel
theorem dX10_leavesBlock_82 : decode cX10_leavesBlock 82 = .ok (.iconst 2, 1) := by decide +kernel
theorem dX10_leavesBlock_83 : decode cX10_leavesBlock 83 = .ok (.iaload, 1) := by decide +kernel
theorem dX10_leavesBlock_84 : decode cX10_leavesBlock 84 = .ok (.invokevirtual 298, 3) := by decide +kernel
theorem dX10_leavesBlock_87 : decode cX10_leavesBlock 87 = .ok (.iconst 1, 1) := by decide +kernel
theorem dX10_leavesBlock_88 : decode cX10_leavesBlock 88 = .ok (.ireturn, 1) := by decide +kernel
theorem dX10_leavesBlock_89 : decode cX10_leavesBlock 89 = .ok (.aload_n 0, 1) := by decide +kernel
theorem dX10_leavesBlock_90 : decode cX10_leavesBlock 90 = .ok (.iconst 3, 1) := by decide +kernel
theorem dX10_leavesBlock_91 : decode cX10_leavesBlock 91 = .ok (.invokevirtual 301, 3) := by decide +kernel
theorem dX10_leavesBlock_94 : decode cX10_leavesBlock 94 = .ok (.iconst 0, 1) := by decide +kernel
theorem dX10_leavesBlock_95 : decode cX10_leavesBlock 95 = .ok (.ireturn, 1) := by decide +kernel
theorem dX10_changesMeter_0 : decode cX10_changesMeter 0 = .ok (.iconst 5, 1) := by decide +kernel
theorem dX10_changesMeter_1 : decode cX10_changesMeter 1 = .ok (.aload_n 0, 1) := by decide +kernel
theorem dX10_changesMeter_2 : decode cX10_changesMeter 2 = .ok (.getfield 19, 3) := by decide +kernel
theorem dX10_changesMeter_5 : decode cX10_changesMeter 5 = .ok (.iload_n 1, 1) := by decide +kernel
theorem dX10_changesMeter_6 : decode cX10_changesMeter 6 = .ok (.iaload, 1) := by decide +kernel
theorem dX10_changesMeter_7 : decode cX10_changesMeter 7 = .ok (.iadd, 1) := by decide +kernel
theorem dX10_changesMeter_8 : decode cX10_changesMeter 8 = .ok (.istore_n 2, 1) := by decide +kernel
theorem dX10_changesMeter_9 : decode cX10_changesMeter 9 = .ok (.aload_n 0, 1) := by decide +kernel
theorem dX10_changesMeter_10 : decode cX10_changesMeter 10 = .ok (.getfield 31, 3) := by decide +kernel
theorem dX10_changesMeter_13 : decode cX10_changesMeter 13 = .ok (.iload_n 1, 1) := by decide +kernel
theorem dX10_changesMeter_14 : decode cX10_changesMeter 14 = .ok (.iaload, 1) := by decide +kernel
theorem dX10_changesMeter_15 : decode cX10_changesMeter 15 = .ok (.bipush 61, 2) := by decide +kernel
theorem dX10_changesMeter_17 : decode cX10_changesMeter 17 = .ok (.if_icmp .ne 12, 3) := by decide +kernel
theorem dX10_changesMeter_20 : decode cX10_changesMeter 20 = .ok (.aload_n 0, 1) := by decide +kernel
theorem dX10_changesMeter_21 : decode cX10_changesMeter 21 = .ok (.getfield 22, 3) := by decide +kernel
theorem dX10_changesMeter_24 : decode cX10_changesMeter 24 = .ok (.iload_n 1, 1) := by decide +kernel
theorem dX10_changesMeter_25 : decode cX10_changesMeter 25 = .ok (.iaload, 1) := by decide +kernel
theorem dX10_changesMeter_26 : decode cX10_changesMeter 26 = .ok (.goto 43, 3) := by decide +kernel
theorem dX10_changesMeter_29 : decode cX10_changesMeter 29 = .ok (.aload_n 0, 1) := by decide +kernel
theorem dX10_changesMeter_30 : decode cX10_changesMeter 30 = .ok (.getfield 31, 3) := by decide +kernel
theorem dX10_changesMeter_33 : decode cX10_changesMeter 33 = .ok (.iload_n 1, 1) := by decide +kernel
theorem dX10_changesMeter_34 : decode cX10_changesMeter 34 = .ok (.iaload, 1) := by decide +kernel
theorem dX10_changesMeter_35 : decode cX10_changesMeter 35 = .ok (.bipush 43, 2) := by decide +kernel
theorem dX10_changesMeter_37 : decode cX10_changesMeter 37 = .ok (.if_icmp .ne 19, 3) := by decide +kernel
theorem dX10_changesMeter_40 : decode cX10_changesMeter 40 = .ok (.aload_n 0, 1) := by decide +kernel
theorem dX10_changesMeter_41 : decode cX10_changesMeter 41 = .ok (.getfield 86, 3) := by decide +kernel
theorem dX10_changesMeter_44 : decode cX10_changesMeter 44 = .ok (.iload_n 2, 1) := by decide +kernel
theorem dX10_changesMeter_45 : decode cX10_changesMeter 45 = .ok (.iaload, 1) := by decide +kernel
theorem dX10_changesMeter_46 : decode cX10_changesMeter 46 = .ok (.aload_n 0, 1) := by decide +kernel
theorem dX10_changesMeter_47 : decode cX10_changesMeter 47 = .ok (.getfield 22, 3) := by decide +kernel
theorem dX10_changesMeter_50 : decode cX10_changesMeter 50 = .ok (.iload_n 1, 1) := by decide +kernel
theorem dX10_changesMeter_51 : decode cX10_changesMeter 51 = .ok (.iaload, 1) := by decide +kernel
theorem dX10_changesMeter_52 : decode cX10_changesMeter 52 = .ok (.iadd, 1) := by decide +kernel
theorem dX10_changesMeter_53 : decode cX10_changesMeter 53 = .ok (.goto 16, 3) := by decide +kernel
theorem dX10_changesMeter_56 : decode cX10_changesMeter 56 = .ok (.aload_n 0, 1) := by decide +kernel
theorem dX10_changesMeter_57 : decode cX10_changesMeter 57 = .ok (.getfield 86, 3) := by decide +kernel
theorem dX10_changesMeter_60 : decode cX10_changesMeter 60 = .ok (.iload_n 2, 1) := by decide +kernel
theorem dX10_changesMeter_61 : decode cX10_changesMeter 61 = .ok (.iaload, 1) := by decide +kernel
theorem dX10_changesMeter_62 : decode cX10_changesMeter 62 = .ok (.aload_n 0, 1) := by decide +kernel
theorem dX10_changesMeter_63 : decode cX10_changesMeter 63 = .ok (.getfield 22, 3) := by decide +kernel
theorem dX10_changesMeter_66 : decode cX10_changesMeter 66 = .ok (.iload_n 1, 1) := by decide +kernel
theorem dX10_changesMeter_67 : decode cX10_changesMeter 67 = .ok (.iaload, 1) := by decide +kernel
theorem dX10_changesMeter_68 : decode cX10_changesMeter 68 = .ok (.isub, 1) := by decide +kernel
theorem dX10_changesMeter_69 : decode cX10_changesMeter 69 = .ok (.istore_n 3, 1) := by decide +kernel
theorem dX10_changesMeter_70 : decode cX10_changesMeter 70 = .ok (.aload_n 0, 1) := by decide +kernel
theorem dX10_changesMeter_71 : decode cX10_changesMeter 71 = .ok (.getfield 86, 3) := by decide +kernel
theorem dX10_changesMeter_74 : decode cX10_changesMeter 74 = .ok (.iload_n 2, 1) := by decide +kernel
theorem dX10_changesMeter_75 : decode cX10_changesMeter 75 = .ok (.iload_n 3, 1) := by decide +kernel
theorem dX10_changesMeter_76 : decode cX10_changesMeter 76 = .ok (.bipush 9, 2) := by decide +kernel
theorem dX10_changesMeter_78 : decode cX10_changesMeter 78 = .ok (.if_icmp .le 8, 3) := by decide +kernel
theorem dX10_changesMeter_81 : decode cX10_changesMeter 81 = .ok (.bipush 9, 2) := by decide +kernel
theorem dX10_changesMeter_83 : decode cX10_changesMeter 83 = .ok (.goto 12, 3) := by decide +kernel
theorem dX10_changesMeter_86 : decode cX10_changesMeter 86 = .ok (.iload_n 3, 1) := by decide +kernel
theorem dX10_changesMeter_87 : decode cX10_changesMeter 87 = .ok (.ifCond .ge 7, 3) := by decide +kernel
theorem dX10_changesMeter_90 : decode cX10_changesMeter 90 = .ok (.iconst 0, 1) := by decide +kernel
theorem dX10_changesMeter_91 : decode cX10_changesMeter 91 = .ok (.goto 4, 3) := by decide +kernel
theorem dX10_changesMeter_94 : decode cX10_changesMeter 94 = .ok (.iload_n 3, 1) := by decide +kernel
theorem dX10_changesMeter_95 : decode cX10_changesMeter 95 = .ok (.iastore, 1) := by decide +kernel
theorem dX10_changesMeter_96 : decode cX10_changesMeter 96 = .ok (.return_, 1) := by decide +kernel
theorem dX10_executes_0 : decode cX10_executes 0 = .ok (.aload_n 0, 1) := by decide +kernel
theorem dX10_executes_1 : decode cX10_executes 1 = .ok (.getfield 292, 3) := by decide +kernel
theorem dX10_executes_4 : decode cX10_executes 4 = .ok (.istore_n 1, 1) := by decide +kernel
theorem dX10_executes_5 : decode cX10_executes 5 = .ok (.aload_n 0, 1) := by decide +kernel
theorem dX10_executes_6 : decode cX10_executes 6 = .ok (.aload_n 0, 1) := by decide +kernel
theorem dX10_executes_7 : decode cX10_executes 7 = .ok (.getfield 25, 3) := by decide +kernel
theorem dX10_executes_10 : decode cX10_executes 10 = .ok (.iload_n 1, 1) := by decide +kernel
theorem dX10_executes_11 : decode cX10_executes 11 = .ok (.iaload, 1) := by decide +kernel
theorem dX10_executes_12 : decode cX10_executes 12 = .ok (.putfield 292, 3) := by decide +kernel
theorem dX10_executes_15 : decode cX10_executes 15 = .ok (.aload_n 0, 1) := by decide +kernel
theorem dX10_executes_16 : decode cX10_executes 16 = .ok (.getfield 16, 3) := by decide +kernel
theorem dX10_executes_19 : decode cX10_executes 19 = .ok (.iload_n 1, 1) := by decide +kernel
theorem dX10_executes_20 : decode cX10_executes 20 = .ok (.iaload, 1) := by decide +kernel
theorem dX10_executes_21 : decode cX10_executes 21 = .ok (.tableswitch 282 0 6 #[43, 55, 108, 115, 161, 241, 253], 43) := by decide +kernel
theorem dX10_executes_64 : decode cX10_executes 64 = .ok (.aload_n 0, 1) := by decide +kernel
theorem dX10_executes_65 : decode cX10_executes 65 = .ok (.aload_n 0, 1) := by decide +kernel
theorem dX10_executes_66 : decode cX10_executes 66 = .ok (.getfield 19, 3) := by decide +kernel
theorem dX10_executes_69 : decode cX10_executes 69 = .ok (.iload_n 1, 1) := by decide +kernel
theorem dX10_executes_70 : decode cX10_executes 70 = .ok (.iaload, 1) := by decide +kernel
theorem dX10_executes_71 : decode cX10_executes 71 = .ok (.invokevirtual 304, 3) := by decide +kernel
theorem dX10_executes_74 : decode cX10_executes 74 = .ok (.iconst 1, 1) := by decide +kernel
theorem dX10_executes_75 : decode cX10_executes 75 = .ok (.ireturn, 1) := by decide +kernel
theorem dX10_executes_76 : decode cX10_executes 76 = .ok (.aload_n 0, 1) := by decide +kernel
theorem dX10_executes_77 : decode cX10_executes 77 = .ok (.getfield 86, 3) := by decide +kernel
theorem dX10_executes_80 : decode cX10_executes 80 = .ok (.iconst 4, 1) := by decide +kernel
theorem dX10_executes_81 : decode cX10_executes 81 = .ok (.aload_n 0, 1) := by decide +kernel
theorem dX10_executes_82 : decode cX10_executes 82 = .ok (.getfield 22, 3) := by decide +kernel
theorem dX10_executes_85 : decode cX10_executes 85 = .ok (.iload_n 1, 1) := by decide +kernel
theorem dX10_executes_86 : decode cX10_executes 86 = .ok (.iaload, 1) := by decide +kernel
theorem dX10_executes_87 : decode cX10_executes 87 = .ok (.iconst 1, 1) := by decide +kernel
theorem dX10_executes_88 : decode cX10_executes 88 = .ok (.if_icmp .ne 21, 3) := by decide +kernel
theorem dX10_executes_91 : decode cX10_executes 91 = .ok (.aload_n 0, 1) := by decide +kernel
theorem dX10_executes_92 : decode cX10_executes 92 = .ok (.getfield 86, 3) := by decide +kernel
theorem dX10_executes_95 : decode cX10_executes 95 = .ok (.iconst 4, 1) := by decide +kernel
theorem dX10_executes_96 : decode cX10_executes 96 = .ok (.iaload, 1) := by decide +kernel
theorem dX10_executes_97 : decode cX10_executes 97 = .ok (.iconst 1, 1) := by decide +kernel
theorem dX10_executes_98 : decode cX10_executes 98 = .ok (.aload_n 0, 1) := by decide +kernel
theorem dX10_executes_99 : decode cX10_executes 99 = .ok (.getfield 19, 3) := by decide +kernel
theorem dX10_executes_102 : decode cX10_executes 102 = .ok (.iload_n 1, 1) := by decide +kernel
theorem dX10_executes_103 : decode cX10_executes 103 = .ok (.iaload, 1) := by decide +kernel
theorem dX10_executes_104 : decode cX10_executes 104 = .ok (.ishl, 1) := by decide +kernel
theorem dX10_executes_105 : decode cX10_executes 105 = .ok (.ior, 1) := by decide +kernel
theorem dX10_executes_106 : decode cX10_executes 106 = .ok (.goto 20, 3) := by decide +kernel
theorem dX10_executes_109 : decode cX10_executes 109 = .ok (.aload_n 0, 1) := by decide +kernel
theorem dX10_executes_110 : decode cX10_executes 110 = .ok (.getfield 86, 3) := by decide +kernel
theorem dX10_executes_113 : decode cX10_executes 113 = .ok (.iconst 4, 1) := by decide +kernel
theorem dX10_executes_114 : decode cX10_executes 114 = .ok (.iaload, 1) := by decide +kernel
theorem dX10_executes_115 : decode cX10_executes 115 = .ok (.iconst 1, 1) := by decide +kernel
theorem dX10_executes_116 : decode cX10_executes 116 = .ok (.aload_n 0, 1) := by decide +kernel
theorem dX10_executes_117 : decode cX10_executes 117 = .ok (.getfield 19, 3) := by decide +kernel
theorem dX10_executes_120 : decode cX10_executes 120 = .ok (.iload_n 1, 1) := by decide +kernel
theorem dX10_executes_121 : decode cX10_executes 121 = .ok (.iaload, 1) := by decide +kernel
theorem dX10_executes_122 : decode cX10_executes 122 = .ok (.ishl, 1) := by decide +kernel
theorem dX10_executes_123 : decode cX10_executes 123 = .ok (.iconst (-1), 1) := by decide +kernel
theorem dX10_executes_124 : decode cX10_executes 124 = .ok (.ixor, 1) := by decide +kernel
theorem dX10_executes_125 : decode cX10_executes 125 = .ok (.iand, 1) := by decide +kernel
theorem dX10_executes_126 : decode cX10_executes 126 = .ok (.iastore, 1) := by decide +kernel
theorem dX10_executes_127 : decode cX10_executes 127 = .ok (.iconst 1, 1) := by decide +kernel
theorem dX10_executes_128 : decode cX10_executes 128 = .ok (.ireturn, 1) := by decide +kernel
theorem dX10_executes_129 : decode cX10_executes 129 = .ok (.aload_n 0, 1) := by decide +kernel
theorem dX10_executes_130 : decode cX10_executes 130 = .ok (.iload_n 1, 1) := by decide +kernel
theorem dX10_executes_131 : decode cX10_executes 131 = .ok (.invokevirtual 307, 3) := by decide +kernel
theorem dX10_executes_134 : decode cX10_executes 134 = .ok (.iconst 1, 1) := by decide +kernel
theorem dX10_executes_135 : decode cX10_executes 135 = .ok (.ireturn, 1) := by decide +kernel
theorem dX10_executes_136 : decode cX10_executes 136 = .ok (.aload_n 0, 1) := by decide +kernel
theorem dX10_executes_137 : decode cX10_executes 137 = .ok (.iload_n 1, 1) := by decide +kernel
theorem dX10_executes_138 : decode cX10_executes 138 = .ok (.invokevirtual 310, 3) := by decide +kernel
theorem dX10_executes_141 : decode cX10_executes 141 = .ok (.ifCond .eq 12, 3) := by decide +kernel
theorem dX10_executes_144 : decode cX10_executes 144 = .ok (.aload_n 0, 1) := by decide +kernel
theorem dX10_executes_145 : decode cX10_executes 145 = .ok (.getfield 31, 3) := by decide +kernel
theorem dX10_executes_148 : decode cX10_executes 148 = .ok (.iload_n 1, 1) := by decide +kernel
theorem dX10_executes_149 : decode cX10_executes 149 = .ok (.iaload, 1) := by decide +kernel
theorem dX10_executes_150 : decode cX10_executes 150 = .ok (.goto 9, 3) := by decide +kernel
theorem dX10_executes_153 : decode cX10_executes 153 = .ok (.aload_n 0, 1) := by decide +kernel
theorem dX10_executes_154 : decode cX10_executes 154 = .ok (.getfield 34, 3) := by decide +kernel
theorem dX10_executes_157 : decode cX10_executes 157 = .ok (.iload_n 1, 1) := by decide +kernel
theorem dX10_executes_158 : decode cX10_executes 158 = .ok (.iaload, 1) := by decide +kernel
theorem dX10_executes_159 : decode cX10_executes 159 = .ok (.istore_n 2, 1) := by decide +kernel
theorem dX10_executes_160 : decode cX10_executes 160 = .ok (.iload_n 2, 1) := by decide +kernel
theorem dX10_executes_161 : decode cX10_executes 161 = .ok (.iconst (-1), 1) := by decide +kernel
theorem dX10_executes_162 : decode cX10_executes 162 = .ok (.if_icmp .eq 18, 3) := by decide +kernel
theorem dX10_executes_165 : decode cX10_executes 165 = .ok (.aload_n 0, 1) := by decide +kernel
theorem dX10_executes_166 : decode cX10_executes 166 = .ok (.iload_n 2, 1) := by decide +kernel
theorem dX10_executes_167 : decode cX10_executes 167 = .ok (.putfield 289, 3) := by decide +kernel
theorem dX10_executes_170 : decode cX10_executes 170 = .ok (.aload_n 0, 1) := by decide +kernel
theorem dX10_executes_171 : decode cX10_executes 171 = .ok (.aload_n 0, 1) := by decide +kernel
theorem dX10_executes_172 : decode cX10_executes 172 = .ok (.getfield 58, 3) := by decide +kernel
theorem dX10_executes_175 : decode cX10_executes 175 = .ok (.iload_n 2, 1) := by decide +kernel
theorem dX10_executes_176 : decode cX10_executes 176 = .ok (.iaload, 1) := by decide +kernel
theorem dX10_executes_177 : decode cX10_executes 177 = .ok (.putfield 292, 3) := by decide +kernel
theorem dX10_executes_180 : decode cX10_executes 180 = .ok (.iconst 1, 1) := by decide +kernel
theorem dX10_executes_181 : decode cX10_executes 181 = .ok (.ireturn, 1) := by decide +kernel
theorem dX10_executes_182 : decode cX10_executes 182 = .ok (.aload_n 0, 1) := by decide +kernel
theorem dX10_executes_183 : decode cX10_executes 183 = .ok (.getfield 70, 3) := by decide +kernel
theorem dX10_executes_186 : decode cX10_executes 186 = .ok (.aload_n 0, 1) := by decide +kernel
theorem dX10_executes_187 : decode cX10_executes 187 = .ok (.aload_n 0, 1) := by decide +kernel
theorem dX10_executes_188 : decode cX10_executes 188 = .ok (.getfield 19, 3) := by decide +kernel
theorem dX10_executes_191 : decode cX10_executes 191 = .ok (.iload_n 1, 1) := by decide +kernel
theorem dX10_executes_192 : decode cX10_executes 192 = .ok (.iaload, 1) := by decide +kernel
theorem dX10_executes_193 : decode cX10_executes 193 = .ok (.invokevirtual 283, 3) := by decide +kernel
theorem dX10_executes_196 : decode cX10_executes 196 = .ok (.baload, 1) := by decide +kernel
theorem dX10_executes_197 : decode cX10_executes 197 = .ok (.ifCond .eq 27, 3) := by decide +kernel
theorem dX10_executes_200 : decode cX10_executes 200 = .ok (.aload_n 0, 1) := by decide +kernel
theorem dX10_executes_201 : decode cX10_executes 201 = .ok (.getfield 86, 3) := by decide +kernel
theorem dX10_executes_204 : decode cX10_executes 204 = .ok (.bipush 8, 2) := by decide +kernel
theorem dX10_executes_206 : decode cX10_executes 206 = .ok (.iaload, 1) := by decide +kernel
theorem dX10_executes_207 : decode cX10_executes 207 = .ok (.aload_n 0, 1) := by decide +kernel
theorem dX10_executes_208 : decode cX10_executes 208 = .ok (.getfield 19, 3) := by decide +kernel
theorem dX10_executes_211 : decode cX10_executes 211 = .ok (.iload_n 1, 1) := by decide +kernel
theorem dX10_executes_212 : decode cX10_executes 212 = .ok (.iaload, 1) := by decide +kernel
theorem dX10_executes_213 : decode cX10_executes 213 = .ok (.ishr, 1) := by decide +kernel
theorem dX10_executes_214 : decode cX10_executes 214 = .ok (.iconst 1, 1) := by decide +kernel
theorem dX10_executes_215 : decode cX10_executes 215 = .ok (.iand, 1) := by decide +kernel
theorem dX10_executes_216 : decode cX10_executes 216 = .ok (.iconst 1, 1) := by decide +kernel
theorem dX10_executes_217 : decode cX10_executes 217 = .ok (.if_icmp .ne 7, 3) := by decide +kernel
theorem dX10_executes_220 : decode cX10_executes 220 = .ok (.iconst 1, 1) := by decide +kernel
theorem dX10_executes_221 : decode cX10_executes 221 = .ok (.goto 4, 3) := by decide +kernel
theorem dX10_executes_224 : decode cX10_executes 224 = .ok (.iconst 0, 1) := by decide +kernel
theorem dX10_executes_225 : decode cX10_executes 225 = .ok (.istore_n 3, 1) := by decide +kernel
theorem dX10_executes_226 : decode cX10_executes 226 = .ok (.aload_n 0, 1) := by decide +kernel
theorem dX10_executes_227 : decode cX10_executes 227 = .ok (.getfield 86, 3) := by decide +kernel
theorem dX10_executes_230 : decode cX10_executes 230 = .ok (.bipush 9, 2) := by decide +kernel
theorem dX10_executes_232 : decode cX10_executes 232 = .ok (.dup2, 1) := by decide +kernel
theorem dX10_executes_233 : decode cX10_executes 233 = .ok (.iaload, 1) := by decide +kernel
theorem dX10_executes_234 : decode cX10_executes 234 = .ok (.aload_n 0, 1) := by decide +kernel
theorem dX10_executes_235 : decode cX10_executes 235 = .ok (.iload_n 1, 1) := by decide +kernel
theorem dX10_executes_236 : decode cX10_executes 236 = .ok (.invokevirtual 310, 3) := by decide +kernel
theorem dX10_executes_239 : decode cX10_executes 239 = .ok (.ifCond .eq 18, 3) := by decide +kernel
theorem dX10_executes_242 : decode cX10_executes 242 = .ok (.iload_n 3, 1) := by decide +kernel
theorem dX10_executes_243 : decode cX10_executes 243 = .ok (.ifCond .ne 14, 3) := by decide +kernel
theorem dX10_executes_246 : decode cX10_executes 246 = .ok (.iconst 1, 1) := by decide +kernel
theorem dX10_executes_247 : decode cX10_executes 247 = .ok (.aload_n 0, 1) := by decide +kernel
theorem dX10_executes_248 : decode cX10_executes 248 = .ok (.getfield 19, 3) := by decide +kernel
theorem dX10_executes_251 : decode cX10_executes 251 = .ok (.iload_n 1, 1) := by decide +kernel
theorem dX10_executes_252 : decode cX10_executes 252 = .ok (.iaload, 1) := by decide +kernel
theorem dX10_executes_253 : decode cX10_executes 253 = .ok (.ishl, 1) := by decide +kernel
theorem dX10_executes_254 : decode cX10_executes 254 = .ok (.goto 4, 3) := by decide +kernel
theorem dX10_executes_257 : decode cX10_executes 257 = .ok (.iconst 0, 1) := by decide +kernel
theorem dX10_executes_258 : decode cX10_executes 258 = .ok (.ior, 1) := by decide +kernel
theorem dX10_executes_259 : decode cX10_executes 259 = .ok (.iastore, 1) := by decide +kernel
theorem dX10_executes_260 : decode cX10_executes 260 = .ok (.iconst 1, 1) := by decide +kernel
theorem dX10_executes_261 : decode cX10_executes 261 = .ok (.ireturn, 1) := by decide +kernel
theorem dX10_executes_262 : decode cX10_executes 262 = .ok (.aload_n 0, 1) := by decide +kernel
theorem dX10_executes_263 : decode cX10_executes 263 = .ok (.aload_n 0, 1) := by decide +kernel
theorem dX10_executes_264 : decode cX10_executes 264 = .ok (.getfield 19, 3) := by decide +kernel
theorem dX10_executes_267 : decode cX10_executes 267 = .ok (.iload_n 1, 1) := by decide +kernel
theorem dX10_executes_268 : decode cX10_executes 268 = .ok (.iaload, 1) := by decide +kernel
theorem dX10_executes_269 : decode cX10_executes 269 = .ok (.invokevirtual 313, 3) := by decide +kernel
theorem dX10_executes_272 : decode cX10_executes 272 = .ok (.iconst 1, 1) := by decide +kernel
theorem dX10_executes_273 : decode cX10_executes 273 = .ok (.ireturn, 1) := by decide +kernel
theorem dX10_executes_274 : decode cX10_executes 274 = .ok (.aload_n 0, 1) := by decide +kernel
theorem dX10_executes_275 : decode cX10_executes 275 = .ok (.getfield 86, 3) := by decide +kernel
theorem dX10_executes_278 : decode cX10_executes 278 = .ok (.iconst 3, 1) := by decide +kernel
theorem dX10_executes_279 : decode cX10_executes 279 = .ok (.iaload, 1) := by decide +kernel
theorem dX10_executes_280 : decode cX10_executes 280 = .ok (.iconst (-1), 1) := by decide +kernel
theorem dX10_executes_281 : decode cX10_executes 281 = .ok (.if_icmp .ne 10, 3) := by decide +kernel
theorem dX10_executes_284 : decode cX10_executes 284 = .ok (.aload_n 0, 1) := by decide +kernel
theorem dX10_executes_285 : decode cX10_executes 285 = .ok (.iconst 3, 1) := by decide +kernel
theorem dX10_executes_286 : decode cX10_executes 286 = .ok (.invokevirtual 301, 3) := by decide +kernel
theorem dX10_executes_289 : decode cX10_executes 289 = .ok (.iconst 0, 1) := by decide +kernel
theorem dX10_executes_290 : decode cX10_executes 290 = .ok (.ireturn, 1) := by decide +kernel
theorem dX10_executes_291 : decode cX10_executes 291 = .ok (.aload_n 0, 1) := by decide +kernel
theorem dX10_executes_292 : decode cX10_executes 292 = .ok (.aload_n 0, 1) := by decide +kernel
theorem dX10_executes_293 : decode cX10_executes 293 = .ok (.getfield 86, 3) := by decide +kernel
theorem dX10_executes_296 : decode cX10_executes 296 = .ok (.iconst 3, 1) := by decide +kernel
theorem dX10_executes_297 : decode cX10_executes 297 = .ok (.iaload, 1) := by decide +kernel
theorem dX10_executes_298 : decode cX10_executes 298 = .ok (.invokevirtual 313, 3) := by decide +kernel
theorem dX10_executes_301 : decode cX10_executes 301 = .ok (.iconst 1, 1) := by decide +kernel
theorem dX10_executes_302 : decode cX10_executes 302 = .ok (.ireturn, 1) := by decide +kernel
theorem dX10_executes_303 : decode cX10_executes 303 = .ok (.aload_n 0, 1) := by decide +kernel
theorem dX10_executes_304 : decode cX10_executes 304 = .ok (.iconst 2, 1) := by decide +kernel
theorem dX10_executes_305 : decode cX10_executes 305 = .ok (.invokevirtual 301, 3) := by decide +kernel
theorem dX10_executes_308 : decode cX10_executes 308 = .ok (.aload_n 0, 1) := by decide +kernel
theorem dX10_executes_309 : decode cX10_executes 309 = .ok (.getfield 86, 3) := by decide +kernel
theorem dX10_executes_312 : decode cX10_executes 312 = .ok (.iconst 1, 1) := by decide +kernel
theorem dX10_executes_313 : decode cX10_executes 313 = .ok (.aload_n 0, 1) := by decide +kernel
theorem dX10_executes_314 : decode cX10_executes 314 = .ok (.getfield 19, 3) := by decide +kernel
theorem dX10_executes_317 : decode cX10_executes 317 = .ok (.iload_n 1, 1) := by decide +kernel
theorem dX10_executes_318 : decode cX10_executes 318 = .ok (.iaload, 1) := by decide +kernel
theorem dX10_executes_319 : decode cX10_executes 319 = .ok (.iastore, 1) := by decide +kernel
theorem dX10_executes_320 : decode cX10_executes 320 = .ok (.iconst 0, 1) := by decide +kernel
theorem dX10_executes_321 : decode cX10_executes 321 = .ok (.ireturn, 1) := by decide +kernel
theorem wt_1307 : (Jvm.Cond.fieldLink "BranchingStoryModel" (237 : Nat) "BranchingStoryModel" "length" "I") ∈ lw_tbl := in_tb 1307 (by decide +kernel)
theorem wt_1309 : (Jvm.Cond.fieldLink "BranchingStoryModel" (234 : Nat) "BranchingStoryModel" "toldLength" "I") ∈ lw_tbl := in_tb 1309 (by decide +kernel)
theorem wt_1310 : (Jvm.Cond.fieldLink "BranchingStoryModel" (261 : Nat) "BranchingStoryModel" "hasStory" "Z") ∈ lw_tbl := in_tb 1310 (by decide +kernel)
theorem wt_1346 : (Jvm.Cond.fieldLink "BranchingStoryModel" (86 : Nat) "BranchingStoryModel" "p" "[I") ∈ lw_tbl := in_tb 1346 (by decide +kernel)
theorem wt_1348 : (Jvm.Cond.fieldLink "BranchingStoryModel" (267 : Nat) "BranchingStoryModel" "saved" "I") ∈ lw_tbl := in_tb 1348 (by decide +kernel)
theorem wt_1350 : (Jvm.Cond.fieldLink "BranchingStoryModel" (295 : Nat) "BranchingStoryModel" "exploring" "Z") ∈ lw_tbl := in_tb 1350 (by decide +kernel)
theorem wt_1351 : (Jvm.Cond.fieldLink "BranchingStoryModel" (95 : Nat) "BranchingStoryModel" "lineSaid" "[Z") ∈ lw_tbl := in_tb 1351 (by decide +kernel)
theorem wt_1352 : (Jvm.Cond.fieldLink "BranchingStoryModel" (98 : Nat) "BranchingStoryModel" "nodeEntered" "[Z") ∈ lw_tbl := in_tb 1352 (by decide +kernel)
theorem wt_1354 : (Jvm.Cond.fieldLink "BranchingStoryModel" (292 : Nat) "BranchingStoryModel" "now" "I") ∈ lw_tbl := in_tb 1354 (by decide +kernel)
theorem wt_1355 : (Jvm.Cond.fieldLink "BranchingStoryModel" (289 : Nat) "BranchingStoryModel" "block" "I") ∈ lw_tbl := in_tb 1355 (by decide +kernel)
theorem wt_1359 : (Jvm.Cond.fieldLink "BranchingStoryModel" (270 : Nat) "BranchingStoryModel" "explored" "Z") ∈ lw_tbl := in_tb 1359 (by decide +kernel)
theorem wt_1376 : (Jvm.Cond.fieldLink "BranchingStoryModel" (273 : Nat) "BranchingStoryModel" "analyzed" "Z") ∈ lw_tbl := in_tb 1376 (by decide +kernel)
theorem wt_1540 : (Jvm.Cond.methodLink "BranchingStoryModel" (253 : Nat) ({ cls := "BranchingStoryModel", name := "fails", desc := "(I)I" } : Jvm.MethodName)) ∈ lw_tbl := in_tb 1540 (by decide +kernel)
theorem wt_1542 : (Jvm.Cond.instanceMethod ({ cls := "BranchingStoryModel", name := "fails", desc := "(I)I" } : Jvm.MethodName)) ∈ lw_tbl := in_tb 1542 (by decide +kernel)
theorem wt_1543 : (Jvm.Cond.code ({ cls := "BranchingStoryModel", name := "fails", desc := "(I)I" } : Jvm.MethodName) prog_12_method_3_code (2 : Nat) (Option.some Jvm.ClassFile.FieldType.int)) ∈ lw_tbl := in_tb 1543 (by decide +kernel)
theorem wt_1549 : (Jvm.Cond.instanceMethod ({ cls := "BranchingStoryModel", name := "fault", desc := "()I" } : Jvm.MethodName)) ∈ lw_tbl := in_tb 1549 (by decide +kernel)
theorem wt_1550 : (Jvm.Cond.selects "BranchingStoryModel" ({ cls := "BranchingStoryModel", name := "fault", desc := "()I" } : Jvm.MethodName) ({ cls := "BranchingStoryModel", name := "fault", desc := "()I" } : Jvm.MethodName)) ∈ lw_tbl := in_tb 1550 (by decide +kernel)
theorem wt_1551 : (Jvm.Cond.code ({ cls := "BranchingStoryModel", name := "fault", desc := "()I" } : Jvm.MethodName) prog_12_method_26_code (3 : Nat) (Option.some Jvm.ClassFile.FieldType.int)) ∈ lw_tbl := in_tb 1551 (by decide +kernel)
theorem wt_1552 : (Jvm.Cond.methodLink "BranchingStoryModel" (257 : Nat) ({ cls := "BranchingStoryModel", name := "readsAll", desc := "(Z)Z" } : Jvm.MethodName)) ∈ lw_tbl := in_tb 1552 (by decide +kernel)
theorem wt_1554 : (Jvm.Cond.instanceMethod ({ cls := "BranchingStoryModel", name := "readsAll", desc := "(Z)Z" } : Jvm.MethodName)) ∈ lw_tbl := in_tb 1554 (by decide +kernel)
theorem wt_1555 : (Jvm.Cond.code ({ cls := "BranchingStoryModel", name := "readsAll", desc := "(Z)Z" } : Jvm.MethodName) prog_12_method_22_code (4 : Nat) (Option.some Jvm.ClassFile.FieldType.boolean)) ∈ lw_tbl := in_tb 1555 (by decide +kernel)
theorem wt_1556 : (Jvm.Cond.methodLink "BranchingStoryModel" (240 : Nat) ({ cls := "BranchingStoryModel", name := "readsNode", desc := "()V" } : Jvm.MethodName)) ∈ lw_tbl := in_tb 1556 (by decide +kernel)
theorem wt_1558 : (Jvm.Cond.instanceMethod ({ cls := "BranchingStoryModel", name := "readsNode", desc := "()V" } : Jvm.MethodName)) ∈ lw_tbl := in_tb 1558 (by decide +kernel)
theorem wt_1559 : (Jvm.Cond.code ({ cls := "BranchingStoryModel", name := "readsNode", desc := "()V" } : Jvm.MethodName) prog_12_method_13_code (2 : Nat) (Option.none : Option Jvm.ClassFile.FieldType)) ∈ lw_tbl := in_tb 1559 (by decide +kernel)
theorem wt_1580 : (Jvm.Cond.methodLink "BranchingStoryModel" (243 : Nat) ({ cls := "BranchingStoryModel", name := "closes", desc := "()V" } : Jvm.MethodName)) ∈ lw_tbl := in_tb 1580 (by decide +kernel)
theorem wt_1582 : (Jvm.Cond.instanceMethod ({ cls := "BranchingStoryModel", name := "closes", desc := "()V" } : Jvm.MethodName)) ∈ lw_tbl := in_tb 1582 (by decide +kernel)
theorem wt_1583 : (Jvm.Cond.code ({ cls := "BranchingStoryModel", name := "closes", desc := "()V" } : Jvm.MethodName) prog_12_method_20_code (2 : Nat) (Option.none : Option Jvm.ClassFile.FieldType)) ∈ lw_tbl := in_tb 1583 (by decide +kernel)
theorem wt_1588 : (Jvm.Cond.methodLink "BranchingStoryModel" (246 : Nat) ({ cls := "BranchingStoryModel", name := "readsStatement", desc := "(I)V" } : Jvm.MethodName)) ∈ lw_tbl := in_tb 1588 (by decide +kernel)
theorem wt_1590 : (Jvm.Cond.instanceMethod ({ cls := "BranchingStoryModel", name := "readsStatement", desc := "(I)V" } : Jvm.MethodName)) ∈ lw_tbl := in_tb 1590 (by decide +kernel)
theorem wt_1591 : (Jvm.Cond.code ({ cls := "BranchingStoryModel", name := "readsStatement", desc := "(I)V" } : Jvm.MethodName) prog_12_method_21_code (5 : Nat) (Option.none : Option Jvm.ClassFile.FieldType)) ∈ lw_tbl := in_tb 1591 (by decide +kernel)
theorem wt_1624 : (Jvm.Cond.methodLink "BranchingStoryModel" (249 : Nat) ({ cls := "BranchingStoryModel", name := "resolves", desc := "()Z" } : Jvm.MethodName)) ∈ lw_tbl := in_tb 1624 (by decide +kernel)
theorem wt_1626 : (Jvm.Cond.instanceMethod ({ cls := "BranchingStoryModel", name := "resolves", desc := "()Z" } : Jvm.MethodName)) ∈ lw_tbl := in_tb 1626 (by decide +kernel)
theorem wt_1627 : (Jvm.Cond.code ({ cls := "BranchingStoryModel", name := "resolves", desc := "()Z" } : Jvm.MethodName) prog_12_method_23_code (2 : Nat) (Option.some Jvm.ClassFile.FieldType.boolean)) ∈ lw_tbl := in_tb 1627 (by decide +kernel)
theorem wt_1632 : (Jvm.Cond.methodLink "BranchingStoryModel" (264 : Nat) ({ cls := "BranchingStoryModel", name := "fault", desc := "()I" } : Jvm.MethodName)) ∈ lw_tbl := in_tb 1632 (by decide +kernel)
theorem wt_1641 : (Jvm.Cond.methodLink "BranchingStoryModel" (276 : Nat) ({ cls := "BranchingStoryModel", name := "isNode", desc := "(I)Z" } : Jvm.MethodName)) ∈ lw_tbl := in_tb 1641 (by decide +kernel)
theorem wt_1643 : (Jvm.Cond.instanceMethod ({ cls := "BranchingStoryModel", name := "isNode", desc := "(I)Z" } : Jvm.MethodName)) ∈ lw_tbl := in_tb 1643 (by decide +kernel)
theorem wt_1644 : (Jvm.Cond.code ({ cls := "BranchingStoryModel", name := "isNode", desc := "(I)Z" } : Jvm.MethodName) prog_12_method_29_code (2 : Nat) (Option.some Jvm.ClassFile.FieldType.boolean)) ∈ lw_tbl := in_tb 1644 (by decide +kernel)
theorem wt_1653 : (Jvm.Cond.methodLink "BranchingStoryModel" (280 : Nat) ({ cls := "BranchingStoryModel", name := "isChoice", desc := "(I)Z" } : Jvm.MethodName)) ∈ lw_tbl := in_tb 1653 (by decide +kernel)
theorem wt_1655 : (Jvm.Cond.instanceMethod ({ cls := "BranchingStoryModel", name := "isChoice", desc := "(I)Z" } : Jvm.MethodName)) ∈ lw_tbl := in_tb 1655 (by decide +kernel)
theorem wt_1656 : (Jvm.Cond.code ({ cls := "BranchingStoryModel", name := "isChoice", desc := "(I)Z" } : Jvm.MethodName) prog_12_method_30_code (2 : Nat) (Option.some Jvm.ClassFile.FieldType.boolean)) ∈ lw_tbl := in_tb 1656 (by decide +kernel)
theorem wt_1661 : (Jvm.Cond.methodLink "BranchingStoryModel" (283 : Nat) ({ cls := "BranchingStoryModel", name := "nodeOfChoice", desc := "(I)I" } : Jvm.MethodName)) ∈ lw_tbl := in_tb 1661 (by decide +kernel)
theorem wt_1663 : (Jvm.Cond.instanceMethod ({ cls := "BranchingStoryModel", name := "nodeOfChoice", desc := "(I)I" } : Jvm.MethodName)) ∈ lw_tbl := in_tb 1663 (by decide +kernel)
theorem wt_1664 : (Jvm.Cond.code ({ cls := "BranchingStoryModel", name := "nodeOfChoice", desc := "(I)I" } : Jvm.MethodName) prog_12_method_34_code (2 : Nat) (Option.some Jvm.ClassFile.FieldType.int)) ∈ lw_tbl := in_tb 1664 (by decide +kernel)
theorem wt_1673 : (Jvm.Cond.methodLink "BranchingStoryModel" (298 : Nat) ({ cls := "BranchingStoryModel", name := "enters", desc := "(I)V" } : Jvm.MethodName)) ∈ lw_tbl := in_tb 1673 (by decide +kernel)
theorem wt_1675 : (Jvm.Cond.instanceMethod ({ cls := "BranchingStoryModel", name := "enters", desc := "(I)V" } : Jvm.MethodName)) ∈ lw_tbl := in_tb 1675 (by decide +kernel)
theorem wt_1676 : (Jvm.Cond.code ({ cls := "BranchingStoryModel", name := "enters", desc := "(I)V" } : Jvm.MethodName) prog_12_method_38_code (2 : Nat) (Option.none : Option Jvm.ClassFile.FieldType)) ∈ lw_tbl := in_tb 1676 (by decide +kernel)
theorem wt_1685 : (Jvm.Cond.methodLink "BranchingStoryModel" (301 : Nat) ({ cls := "BranchingStoryModel", name := "ends", desc := "(I)V" } : Jvm.MethodName)) ∈ lw_tbl := in_tb 1685 (by decide +kernel)
theorem wt_1687 : (Jvm.Cond.instanceMethod ({ cls := "BranchingStoryModel", name := "ends", desc := "(I)V" } : Jvm.MethodName)) ∈ lw_tbl := in_tb 1687 (by decide +kernel)
theorem wt_1688 : (Jvm.Cond.code ({ cls := "BranchingStoryModel", name := "ends", desc := "(I)V" } : Jvm.MethodName) prog_12_method_41_code (2 : Nat) (Option.none : Option Jvm.ClassFile.FieldType)) ∈ lw_tbl := in_tb 1688 (by decide +kernel)
theorem wt_1693 : (Jvm.Cond.methodLink "BranchingStoryModel" (304 : Nat) ({ cls := "BranchingStoryModel", name := "says", desc := "(I)V" } : Jvm.MethodName)) ∈ lw_tbl := in_tb 1693 (by decide +kernel)
theorem wt_1695 : (Jvm.Cond.instanceMethod ({ cls := "BranchingStoryModel", name := "says", desc := "(I)V" } : Jvm.MethodName)) ∈ lw_tbl := in_tb 1695 (by decide +kernel)
theorem wt_1696 : (Jvm.Cond.code ({ cls := "BranchingStoryModel", name := "says", desc := "(I)V" } : Jvm.MethodName) prog_12_method_40_code (3 : Nat) (Option.none : Option Jvm.ClassFile.FieldType)) ∈ lw_tbl := in_tb 1696 (by decide +kernel)
theorem wt_1697 : (Jvm.Cond.methodLink "BranchingStoryModel" (307 : Nat) ({ cls := "BranchingStoryModel", name := "changesMeter", desc := "(I)V" } : Jvm.MethodName)) ∈ lw_tbl := in_tb 1697 (by decide +kernel)
theorem wt_1699 : (Jvm.Cond.instanceMethod ({ cls := "BranchingStoryModel", name := "changesMeter", desc := "(I)V" } : Jvm.MethodName)) ∈ lw_tbl := in_tb 1699 (by decide +kernel)
theorem wt_1700 : (Jvm.Cond.code ({ cls := "BranchingStoryModel", name := "changesMeter", desc := "(I)V" } : Jvm.MethodName) prog_12_method_43_code (4 : Nat) (Option.none : Option Jvm.ClassFile.FieldType)) ∈ lw_tbl := in_tb 1700 (by decide +kernel)
theorem wt_1701 : (Jvm.Cond.methodLink "BranchingStoryModel" (310 : Nat) ({ cls := "BranchingStoryModel", name := "holds", desc := "(I)Z" } : Jvm.MethodName)) ∈ lw_tbl := in_tb 1701 (by decide +kernel)
theorem wt_1703 : (Jvm.Cond.instanceMethod ({ cls := "BranchingStoryModel", name := "holds", desc := "(I)Z" } : Jvm.MethodName)) ∈ lw_tbl := in_tb 1703 (by decide +kernel)
theorem wt_1704 : (Jvm.Cond.code ({ cls := "BranchingStoryModel", name := "holds", desc := "(I)Z" } : Jvm.MethodName) prog_12_method_37_code (4 : Nat) (Option.some Jvm.ClassFile.FieldType.boolean)) ∈ lw_tbl := in_tb 1704 (by decide +kernel)
theorem wt_1705 : (Jvm.Cond.methodLink "BranchingStoryModel" (286 : Nat) ({ cls := "BranchingStoryModel", name := "termHolds", desc := "(I)Z" } : Jvm.MethodName)) ∈ lw_tbl := in_tb 1705 (by decide +kernel)
theorem wt_1707 : (Jvm.Cond.instanceMethod ({ cls := "BranchingStoryModel", name := "termHolds", desc := "(I)Z" } : Jvm.MethodName)) ∈ lw_tbl := in_tb 1707 (by decide +kernel)
theorem wt_1708 : (Jvm.Cond.code ({ cls := "BranchingStoryModel", name := "termHolds", desc := "(I)Z" } : Jvm.MethodName) prog_12_method_36_code (3 : Nat) (Option.some Jvm.ClassFile.FieldType.boolean)) ∈ lw_tbl := in_tb 1708 (by decide +kernel)
theorem wt_1709 : (Jvm.Cond.methodLink "BranchingStoryModel" (313 : Nat) ({ cls := "BranchingStoryModel", name := "goes", desc := "(I)V" } : Jvm.MethodName)) ∈ lw_tbl := in_tb 1709 (by decide +kernel)
theorem wt_1711 : (Jvm.Cond.instanceMethod ({ cls := "BranchingStoryModel", name := "goes", desc := "(I)V" } : Jvm.MethodName)) ∈ lw_tbl := in_tb 1711 (by decide +kernel)
theorem wt_1712 : (Jvm.Cond.code ({ cls := "BranchingStoryModel", name := "goes", desc := "(I)V" } : Jvm.MethodName) prog_12_method_39_code (2 : Nat) (Option.none : Option Jvm.ClassFile.FieldType)) ∈ lw_tbl := in_tb 1712 (by decide +kernel)
theorem fl_X10_86 : FL RX10 86 9 40 := ⟨RX10, TX10, 74, rfl, by decide, inX10, Or.inl wt_1346⟩
theorem fl_X10_95 : FL RX10 95 9 45 := ⟨RX10, TX10, 74, rfl, by decide, inX10, Or.inl wt_1351⟩
theorem fl_X10_98 : FL RX10 98 9 46 := ⟨RX10, TX10, 74, rfl, by decide, inX10, Or.inl wt_1352⟩
theorem fl_X10_234 : FL RX10 234 9 3 := ⟨RX10, TX10, 74, rfl, by decide, inX10, Or.inl wt_1309⟩
theorem fl_X10_237 : FL RX10 237 9 1 := ⟨RX10, TX10, 74, rfl, by decide, inX10, Or.inl wt_1307⟩
theorem fl_X10_261 : FL RX10 261 9 4 := ⟨RX10, TX10, 74, rfl, by decide, inX10, Or.inl wt_1310⟩
theorem fl_X10_267 : FL RX10 267 9 42 := ⟨RX10, TX10, 74, rfl, by decide, inX10, Or.inl wt_1348⟩
theorem fl_X10_270 : FL RX10 270 9 53 := ⟨RX10, TX10, 74, rfl, by decide, inX10, Or.inl wt_1359⟩
theorem fl_X10_273 : FL RX10 273 9 70 := ⟨RX10, TX10, 74, rfl, by decide, inX10, Or.inl wt_1376⟩
theorem fl_X10_289 : FL RX10 289 9 49 := ⟨RX10, TX10, 74, rfl, by decide, inX10, Or.inl wt_1355⟩
theorem fl_X10_292 : FL RX10 292 9 48 := ⟨RX10, TX10, 74, rfl, by decide, inX10, Or.inl wt_1354⟩
theorem fl_X10_295 : FL RX10 295 9 44 := ⟨RX10, TX10, 74, rfl, by decide, inX10, Or.inl wt_1350⟩
theorem fp_X10_147 : FP RX10 147 9 34 .boolean := ⟨RX10, TX10, 74, tyX10, rfl, by decide, inX10, tyX10_ok, nmX10, rfl, by decide +kernel, Or.inl wt_1340⟩
theorem fp_X10_154 : FP RX10 154 9 35 .int := ⟨RX10, TX10, 74, tyX10, rfl, by decide, inX10, tyX10_ok, nmX10, rfl, by decide +kernel, Or.inl wt_1341⟩
theorem fp_X10_234 : FP RX10 234 9 3 .int := ⟨RX10, TX10, 74, tyX10, rfl, by decide, inX10, tyX10_ok, nmX10, rfl, by decide +kernel, Or.inl wt_1309⟩
theorem fp_X10_237 : FP RX10 237 9 1 .int := ⟨RX10, TX10, 74, tyX10, rfl, by decide, inX10, tyX10_ok, nmX10, rfl, by decide +kernel, Or.inl wt_1307⟩
theorem fp_X10_261 : FP RX10 261 9 4 .boolean := ⟨RX10, TX10, 74, tyX10, rfl, by decide, inX10, tyX10_ok, nmX10, rfl, by decide +kernel, Or.inl wt_1310⟩
theorem fp_X10_267 : FP RX10 267 9 42 .int := ⟨RX10, TX10, 74, tyX10, rfl, by decide, inX10, tyX10_ok, nmX10, rfl, by decide +kernel, Or.inl wt_1348⟩
theorem fp_X10_270 : FP RX10 270 9 53 .boolean := ⟨RX10, TX10, 74, tyX10, rfl, by decide, inX10, tyX10_ok, nmX10, rfl, by decide +kernel, Or.inl wt_1359⟩
theorem fp_X10_273 : FP RX10 273 9 70 .boolean := ⟨RX10, TX10, 74, tyX10, rfl, by decide, inX10, tyX10_ok, nmX10, rfl, by decide +kernel, Or.inl wt_1376⟩
theorem fp_X10_289 : FP RX10 289 9 49 .int := ⟨RX10, TX10, 74, tyX10, rfl, by decide, inX10, tyX10_ok, nmX10, rfl, by decide +kernel, Or.inl wt_1355⟩
theorem fp_X10_292 : FP RX10 292 9 48 .int := ⟨RX10, TX10, 74, tyX10, rfl, by decide, inX10, tyX10_ok, nmX10, rfl, by decide +kernel, Or.inl wt_1354⟩
theorem cs_X10_240 : CVw RX10 240 yX10_readsNode cX10_readsNode 2 none 0 := ⟨Or.inl wt_1556, wt_1558, in_sl (n := 74) 95 (by decide +kernel), wt_10, wt_1559, by decide, by decide, by decide +kernel⟩
theorem cs_X10_243 : CVw RX10 243 yX10_closes cX10_closes 2 none 0 := ⟨Or.inl wt_1580, wt_1582, in_sl (n := 74) 101 (by decide +kernel), wt_10, wt_1583, by decide, by decide, by decide +kernel⟩
theorem cs_X10_246 : CVw RX10 246 yX10_readsStatement cX10_readsStatement 5 none 1 := ⟨Or.inl wt_1588, wt_1590, in_sl (n := 74) 103 (by decide +kernel), wt_10, wt_1591, by decide, by decide, by decide +kernel⟩
theorem cs_X10_249 : CVw RX10 249 yX10_resolves cX10_resolves 2 (some .boolean) 0 := ⟨Or.inl wt_1624, wt_1626, in_sl (n := 74) 112 (by decide +kernel), wt_10, wt_1627, by decide, by decide, by decide +kernel⟩
theorem cs_X10_253 : CVw RX10 253 yX10_fails cX10_fails 2 (some .int) 1 := ⟨Or.inl wt_1540, wt_1542, in_sl (n := 74) 93 (by decide +kernel), wt_10, wt_1543, by decide, by decide, by decide +kernel⟩
theorem cs_X10_257 : CVw RX10 257 yX10_readsAll cX10_readsAll 4 (some .boolean) 1 := ⟨Or.inl wt_1552, wt_1554, in_sl (n := 74) 94 (by decide +kernel), wt_10, wt_1555, by decide, by decide, by decide +kernel⟩
theorem cs_X10_264 : CVw RX10 264 yX10_fault cX10_fault 3 (some .int) 0 := ⟨Or.inl wt_1632, wt_1549, wt_1550, wt_10, wt_1551, by decide, by decide, by decide +kernel⟩
theorem cs_X10_276 : CVw RX10 276 yX10_isNode cX10_isNode 2 (some .boolean) 1 := ⟨Or.inl wt_1641, wt_1643, in_sl (n := 74) 113 (by decide +kernel), wt_10, wt_1644, by decide, by decide, by decide +kernel⟩
theorem cs_X10_280 : CVw RX10 280 yX10_isChoice cX10_isChoice 2 (some .boolean) 1 := ⟨Or.inl wt_1653, wt_1655, in_sl (n := 74) 114 (by decide +kernel), wt_10, wt_1656, by decide, by decide, by decide +kernel⟩
theorem cs_X10_283 : CVw RX10 283 yX10_nodeOfChoice cX10_nodeOfChoice 2 (some .int) 1 := ⟨Or.inl wt_1661, wt_1663, in_sl (n := 74) 115 (by decide +kernel), wt_10, wt_1664, by decide, by decide, by decide +kernel⟩
theorem cs_X10_286 : CVw RX10 286 yX10_termHolds cX10_termHolds 3 (some .boolean) 1 := ⟨Or.inl wt_1705, wt_1707, in_sl (n := 74) 125 (by decide +kernel), wt_10, wt_1708, by decide, by decide, by decide +kernel⟩
theorem cs_X10_298 : CVw RX10 298 yX10_enters cX10_enters 2 none 1 := ⟨Or.inl wt_1673, wt_1675, in_sl (n := 74) 117 (by decide +kernel), wt_10, wt_1676, by decide, by decide, by decide +kernel⟩
theorem cs_X10_301 : CVw RX10 301 yX10_ends cX10_ends 2 none 1 := ⟨Or.inl wt_1685, wt_1687, in_sl (n := 74) 120 (by decide +kernel), wt_10, wt_1688, by decide, by decide, by decide +kernel⟩
theorem cs_X10_304 : CVw RX10 304 yX10_says cX10_says 3 none 1 := ⟨Or.inl wt_1693, wt_1695, in_sl (n := 74) 122 (by decide +kernel), wt_10, wt_1696, by decide, by decide, by decide +kernel⟩
theorem cs_X10_307 : CVw RX10 307 yX10_changesMeter cX10_changesMeter 4 none 1 := ⟨Or.inl wt_1697, wt_1699, in_sl (n := 74) 123 (by decide +kernel), wt_10, wt_1700, by decide, by decide, by decide +kernel⟩
theorem cs_X10_310 : CVw RX10 310 yX10_holds cX10_holds 4 (some .boolean) 1 := ⟨Or.inl wt_1701, wt_1703, in_sl (n := 74) 124 (by decide +kernel), wt_10, wt_1704, by decide, by decide, by decide +kernel⟩
theorem cs_X10_313 : CVw RX10 313 yX10_goes cX10_goes 2 none 1 := ⟨Or.inl wt_1709, wt_1711, in_sl (n := 74) 126 (by decide +kernel), wt_10, wt_1712, by decide, by decide, by decide +kernel⟩
/-! BranchingStoryModel.resolves()Z -/
def f_X10_resolves_L2 (Q : St → Int → Prop) : Nat → St → Int → Prop
  | 0, _, _ => False
  | n + 1, σ, v1 => inR v1 ∧ inR (σ 0 15) ∧ (((σ 0 15) ≤ v1 → Q σ 1) ∧ (¬ (σ 0 15) ≤ v1 → 0 ≤ v1 ∧ v1 < 401 ∧ inR (σ 3 v1.toNat) ∧ ((¬ (σ 3 v1.toNat) = 5 → f_X10_resolves_L2 Q n σ (v1 + 1)) ∧ ((σ 3 v1.toNat) = 5 → 0 ≤ v1 ∧ v1 < 401 ∧ 0 ≤ (σ 4 v1.toNat) ∧ (σ 4 v1.toNat) < 12 ∧ inR (σ 23 (σ 4 v1.toNat).toNat) ∧ ((¬ (σ 23 (σ 4 v1.toNat).toNat) = (-1) → 0 ≤ v1 ∧ v1 < 401 ∧ 0 ≤ (σ 4 v1.toNat) ∧ (σ 4 v1.toNat) < 12 ∧ 0 ≤ v1 ∧ v1 < 401 ∧ ∀ σ1 : St, σ1 = sset σ 4 v1.toNat (σ 23 (σ 4 v1.toNat).toNat) → f_X10_resolves_L2 Q n σ1 (v1 + 1)) ∧ ((σ 23 (σ 4 v1.toNat).toNat) = (-1) → 0 ≤ v1 ∧ v1 < 401 ∧ ∀ σ2 : St, σ2 = sset σ 0 36 (σ 5 v1.toNat) → Q σ2 0))))))
def f_X10_resolves (σ : St) (Q : St → Int → Prop) : Prop :=
  f_X10_resolves_L2 Q FU σ 0
set_option maxRecDepth 100000 in
set_option maxHeartbeats 4000000 in
theorem w_X10_resolves_L2 {X : Cx} {Y : Cy} {Q : St → Int → Prop} (ok : Ok X Y KM cX10_resolves 2 RX10 (rm0q 0 0) (some .boolean)) : ∀ (n : Nat) (σ : St) (v1 : Int) , f_X10_resolves_L2 Q n σ v1 → Wq X Y KM 2 (QF X Y (Qiq Y KM Q)) σ 2 [(0, .inr (.inr 0)), (1, .inl v1)] [] := by
  intro n
  induction n with
  | zero => intro σ v1 h; exact h.elim
  | succ n ih =>
    intro σ v1 h
    rw [f_X10_resolves_L2] at h
    refine q_iload_n ok dX10_resolves_2 1 rfl ?_
    refine q_aload_n ok dX10_resolves_3 0 rfl ?_
    refine q_getI ok fl_X10_181 kM_0 fM_0_15 dX10_resolves_4 ?_
    obtain ⟨g1, g2, hT3a, hT3b⟩ := h
    refine q_icmp_ge (tgt := 70) ok dX10_resolves_7 (by decide) g1 g2 (fun c3 => ?_) (fun c3 => ?_)
    · have h := hT3a c3
      refine q_iconst ok dX10_resolves_70 ?_
      exact q_zret ok dX10_resolves_71 (by decide) h
    · have h := hT3b c3
      refine q_aload_n ok dX10_resolves_10 0 rfl ?_
      refine q_getC ok fl_X10_16 kM_0 fM_0_6 dX10_resolves_11 ?_
      refine q_iload_n ok dX10_resolves_14 1 rfl ?_
      obtain ⟨g3, g4, h⟩ := h
      refine q_iald ok kM_ok kM_3 g3 g4 dX10_resolves_15 ?_
      refine q_iconst ok dX10_resolves_16 ?_
      obtain ⟨g5, hT2a, hT2b⟩ := h
      refine q_icmp_ne (tgt := 64) ok dX10_resolves_17 (by decide) g5 (by unfold inR; decide) (fun c2 => ?_) (fun c2 => ?_)
      · have h := hT2a c2
        refine q_iinc (lv' := [(1, .inl (v1 + 1)), (0, .inr (.inr 0))]) ok dX10_resolves_64 1 rfl (by decide) rfl ?_
        refine q_goto (tgt := 2) ok dX10_resolves_67 (by decide) ?_
        refine q_sub [1, 0] rfl ?_
        exact ih σ (v1 + 1) h
      · have h := hT2b c2
        refine q_aload_n ok dX10_resolves_20 0 rfl ?_
        refine q_getC ok fl_X10_77 kM_0 fM_0_29 dX10_resolves_21 ?_
        refine q_aload_n ok dX10_resolves_24 0 rfl ?_
        refine q_getC ok fl_X10_19 kM_0 fM_0_7 dX10_resolves_25 ?_
        refine q_iload_n ok dX10_resolves_28 1 rfl ?_
        obtain ⟨g6, g7, h⟩ := h
        refine q_iald ok kM_ok kM_4 g6 g7 dX10_resolves_29 ?_
        obtain ⟨g8, g9, h⟩ := h
        refine q_iald ok kM_ok kM_23 g8 g9 dX10_resolves_30 ?_
        refine q_iconst ok dX10_resolves_31 ?_
        obtain ⟨g10, hT1a, hT1b⟩ := h
        refine q_icmp_ne (tgt := 47) ok dX10_resolves_32 (by decide) g10 (by unfold inR; decide) (fun c1 => ?_) (fun c1 => ?_)
        · have h := hT1a c1
          refine q_aload_n ok dX10_resolves_47 0 rfl ?_
          refine q_getC ok fl_X10_19 kM_0 fM_0_7 dX10_resolves_48 ?_
          refine q_iload_n ok dX10_resolves_51 1 rfl ?_
          refine q_aload_n ok dX10_resolves_52 0 rfl ?_
          refine q_getC ok fl_X10_77 kM_0 fM_0_29 dX10_resolves_53 ?_
          refine q_aload_n ok dX10_resolves_56 0 rfl ?_
          refine q_getC ok fl_X10_19 kM_0 fM_0_7 dX10_resolves_57 ?_
          refine q_iload_n ok dX10_resolves_60 1 rfl ?_
          obtain ⟨g11, g12, h⟩ := h
          refine q_iald ok kM_ok kM_4 g11 g12 dX10_resolves_61 ?_
          obtain ⟨g13, g14, h⟩ := h
          refine q_iald ok kM_ok kM_23 g13 g14 dX10_resolves_62 ?_
          obtain ⟨g15, g16, h⟩ := h
          refine q_iast ok kM_ok kM_4 g15 g16 dX10_resolves_63 (wq_s (fun σ1 eσ1 => ?_))
          have h := h σ1 eσ1
          refine q_iinc (lv' := [(1, .inl (v1 + 1)), (0, .inr (.inr 0))]) ok dX10_resolves_64 1 rfl (by decide) rfl ?_
          refine q_goto (tgt := 2) ok dX10_resolves_67 (by decide) ?_
          refine q_sub [1, 0] rfl ?_
          exact ih σ1 (v1 + 1) h
        · have h := hT1b c1
          refine q_aload_n ok dX10_resolves_35 0 rfl ?_
          refine q_aload_n ok dX10_resolves_36 0 rfl ?_
          refine q_getC ok fl_X10_22 kM_0 fM_0_8 dX10_resolves_37 ?_
          refine q_iload_n ok dX10_resolves_40 1 rfl ?_
          obtain ⟨g17, g18, h⟩ := h
          refine q_iald ok kM_ok kM_5 g17 g18 dX10_resolves_41 ?_
          refine q_putI ok fp_X10_151 kM_0 fM_0_36 dX10_resolves_42 (wq_s (fun σ2 eσ2 => ?_))
          have h := h σ2 eσ2
          refine q_iconst ok dX10_resolves_45 ?_
          exact q_zret ok dX10_resolves_46 (by decide) h
set_option maxRecDepth 100000 in
set_option maxHeartbeats 4000000 in
theorem c_X10_resolves (l : Launch) (Y : Cy) (hD : ∀ σ, va_D Y.2.2.2 (wsOf KM Y.2.1 Y.2.2.1 σ)) {σ : St} {Q : St → Int → Prop} (h : f_X10_resolves  σ Q) : ConI l yX10_resolves cX10_resolves 2 .boolean (rm0q 0 0) Y KM σ [.inr (.inr 0)] Q := con_of (lv := [(0, .inr (.inr 0))]) (by decide) hD (Nat.le_of_ble_eq_true rfl) rfl (fun X _ ok => by
  have ok : Ok X Y KM cX10_resolves 2 RX10 (rm0q 0 0) (some .boolean) := ok
  unfold f_X10_resolves at h
  refine q_iconst ok dX10_resolves_0 ?_
  refine q_istore_n (lv' := [(1, .inl 0), (0, .inr (.inr 0))]) ok dX10_resolves_1 (by decide) rfl ?_
  refine q_sub [1, 0] rfl ?_
  exact w_X10_resolves_L2 ok FU σ 0 h)
/-! BranchingStoryModel.readsAll(Z)Z -/
def f_X10_readsAll_J189 (k99 : St → Int → Prop) (Q : St → Int → Prop) (σ : St) : Prop :=
  k99 σ 0
def f_X10_readsAll_J174 (k99 : St → Int → Prop) (Q : St → Int → Prop) (σ : St) (v2 : Int) : Prop :=
  inR v2 ∧ ((v2 = 0 → f_X10_readsAll_J189 k99 Q σ) ∧ (¬ v2 = 0 → inR (σ 0 37) ∧ (((σ 0 37) = 0 → f_X10_readsAll_J189 k99 Q σ) ∧ (¬ (σ 0 37) = 0 → k99 σ 1))))
def f_X10_readsAll_J127 (k99 : St → Int → Prop) (Q : St → Int → Prop) (σ : St) (s1 : Int) : Prop :=
  f_X10_requires s1 σ (fun σ1 => f_X10_readsAll_J174 k99 Q σ1 0)
def f_X10_readsAll_J156 (k99 : St → Int → Prop) (Q : St → Int → Prop) (σ : St) (v2 : Int) (v3 : Int) : Prop :=
  inR v3 ∧ ((¬ v3 = 125 → f_X10_readsStatement v3 σ (fun σ1 => f_X10_readsAll_J174 k99 Q σ1 v2)) ∧ (v3 = 125 → f_X10_closes σ (fun σ2 => f_X10_readsAll_J174 k99 Q σ2 v2)))
def f_X10_readsAll_L99 (Q : St → Int → Prop) : Nat → St → Int → Prop
  | 0, _, _ => False
  | n + 1, σ, v2 => inR v2 ∧ ((v2 = 0 → inR (σ 0 37) ∧ (((σ 0 37) = 0 → Q σ 0) ∧ (¬ (σ 0 37) = 0 → f_X10_resolves σ (fun σ1 r1 => inR r1 ∧ ((r1 = 0 → Q σ1 0) ∧ (¬ r1 = 0 → Q σ1 1)))))) ∧ (¬ v2 = 0 → f_X10_here σ (fun σ2 r2 => inR r2 ∧ ((¬ r2 = (-1) → inR r2 ∧ ((¬ r2 = 61 → f_X10_readsAll_J156 (fun σ' v2' => f_X10_readsAll_L99 Q n σ' v2') Q σ2 v2 r2) ∧ (r2 = 61 → inR (σ2 0 39) ∧ ((¬ (σ2 0 39) = 1 → f_X10_readsAll_J156 (fun σ' v2' => f_X10_readsAll_L99 Q n σ' v2') Q σ2 v2 r2) ∧ ((σ2 0 39) = 1 → f_X10_readsNode σ2 (fun σ3 => f_X10_readsAll_J174 (fun σ' v2' => f_X10_readsAll_L99 Q n σ' v2') Q σ3 v2)))))) ∧ (r2 = (-1) → inR (σ2 0 39) ∧ ((¬ (σ2 0 39) = 1 → f_X10_readsAll_J127 (fun σ' v2' => f_X10_readsAll_L99 Q n σ' v2') Q σ2 0) ∧ ((σ2 0 39) = 1 → f_X10_readsAll_J127 (fun σ' v2' => f_X10_readsAll_L99 Q n σ' v2') Q σ2 1)))))))
def f_X10_readsAll_L71 (Q : St → Int → Prop) : Nat → St → Int → Prop
  | 0, _, _ => False
  | n + 1, σ, v2 => inR v2 ∧ ((12 ≤ v2 → f_X10_readsNode σ (fun σ1 => ∀ x1 : Int, x1 = (σ1 0 37) → f_X10_readsAll_L99 Q FU σ1 x1)) ∧ (¬ 12 ≤ v2 → 0 ≤ v2 ∧ v2 < 12 ∧ ∀ σ2 : St, σ2 = sset σ 23 v2.toNat (-1) → f_X10_readsAll_L71 Q n σ2 (v2 + 1)))
def f_X10_readsAll_J21 (Q : St → Int → Prop) (σ : St) (s1 : Int) : Prop :=
  ∀ σ1 : St, σ1 = sset σ 0 35 s1 → ∀ σ2 : St, σ2 = sset σ1 0 36 0 → ∀ σ3 : St, σ3 = sset σ2 0 37 1 → ∀ σ4 : St, σ4 = sset σ3 0 15 0 → ∀ σ5 : St, σ5 = sset σ4 0 19 0 → ∀ σ6 : St, σ6 = sset σ5 0 25 0 → ∀ σ7 : St, σ7 = sset σ6 0 30 0 → ∀ σ8 : St, σ8 = sset σ7 0 32 0 → ∀ σ9 : St, σ9 = sset σ8 0 33 0 → ∀ σ10 : St, σ10 = sset σ9 0 39 0 → f_X10_readsAll_L71 Q FU σ10 0
def f_X10_readsAll (a0 : Int) (σ : St) (Q : St → Int → Prop) : Prop :=
  (a0 = 0 ∨ a0 = 1) ∧ ∀ σ1 : St, σ1 = sset σ 0 34 a0 → inR a0 ∧ ((a0 = 0 → f_X10_readsAll_J21 Q σ1 (σ1 0 1)) ∧ (¬ a0 = 0 → f_X10_readsAll_J21 Q σ1 (σ1 0 3)))
set_option maxRecDepth 100000 in
set_option maxHeartbeats 4000000 in
theorem w_X10_readsAll_J189 {X : Cx} {Y : Cy} {k99 : St → Int → Prop} {Q : St → Int → Prop} (ok : Ok X Y KM cX10_readsAll 4 RX10 (rm0q 6 135) (some .boolean)) (hk99 : ∀ (σ : St) (v2 : Int) , k99 σ v2 → Wq X Y KM 4 (QF X Y (Qiq Y KM Q)) σ 99 [(0, .inr (.inr 0)), (2, .inl v2)] []) (σ : St) (h : f_X10_readsAll_J189 k99 Q σ ) : Wq X Y KM 4 (QF X Y (Qiq Y KM Q)) σ 189 [(0, .inr (.inr 0))] [] := by
  unfold f_X10_readsAll_J189 at h
  refine q_iconst ok dX10_readsAll_189 ?_
  refine q_istore_n (lv' := [(2, .inl 0), (0, .inr (.inr 0))]) ok dX10_readsAll_190 (by decide) rfl ?_
  refine q_goto (tgt := 99) ok dX10_readsAll_191 (by decide) ?_
  refine q_sub [1, 0] rfl ?_
  exact hk99 σ 0 h
set_option maxRecDepth 100000 in
set_option maxHeartbeats 4000000 in
theorem w_X10_readsAll_J174 {X : Cx} {Y : Cy} {k99 : St → Int → Prop} {Q : St → Int → Prop} (ok : Ok X Y KM cX10_readsAll 4 RX10 (rm0q 6 135) (some .boolean)) (hk99 : ∀ (σ : St) (v2 : Int) , k99 σ v2 → Wq X Y KM 4 (QF X Y (Qiq Y KM Q)) σ 99 [(0, .inr (.inr 0)), (2, .inl v2)] []) (σ : St) (v2 : Int) (h : f_X10_readsAll_J174 k99 Q σ v2) : Wq X Y KM 4 (QF X Y (Qiq Y KM Q)) σ 174 [(0, .inr (.inr 0)), (2, .inl v2)] [] := by
  unfold f_X10_readsAll_J174 at h
  refine q_iload_n ok dX10_readsAll_174 1 rfl ?_
  obtain ⟨g1, hT2a, hT2b⟩ := h
  refine q_if_eq (tgt := 189) ok dX10_readsAll_175 (by decide) g1 (fun c2 => ?_) (fun c2 => ?_)
  · have h := hT2a c2
    refine q_sub [0] rfl ?_
    exact w_X10_readsAll_J189 ok hk99 σ h
  · have h := hT2b c2
    refine q_aload_n ok dX10_readsAll_178 0 rfl ?_
    refine q_getI ok fl_X10_157 kM_0 fM_0_37 dX10_readsAll_179 ?_
    obtain ⟨g2, hT1a, hT1b⟩ := h
    refine q_if_eq (tgt := 189) ok dX10_readsAll_182 (by decide) g2 (fun c1 => ?_) (fun c1 => ?_)
    · have h := hT1a c1
      refine q_sub [0] rfl ?_
      exact w_X10_readsAll_J189 ok hk99 σ h
    · have h := hT1b c1
      refine q_iconst ok dX10_readsAll_185 ?_
      refine q_goto (tgt := 190) ok dX10_readsAll_186 (by decide) ?_
      refine q_istore_n (lv' := [(2, .inl 1), (0, .inr (.inr 0))]) ok dX10_readsAll_190 (by decide) rfl ?_
      refine q_goto (tgt := 99) ok dX10_readsAll_191 (by decide) ?_
      refine q_sub [1, 0] rfl ?_
      exact hk99 σ 1 h
set_option maxRecDepth 100000 in
set_option maxHeartbeats 4000000 in
theorem w_X10_readsAll_J127 {X : Cx} {Y : Cy} {k99 : St → Int → Prop} {Q : St → Int → Prop} (ok : Ok X Y KM cX10_readsAll 4 RX10 (rm0q 6 135) (some .boolean)) (hk99 : ∀ (σ : St) (v2 : Int) , k99 σ v2 → Wq X Y KM 4 (QF X Y (Qiq Y KM Q)) σ 99 [(0, .inr (.inr 0)), (2, .inl v2)] []) (σ : St) (s1 : Int) (h : f_X10_readsAll_J127 k99 Q σ s1) : Wq X Y KM 4 (QF X Y (Qiq Y KM Q)) σ 127 [(0, .inr (.inr 0))] [.inl s1, .inr (.inr 0)] := by
  unfold f_X10_readsAll_J127 at h
  refine q_callVV (st := []) ok cs_X10_164 kM_0 rfl (c_X10_requires X.2.1 Y ok.2.2.2.2.2.2.2.2 h) ⟨rfl, rfl, Nat.le_of_ble_eq_true rfl, Nat.le_of_ble_eq_true rfl⟩ rfl rfl (Nat.le_of_ble_eq_true rfl) dX10_readsAll_127 (fun σ1 h => ?_)
  refine q_iconst ok dX10_readsAll_130 ?_
  refine q_istore_n (lv' := [(2, .inl 0), (0, .inr (.inr 0))]) ok dX10_readsAll_131 (by decide) rfl ?_
  refine q_goto (tgt := 174) ok dX10_readsAll_132 (by decide) ?_
  refine q_sub [1, 0] rfl ?_
  exact w_X10_readsAll_J174 ok hk99 σ1 0 h
set_option maxRecDepth 100000 in
set_option maxHeartbeats 4000000 in
theorem w_X10_readsAll_J156 {X : Cx} {Y : Cy} {k99 : St → Int → Prop} {Q : St → Int → Prop} (ok : Ok X Y KM cX10_readsAll 4 RX10 (rm0q 6 135) (some .boolean)) (hk99 : ∀ (σ : St) (v2 : Int) , k99 σ v2 → Wq X Y KM 4 (QF X Y (Qiq Y KM Q)) σ 99 [(0, .inr (.inr 0)), (2, .inl v2)] []) (σ : St) (v2 : Int) (v3 : Int) (h : f_X10_readsAll_J156 k99 Q σ v2 v3) : Wq X Y KM 4 (QF X Y (Qiq Y KM Q)) σ 156 [(0, .inr (.inr 0)), (2, .inl v2), (3, .inl v3)] [] := by
  unfold f_X10_readsAll_J156 at h
  refine q_iload_n ok dX10_readsAll_156 2 rfl ?_
  refine q_bipush ok dX10_readsAll_157 rfl ?_
  obtain ⟨g1, hT1a, hT1b⟩ := h
  refine q_icmp_ne (tgt := 169) ok dX10_readsAll_159 (by decide) g1 (by unfold inR; decide) (fun c1 => ?_) (fun c1 => ?_)
  · have h := hT1a c1
    refine q_aload_n ok dX10_readsAll_169 0 rfl ?_
    refine q_iload_n ok dX10_readsAll_170 2 rfl ?_
    refine q_callVV (st := []) ok cs_X10_246 kM_0 rfl (c_X10_readsStatement X.2.1 Y ok.2.2.2.2.2.2.2.2 h) ⟨rfl, rfl, Nat.le_of_ble_eq_true rfl, Nat.le_of_ble_eq_true rfl⟩ rfl rfl (Nat.le_of_ble_eq_true rfl) dX10_readsAll_171 (fun σ1 h => ?_)
    refine q_sub [0, 1] rfl ?_
    exact w_X10_readsAll_J174 ok hk99 σ1 v2 h
  · have h := hT1b c1
    refine q_aload_n ok dX10_readsAll_162 0 rfl ?_
    refine q_callVV (st := []) ok cs_X10_243 kM_0 rfl (c_X10_closes X.2.1 Y ok.2.2.2.2.2.2.2.2 h) ⟨rfl, rfl, Nat.le_of_ble_eq_true rfl, Nat.le_of_ble_eq_true rfl⟩ rfl rfl (Nat.le_of_ble_eq_true rfl) dX10_readsAll_163 (fun σ2 h => ?_)
    refine q_goto (tgt := 174) ok dX10_readsAll_166 (by decide) ?_
    refine q_sub [0, 1] rfl ?_
    exact w_X10_readsAll_J174 ok hk99 σ2 v2 h
set_option maxRecDepth 100000 in
set_option maxHeartbeats 4000000 in
theorem w_X10_readsAll_L99 {X : Cx} {Y : Cy} {Q : St → Int → Prop} (ok : Ok X Y KM cX10_readsAll 4 RX10 (rm0q 6 135) (some .boolean)) : ∀ (n : Nat) (σ : St) (v2 : Int) , f_X10_readsAll_L99 Q n σ v2 → Wq X Y KM 4 (QF X Y (Qiq Y KM Q)) σ 99 [(0, .inr (.inr 0)), (2, .inl v2)] [] := by
  intro n
  induction n with
  | zero => intro σ v2 h; exact h.elim
  | succ n ih =>
    intro σ v2 h
    rw [f_X10_readsAll_L99] at h
    refine q_iload_n ok dX10_readsAll_99 1 rfl ?_
    obtain ⟨g1, hT7a, hT7b⟩ := h
    refine q_if_eq (tgt := 194) ok dX10_readsAll_100 (by decide) g1 (fun c7 => ?_) (fun c7 => ?_)
    · have h := hT7a c7
      refine q_aload_n ok dX10_readsAll_194 0 rfl ?_
      refine q_getI ok fl_X10_157 kM_0 fM_0_37 dX10_readsAll_195 ?_
      obtain ⟨g2, hT2a, hT2b⟩ := h
      refine q_if_eq (tgt := 212) ok dX10_readsAll_198 (by decide) g2 (fun c2 => ?_) (fun c2 => ?_)
      · have h := hT2a c2
        refine q_iconst ok dX10_readsAll_212 ?_
        exact q_zret ok dX10_readsAll_213 (by decide) h
      · have h := hT2b c2
        refine q_aload_n ok dX10_readsAll_201 0 rfl ?_
        refine q_callVI (st := []) ok cs_X10_249 kM_0 rfl (c_X10_resolves X.2.1 Y ok.2.2.2.2.2.2.2.2 h) ⟨rfl, rfl, Nat.le_of_ble_eq_true rfl, Nat.le_of_ble_eq_true rfl⟩ rfl rfl (Nat.le_of_ble_eq_true rfl) dX10_readsAll_202 (fun σ1 r1 h => ?_)
        obtain ⟨g3, hT1a, hT1b⟩ := h
        refine q_if_eq (tgt := 212) ok dX10_readsAll_205 (by decide) g3 (fun c1 => ?_) (fun c1 => ?_)
        · have h := hT1a c1
          refine q_iconst ok dX10_readsAll_212 ?_
          exact q_zret ok dX10_readsAll_213 (by decide) h
        · have h := hT1b c1
          refine q_iconst ok dX10_readsAll_208 ?_
          refine q_goto (tgt := 213) ok dX10_readsAll_209 (by decide) ?_
          exact q_zret ok dX10_readsAll_213 (by decide) h
    · have h := hT7b c7
      refine q_aload_n ok dX10_readsAll_103 0 rfl ?_
      refine q_callVI (st := []) ok cs_X10_160 kM_0 rfl (c_X10_here X.2.1 Y ok.2.2.2.2.2.2.2.2 h) ⟨rfl, rfl, Nat.le_of_ble_eq_true rfl, Nat.le_of_ble_eq_true rfl⟩ rfl rfl (Nat.le_of_ble_eq_true rfl) dX10_readsAll_104 (fun σ2 r2 h => ?_)
      refine q_istore_n (lv' := [(3, .inl r2), (0, .inr (.inr 0)), (2, .inl v2)]) ok dX10_readsAll_107 (by decide) rfl ?_
      refine q_iload_n ok dX10_readsAll_108 0 rfl ?_
      refine q_iconst ok dX10_readsAll_109 ?_
      obtain ⟨g4, hT6a, hT6b⟩ := h
      refine q_icmp_ne (tgt := 135) ok dX10_readsAll_110 (by decide) g4 (by unfold inR; decide) (fun c6 => ?_) (fun c6 => ?_)
      · have h := hT6a c6
        refine q_iload_n ok dX10_readsAll_135 0 rfl ?_
        refine q_bipush ok dX10_readsAll_136 rfl ?_
        obtain ⟨g5, hT4a, hT4b⟩ := h
        refine q_icmp_ne (tgt := 156) ok dX10_readsAll_138 (by decide) g5 (by unfold inR; decide) (fun c4 => ?_) (fun c4 => ?_)
        · have h := hT4a c4
          refine q_sub [1, 2, 0] rfl ?_
          exact w_X10_readsAll_J156 ok ih σ2 v2 r2 h
        · have h := hT4b c4
          refine q_aload_n ok dX10_readsAll_141 1 rfl ?_
          refine q_getI ok fl_X10_178 kM_0 fM_0_39 dX10_readsAll_142 ?_
          refine q_iconst ok dX10_readsAll_145 ?_
          obtain ⟨g6, hT3a, hT3b⟩ := h
          refine q_icmp_ne (tgt := 156) ok dX10_readsAll_146 (by decide) g6 (by unfold inR; decide) (fun c3 => ?_) (fun c3 => ?_)
          · have h := hT3a c3
            refine q_sub [1, 2, 0] rfl ?_
            exact w_X10_readsAll_J156 ok ih σ2 v2 r2 h
          · have h := hT3b c3
            refine q_aload_n ok dX10_readsAll_149 1 rfl ?_
            refine q_callVV (st := []) ok cs_X10_240 kM_0 rfl (c_X10_readsNode X.2.1 Y ok.2.2.2.2.2.2.2.2 h) ⟨rfl, rfl, Nat.le_of_ble_eq_true rfl, Nat.le_of_ble_eq_true rfl⟩ rfl rfl (Nat.le_of_ble_eq_true rfl) dX10_readsAll_150 (fun σ3 h => ?_)
            refine q_goto (tgt := 174) ok dX10_readsAll_153 (by decide) ?_
            refine q_sub [1, 2] rfl ?_
            exact w_X10_readsAll_J174 ok ih σ3 v2 h
      · have h := hT6b c6
        refine q_aload_n ok dX10_readsAll_113 1 rfl ?_
        refine q_aload_n ok dX10_readsAll_114 1 rfl ?_
        refine q_getI ok fl_X10_178 kM_0 fM_0_39 dX10_readsAll_115 ?_
        refine q_iconst ok dX10_readsAll_118 ?_
        obtain ⟨g7, hT5a, hT5b⟩ := h
        refine q_icmp_ne (tgt := 126) ok dX10_readsAll_119 (by decide) g7 (by unfold inR; decide) (fun c5 => ?_) (fun c5 => ?_)
        · have h := hT5a c5
          refine q_iconst ok dX10_readsAll_126 ?_
          refine q_sub [1] rfl ?_
          exact w_X10_readsAll_J127 ok ih σ2 0 h
        · have h := hT5b c5
          refine q_iconst ok dX10_readsAll_122 ?_
          refine q_goto (tgt := 127) ok dX10_readsAll_123 (by decide) ?_
          refine q_sub [1] rfl ?_
          exact w_X10_readsAll_J127 ok ih σ2 1 h
set_option maxRecDepth 100000 in
set_option maxHeartbeats 4000000 in
theorem w_X10_readsAll_L71 {X : Cx} {Y : Cy} {Q : St → Int → Prop} (ok : Ok X Y KM cX10_readsAll 4 RX10 (rm0q 6 135) (some .boolean)) : ∀ (n : Nat) (σ : St) (v2 : Int) , f_X10_readsAll_L71 Q n σ v2 → Wq X Y KM 4 (QF X Y (Qiq Y KM Q)) σ 71 [(0, .inr (.inr 0)), (2, .inl v2)] [] := by
  intro n
  induction n with
  | zero => intro σ v2 h; exact h.elim
  | succ n ih =>
    intro σ v2 h
    rw [f_X10_readsAll_L71] at h
    refine q_iload_n ok dX10_readsAll_71 1 rfl ?_
    refine q_bipush ok dX10_readsAll_72 rfl ?_
    obtain ⟨g1, hT1a, hT1b⟩ := h
    refine q_icmp_ge (tgt := 90) ok dX10_readsAll_74 (by decide) g1 (by unfold inR; decide) (fun c1 => ?_) (fun c1 => ?_)
    · have h := hT1a c1
      refine q_aload_n ok dX10_readsAll_90 0 rfl ?_
      refine q_callVV (st := []) ok cs_X10_240 kM_0 rfl (c_X10_readsNode X.2.1 Y ok.2.2.2.2.2.2.2.2 h) ⟨rfl, rfl, Nat.le_of_ble_eq_true rfl, Nat.le_of_ble_eq_true rfl⟩ rfl rfl (Nat.le_of_ble_eq_true rfl) dX10_readsAll_91 (fun σ1 h => ?_)
      refine q_aload_n ok dX10_readsAll_94 0 rfl ?_
      refine q_getI ok fl_X10_157 kM_0 fM_0_37 dX10_readsAll_95 ?_
      refine wq_i (fun x1 ex1 => ?_)
      have h := h x1 ex1
      refine q_istore_n (lv' := [(2, .inl x1), (0, .inr (.inr 0))]) ok dX10_readsAll_98 (by decide) rfl ?_
      refine q_sub [1, 0] rfl ?_
      exact w_X10_readsAll_L99 ok FU σ1 x1 h
    · have h := hT1b c1
      refine q_aload_n ok dX10_readsAll_77 0 rfl ?_
      refine q_getC ok fl_X10_77 kM_0 fM_0_29 dX10_readsAll_78 ?_
      refine q_iload_n ok dX10_readsAll_81 1 rfl ?_
      refine q_iconst ok dX10_readsAll_82 ?_
      obtain ⟨g2, g3, h⟩ := h
      refine q_iast ok kM_ok kM_23 g2 g3 dX10_readsAll_83 (wq_s (fun σ2 eσ2 => ?_))
      have h := h σ2 eσ2
      refine q_iinc (lv' := [(2, .inl (v2 + 1)), (0, .inr (.inr 0))]) ok dX10_readsAll_84 1 rfl (by decide) rfl ?_
      refine q_goto (tgt := 71) ok dX10_readsAll_87 (by decide) ?_
      refine q_sub [1, 0] rfl ?_
      exact ih σ2 (v2 + 1) h
set_option maxRecDepth 100000 in
set_option maxHeartbeats 4000000 in
theorem w_X10_readsAll_J21 {X : Cx} {Y : Cy} {Q : St → Int → Prop} (ok : Ok X Y KM cX10_readsAll 4 RX10 (rm0q 6 135) (some .boolean)) (σ : St) (s1 : Int) (h : f_X10_readsAll_J21 Q σ s1) : Wq X Y KM 4 (QF X Y (Qiq Y KM Q)) σ 21 [(0, .inr (.inr 0))] [.inl s1, .inr (.inr 0)] := by
  unfold f_X10_readsAll_J21 at h
  refine q_putI ok fp_X10_154 kM_0 fM_0_35 dX10_readsAll_21 (wq_s (fun σ1 eσ1 => ?_))
  have h := h σ1 eσ1
  refine q_aload_n ok dX10_readsAll_24 0 rfl ?_
  refine q_iconst ok dX10_readsAll_25 ?_
  refine q_putI ok fp_X10_151 kM_0 fM_0_36 dX10_readsAll_26 (wq_s (fun σ2 eσ2 => ?_))
  have h := h σ2 eσ2
  refine q_aload_n ok dX10_readsAll_29 0 rfl ?_
  refine q_iconst ok dX10_readsAll_30 ?_
  refine q_putZ ok fp_X10_157 kM_0 fM_0_37 dX10_readsAll_31 (by decide) (wq_s (fun σ3 eσ3 => ?_))
  have h := h σ3 eσ3
  refine q_aload_n ok dX10_readsAll_34 0 rfl ?_
  refine q_iconst ok dX10_readsAll_35 ?_
  refine q_putI ok fp_X10_181 kM_0 fM_0_15 dX10_readsAll_36 (wq_s (fun σ4 eσ4 => ?_))
  have h := h σ4 eσ4
  refine q_aload_n ok dX10_readsAll_39 0 rfl ?_
  refine q_iconst ok dX10_readsAll_40 ?_
  refine q_putI ok fp_X10_184 kM_0 fM_0_19 dX10_readsAll_41 (wq_s (fun σ5 eσ5 => ?_))
  have h := h σ5 eσ5
  refine q_aload_n ok dX10_readsAll_44 0 rfl ?_
  refine q_iconst ok dX10_readsAll_45 ?_
  refine q_putI ok fp_X10_175 kM_0 fM_0_25 dX10_readsAll_46 (wq_s (fun σ6 eσ6 => ?_))
  have h := h σ6 eσ6
  refine q_aload_n ok dX10_readsAll_49 0 rfl ?_
  refine q_iconst ok dX10_readsAll_50 ?_
  refine q_putI ok fp_X10_195 kM_0 fM_0_30 dX10_readsAll_51 (wq_s (fun σ7 eσ7 => ?_))
  have h := h σ7 eσ7
  refine q_aload_n ok dX10_readsAll_54 0 rfl ?_
  refine q_iconst ok dX10_readsAll_55 ?_
  refine q_putI ok fp_X10_222 kM_0 fM_0_32 dX10_readsAll_56 (wq_s (fun σ8 eσ8 => ?_))
  have h := h σ8 eσ8
  refine q_aload_n ok dX10_readsAll_59 0 rfl ?_
  refine q_iconst ok dX10_readsAll_60 ?_
  refine q_putI ok fp_X10_208 kM_0 fM_0_33 dX10_readsAll_61 (wq_s (fun σ9 eσ9 => ?_))
  have h := h σ9 eσ9
  refine q_aload_n ok dX10_readsAll_64 0 rfl ?_
  refine q_iconst ok dX10_readsAll_65 ?_
  refine q_putI ok fp_X10_178 kM_0 fM_0_39 dX10_readsAll_66 (wq_s (fun σ10 eσ10 => ?_))
  have h := h σ10 eσ10
  refine q_iconst ok dX10_readsAll_69 ?_
  refine q_istore_n (lv' := [(2, .inl 0), (0, .inr (.inr 0))]) ok dX10_readsAll_70 (by decide) rfl ?_
  refine q_sub [1, 0] rfl ?_
  exact w_X10_readsAll_L71 ok FU σ10 0 h
set_option maxRecDepth 100000 in
set_option maxHeartbeats 4000000 in
theorem c_X10_readsAll (l : Launch) (Y : Cy) (hD : ∀ σ, va_D Y.2.2.2 (wsOf KM Y.2.1 Y.2.2.1 σ)) {a0 : Int} {σ : St} {Q : St → Int → Prop} (h : f_X10_readsAll a0 σ Q) : ConI l yX10_readsAll cX10_readsAll 4 .boolean (rm0q 6 135) Y KM σ [.inr (.inr 0), .inl a0] Q := con_of (lv := [(0, .inr (.inr 0)), (1, .inl a0)]) (by decide) hD (Nat.le_of_ble_eq_true rfl) rfl (fun X _ ok => by
  have ok : Ok X Y KM cX10_readsAll 4 RX10 (rm0q 6 135) (some .boolean) := ok
  unfold f_X10_readsAll at h
  refine q_aload_n ok dX10_readsAll_0 0 rfl ?_
  refine q_iload_n ok dX10_readsAll_1 1 rfl ?_
  obtain ⟨g1, h⟩ := h
  refine q_putZ ok fp_X10_147 kM_0 fM_0_34 dX10_readsAll_2 g1 (wq_s (fun σ1 eσ1 => ?_))
  have h := h σ1 eσ1
  refine q_aload_n ok dX10_readsAll_5 0 rfl ?_
  refine q_iload_n ok dX10_readsAll_6 1 rfl ?_
  obtain ⟨g2, hT1a, hT1b⟩ := h
  refine q_if_eq (tgt := 17) ok dX10_readsAll_7 (by decide) g2 (fun c1 => ?_) (fun c1 => ?_)
  · have h := hT1a c1
    refine q_aload_n ok dX10_readsAll_17 0 rfl ?_
    refine q_getI ok fl_X10_237 kM_0 fM_0_1 dX10_readsAll_18 ?_
    refine q_sub [0] rfl ?_
    exact w_X10_readsAll_J21 ok σ1 (σ1 0 1) h
  · have h := hT1b c1
    refine q_aload_n ok dX10_readsAll_10 0 rfl ?_
    refine q_getI ok fl_X10_234 kM_0 fM_0_3 dX10_readsAll_11 ?_
    refine q_goto (tgt := 21) ok dX10_readsAll_14 (by decide) ?_
    refine q_sub [0] rfl ?_
    exact w_X10_readsAll_J21 ok σ1 (σ1 0 3) h)
/-! BranchingStoryModel.type(I)I -/
def f_X10_type (a0 : Int) (σ : St) (Q : St → Int → Prop) : Prop :=
  ∀ σ1 : St, σ1 = sset σ 0 5 0 → f_X10_in a0 0 255 σ1 (fun σ2 r1 => inR r1 ∧ ((¬ r1 = 0 → inR (σ2 0 1) ∧ ((¬ (σ2 0 1) = 400 → 0 ≤ (σ2 0 1) ∧ (σ2 0 1) < 400 ∧ ∀ σ3 : St, σ3 = sset σ2 1 (σ2 0 1).toNat a0 → ∀ σ4 : St, σ4 = sset σ3 0 1 ((σ3 0 1) + 1) → Q σ4 (σ4 0 1)) ∧ ((σ2 0 1) = 400 → f_X10_fails 2 σ2 (fun σ5 r2 => Q σ5 r2)))) ∧ (r1 = 0 → f_X10_fails 1 σ2 (fun σ6 r3 => Q σ6 r3))))
set_option maxRecDepth 100000 in
set_option maxHeartbeats 4000000 in
theorem c_X10_type (l : Launch) (Y : Cy) (hD : ∀ σ, va_D Y.2.2.2 (wsOf KM Y.2.1 Y.2.2.1 σ)) {a0 : Int} {σ : St} {Q : St → Int → Prop} (h : f_X10_type a0 σ Q) : ConI l yX10_type cX10_type 2 .int (rm0q 1 22) Y KM σ [.inr (.inr 0), .inl a0] Q := con_of (lv := [(0, .inr (.inr 0)), (1, .inl a0)]) (by decide) hD (Nat.le_of_ble_eq_true rfl) rfl (fun X _ ok => by
  have ok : Ok X Y KM cX10_type 2 RX10 (rm0q 1 22) (some .int) := ok
  unfold f_X10_type at h
  refine q_aload_n ok dX10_type_0 0 rfl ?_
  refine q_iconst ok dX10_type_1 ?_
  refine q_putI ok fp_X10_143 kM_0 fM_0_5 dX10_type_2 (wq_s (fun σ1 eσ1 => ?_))
  have h := h σ1 eσ1
  refine q_iload_n ok dX10_type_5 1 rfl ?_
  refine q_iconst ok dX10_type_6 ?_
  refine q_sipush ok dX10_type_7 rfl ?_
  refine q_callSI (st := []) ok cs_X10_168 (c_X10_in X.2.1 Y ok.2.2.2.2.2.2.2.2 h) ⟨rfl, rfl, Nat.le_of_ble_eq_true rfl, Nat.le_of_ble_eq_true rfl⟩ rfl rfl (Nat.le_of_ble_eq_true rfl) dX10_type_10 (fun σ2 r1 h => ?_)
  obtain ⟨g1, hT2a, hT2b⟩ := h
  refine q_if_ne (tgt := 22) ok dX10_type_13 (by decide) g1 (fun c2 => ?_) (fun c2 => ?_)
  · have h := hT2a c2
    refine q_aload_n ok dX10_type_22 0 rfl ?_
    refine q_getI ok fl_X10_237 kM_0 fM_0_1 dX10_type_23 ?_
    refine q_sipush ok dX10_type_26 rfl ?_
    obtain ⟨g2, hT1a, hT1b⟩ := h
    refine q_icmp_ne (tgt := 38) ok dX10_type_29 (by decide) g2 (by unfold inR; decide) (fun c1 => ?_) (fun c1 => ?_)
    · have h := hT1a c1
      refine q_aload_n ok dX10_type_38 0 rfl ?_
      refine q_getC ok fl_X10_7 kM_0 fM_0_0 dX10_type_39 ?_
      refine q_aload_n ok dX10_type_42 0 rfl ?_
      refine q_getI ok fl_X10_237 kM_0 fM_0_1 dX10_type_43 ?_
      refine q_iload_n ok dX10_type_46 1 rfl ?_
      obtain ⟨g3, g4, h⟩ := h
      refine q_iast ok kM_ok kM_1 g3 g4 dX10_type_47 (wq_s (fun σ3 eσ3 => ?_))
      have h := h σ3 eσ3
      refine q_aload_n ok dX10_type_48 0 rfl ?_
      refine q_dup ok dX10_type_49 rfl ?_
      refine q_getI ok fl_X10_237 kM_0 fM_0_1 dX10_type_50 ?_
      refine q_iconst ok dX10_type_53 ?_
      refine q_iadd ok dX10_type_54 ?_
      refine q_putI ok fp_X10_237 kM_0 fM_0_1 dX10_type_55 (wq_s (fun σ4 eσ4 => ?_))
      have h := h σ4 eσ4
      refine q_aload_n ok dX10_type_58 0 rfl ?_
      refine q_getI ok fl_X10_237 kM_0 fM_0_1 dX10_type_59 ?_
      exact q_iret ok dX10_type_62 h
    · have h := hT1b c1
      refine q_aload_n ok dX10_type_32 0 rfl ?_
      refine q_iconst ok dX10_type_33 ?_
      refine q_callVI (st := []) ok cs_X10_253 kM_0 rfl (c_X10_fails X.2.1 Y ok.2.2.2.2.2.2.2.2 h) ⟨rfl, rfl, Nat.le_of_ble_eq_true rfl, Nat.le_of_ble_eq_true rfl⟩ rfl rfl (Nat.le_of_ble_eq_true rfl) dX10_type_34 (fun σ5 r2 h => ?_)
      exact q_iret ok dX10_type_37 h
  · have h := hT2b c2
    refine q_aload_n ok dX10_type_16 0 rfl ?_
    refine q_iconst ok dX10_type_17 ?_
    refine q_callVI (st := []) ok cs_X10_253 kM_0 rfl (c_X10_fails X.2.1 Y ok.2.2.2.2.2.2.2.2 h) ⟨rfl, rfl, Nat.le_of_ble_eq_true rfl, Nat.le_of_ble_eq_true rfl⟩ rfl rfl (Nat.le_of_ble_eq_true rfl) dX10_type_18 (fun σ6 r3 h => ?_)
    exact q_iret ok dX10_type_21 h)
/-! BranchingStoryModel.clearText()I -/
def f_X10_clearText (σ : St) (Q : St → Int → Prop) : Prop :=
  ∀ σ1 : St, σ1 = sset σ 0 5 0 → ∀ x1 : Int, x1 = (σ1 0 1) → ∀ σ2 : St, σ2 = sset σ1 0 1 0 → Q σ2 x1
set_option maxRecDepth 100000 in
set_option maxHeartbeats 4000000 in
theorem c_X10_clearText (l : Launch) (Y : Cy) (hD : ∀ σ, va_D Y.2.2.2 (wsOf KM Y.2.1 Y.2.2.1 σ)) {σ : St} {Q : St → Int → Prop} (h : f_X10_clearText  σ Q) : ConI l yX10_clearText cX10_clearText 2 .int (rm0q 0 0) Y KM σ [.inr (.inr 0)] Q := con_of (lv := [(0, .inr (.inr 0))]) (by decide) hD (Nat.le_of_ble_eq_true rfl) rfl (fun X _ ok => by
  have ok : Ok X Y KM cX10_clearText 2 RX10 (rm0q 0 0) (some .int) := ok
  unfold f_X10_clearText at h
  refine q_aload_n ok dX10_clearText_0 0 rfl ?_
  refine q_iconst ok dX10_clearText_1 ?_
  refine q_putI ok fp_X10_143 kM_0 fM_0_5 dX10_clearText_2 (wq_s (fun σ1 eσ1 => ?_))
  have h := h σ1 eσ1
  refine q_aload_n ok dX10_clearText_5 0 rfl ?_
  refine q_getI ok fl_X10_237 kM_0 fM_0_1 dX10_clearText_6 ?_
  refine wq_i (fun x1 ex1 => ?_)
  have h := h x1 ex1
  refine q_istore_n (lv' := [(1, .inl x1), (0, .inr (.inr 0))]) ok dX10_clearText_9 (by decide) rfl ?_
  refine q_aload_n ok dX10_clearText_10 1 rfl ?_
  refine q_iconst ok dX10_clearText_11 ?_
  refine q_putI ok fp_X10_237 kM_0 fM_0_1 dX10_clearText_12 (wq_s (fun σ2 eσ2 => ?_))
  have h := h σ2 eσ2
  refine q_iload_n ok dX10_clearText_15 0 rfl ?_
  exact q_iret ok dX10_clearText_16 h)
/-! BranchingStoryModel.fault()I -/
def f_X10_fault_J23 (Q : St → Int → Prop) (σ : St) (s0 : Int) : Prop :=
  inR (σ 0 4) ∧ (((σ 0 4) = 0 → Q σ s0) ∧ (¬ (σ 0 4) = 0 → f_X10_readsAll 1 σ (fun σ1 r1 => Q σ1 s0)))
def f_X10_fault (σ : St) (Q : St → Int → Prop) : Prop :=
  ∀ σ1 : St, σ1 = sset σ 0 5 0 → f_X10_readsAll 0 σ1 (fun σ2 r1 => inR r1 ∧ ((r1 = 0 → f_X10_fault_J23 Q σ2 (σ2 0 36)) ∧ (¬ r1 = 0 → f_X10_fault_J23 Q σ2 (-1))))
set_option maxRecDepth 100000 in
set_option maxHeartbeats 4000000 in
theorem w_X10_fault_J23 {X : Cx} {Y : Cy} {Q : St → Int → Prop} (ok : Ok X Y KM cX10_fault 3 RX10 (rm0q 7 158) (some .int)) (σ : St) (s0 : Int) (h : f_X10_fault_J23 Q σ s0) : Wq X Y KM 3 (QF X Y (Qiq Y KM Q)) σ 23 [(0, .inr (.inr 0))] [.inl s0] := by
  unfold f_X10_fault_J23 at h
  refine q_istore_n (lv' := [(2, .inl s0), (0, .inr (.inr 0))]) ok dX10_fault_23 (by decide) rfl ?_
  refine q_aload_n ok dX10_fault_24 1 rfl ?_
  refine q_getI ok fl_X10_261 kM_0 fM_0_4 dX10_fault_25 ?_
  obtain ⟨g1, hT1a, hT1b⟩ := h
  refine q_if_eq (tgt := 37) ok dX10_fault_28 (by decide) g1 (fun c1 => ?_) (fun c1 => ?_)
  · have h := hT1a c1
    refine q_iload_n ok dX10_fault_37 0 rfl ?_
    exact q_iret ok dX10_fault_38 h
  · have h := hT1b c1
    refine q_aload_n ok dX10_fault_31 1 rfl ?_
    refine q_iconst ok dX10_fault_32 ?_
    refine q_callVI (st := []) ok cs_X10_257 kM_0 rfl (c_X10_readsAll X.2.1 Y ok.2.2.2.2.2.2.2.2 h) ⟨rfl, rfl, Nat.le_of_ble_eq_true rfl, Nat.le_of_ble_eq_true rfl⟩ rfl rfl (Nat.le_of_ble_eq_true rfl) dX10_fault_33 (fun σ1 r1 h => ?_)
    refine q_istore_n (lv' := [(1, .inl r1), (2, .inl s0), (0, .inr (.inr 0))]) ok dX10_fault_36 (by decide) rfl ?_
    refine q_iload_n ok dX10_fault_37 1 rfl ?_
    exact q_iret ok dX10_fault_38 h
set_option maxRecDepth 100000 in
set_option maxHeartbeats 4000000 in
theorem c_X10_fault (l : Launch) (Y : Cy) (hD : ∀ σ, va_D Y.2.2.2 (wsOf KM Y.2.1 Y.2.2.1 σ)) {σ : St} {Q : St → Int → Prop} (h : f_X10_fault  σ Q) : ConI l yX10_fault cX10_fault 3 .int (rm0q 7 158) Y KM σ [.inr (.inr 0)] Q := con_of (lv := [(0, .inr (.inr 0))]) (by decide) hD (Nat.le_of_ble_eq_true rfl) rfl (fun X _ ok => by
  have ok : Ok X Y KM cX10_fault 3 RX10 (rm0q 7 158) (some .int) := ok
  unfold f_X10_fault at h
  refine q_aload_n ok dX10_fault_0 0 rfl ?_
  refine q_iconst ok dX10_fault_1 ?_
  refine q_putI ok fp_X10_143 kM_0 fM_0_5 dX10_fault_2 (wq_s (fun σ1 eσ1 => ?_))
  have h := h σ1 eσ1
  refine q_aload_n ok dX10_fault_5 0 rfl ?_
  refine q_iconst ok dX10_fault_6 ?_
  refine q_callVI (st := []) ok cs_X10_257 kM_0 rfl (c_X10_readsAll X.2.1 Y ok.2.2.2.2.2.2.2.2 h) ⟨rfl, rfl, Nat.le_of_ble_eq_true rfl, Nat.le_of_ble_eq_true rfl⟩ rfl rfl (Nat.le_of_ble_eq_true rfl) dX10_fault_7 (fun σ2 r1 h => ?_)
  refine q_istore_n (lv' := [(1, .inl r1), (0, .inr (.inr 0))]) ok dX10_fault_10 (by decide) rfl ?_
  refine q_iload_n ok dX10_fault_11 0 rfl ?_
  obtain ⟨g1, hT1a, hT1b⟩ := h
  refine q_if_eq (tgt := 19) ok dX10_fault_12 (by decide) g1 (fun c1 => ?_) (fun c1 => ?_)
  · have h := hT1a c1
    refine q_aload_n ok dX10_fault_19 1 rfl ?_
    refine q_getI ok fl_X10_151 kM_0 fM_0_36 dX10_fault_20 ?_
    refine q_sub [1] rfl ?_
    exact w_X10_fault_J23 ok σ2 (σ2 0 36) h
  · have h := hT1b c1
    refine q_iconst ok dX10_fault_15 ?_
    refine q_goto (tgt := 23) ok dX10_fault_16 (by decide) ?_
    refine q_sub [1] rfl ?_
    exact w_X10_fault_J23 ok σ2 (-1) h)
/-! BranchingStoryModel.build()I -/
def f_X10_build_L66 (Q : St → Int → Prop) : Nat → St → Int → Prop
  | 0, _, _ => False
  | n + 1, σ, v1 => inR v1 ∧ ((31 ≤ v1 → ∀ σ1 : St, σ1 = sset σ 0 42 0 → ∀ σ2 : St, σ2 = sset σ1 0 53 0 → ∀ σ3 : St, σ3 = sset σ2 0 70 0 → Q σ3 (σ3 0 30)) ∧ (¬ 31 ≤ v1 → 0 ≤ v1 ∧ v1 < 31 ∧ ∀ σ4 : St, σ4 = sset σ 26 v1.toNat 0 → f_X10_build_L66 Q n σ4 (v1 + 1)))
def f_X10_build_L21 (Q : St → Int → Prop) : Nat → St → Int → Prop
  | 0, _, _ => False
  | n + 1, σ, v1 => inR v1 ∧ inR (σ 0 1) ∧ (((σ 0 1) ≤ v1 → ∀ σ1 : St, σ1 = sset σ 0 3 (σ 0 1) → f_X10_readsAll 1 σ1 (fun σ2 r1 => (r1 = 0 ∨ r1 = 1) ∧ ∀ σ3 : St, σ3 = sset σ2 0 4 r1 → f_X10_build_L66 Q FU σ3 0)) ∧ (¬ (σ 0 1) ≤ v1 → 0 ≤ v1 ∧ v1 < 400 ∧ 0 ≤ v1 ∧ v1 < 400 ∧ ∀ σ4 : St, σ4 = sset σ 2 v1.toNat (σ 1 v1.toNat) → f_X10_build_L21 Q n σ4 (v1 + 1)))
def f_X10_build (σ : St) (Q : St → Int → Prop) : Prop :=
  ∀ σ1 : St, σ1 = sset σ 0 5 0 → f_X10_fault σ1 (fun σ2 r1 => inR r1 ∧ ((r1 = (-1) → f_X10_build_L21 Q FU σ2 0) ∧ (¬ r1 = (-1) → f_X10_fails 1 σ2 (fun σ3 r2 => Q σ3 r2))))
set_option maxRecDepth 100000 in
set_option maxHeartbeats 4000000 in
theorem w_X10_build_L66 {X : Cx} {Y : Cy} {Q : St → Int → Prop} (ok : Ok X Y KM cX10_build 2 RX10 (rm0q 8 180) (some .int)) : ∀ (n : Nat) (σ : St) (v1 : Int) , f_X10_build_L66 Q n σ v1 → Wq X Y KM 2 (QF X Y (Qiq Y KM Q)) σ 66 [(0, .inr (.inr 0)), (1, .inl v1)] [] := by
  intro n
  induction n with
  | zero => intro σ v1 h; exact h.elim
  | succ n ih =>
    intro σ v1 h
    rw [f_X10_build_L66] at h
    refine q_iload_n ok dX10_build_66 1 rfl ?_
    refine q_bipush ok dX10_build_67 rfl ?_
    obtain ⟨g1, hT1a, hT1b⟩ := h
    refine q_icmp_ge (tgt := 85) ok dX10_build_69 (by decide) g1 (by unfold inR; decide) (fun c1 => ?_) (fun c1 => ?_)
    · have h := hT1a c1
      refine q_aload_n ok dX10_build_85 0 rfl ?_
      refine q_iconst ok dX10_build_86 ?_
      refine q_putI ok fp_X10_267 kM_0 fM_0_42 dX10_build_87 (wq_s (fun σ1 eσ1 => ?_))
      have h := h σ1 eσ1
      refine q_aload_n ok dX10_build_90 0 rfl ?_
      refine q_iconst ok dX10_build_91 ?_
      refine q_putZ ok fp_X10_270 kM_0 fM_0_53 dX10_build_92 (by decide) (wq_s (fun σ2 eσ2 => ?_))
      have h := h σ2 eσ2
      refine q_aload_n ok dX10_build_95 0 rfl ?_
      refine q_iconst ok dX10_build_96 ?_
      refine q_putZ ok fp_X10_273 kM_0 fM_0_70 dX10_build_97 (by decide) (wq_s (fun σ3 eσ3 => ?_))
      have h := h σ3 eσ3
      refine q_aload_n ok dX10_build_100 0 rfl ?_
      refine q_getI ok fl_X10_195 kM_0 fM_0_30 dX10_build_101 ?_
      exact q_iret ok dX10_build_104 h
    · have h := hT1b c1
      refine q_aload_n ok dX10_build_72 0 rfl ?_
      refine q_getC ok fl_X10_86 kM_0 fM_0_40 dX10_build_73 ?_
      refine q_iload_n ok dX10_build_76 1 rfl ?_
      refine q_iconst ok dX10_build_77 ?_
      obtain ⟨g2, g3, h⟩ := h
      refine q_iast ok kM_ok kM_26 g2 g3 dX10_build_78 (wq_s (fun σ4 eσ4 => ?_))
      have h := h σ4 eσ4
      refine q_iinc (lv' := [(1, .inl (v1 + 1)), (0, .inr (.inr 0))]) ok dX10_build_79 1 rfl (by decide) rfl ?_
      refine q_goto (tgt := 66) ok dX10_build_82 (by decide) ?_
      refine q_sub [1, 0] rfl ?_
      exact ih σ4 (v1 + 1) h
set_option maxRecDepth 100000 in
set_option maxHeartbeats 4000000 in
theorem w_X10_build_L21 {X : Cx} {Y : Cy} {Q : St → Int → Prop} (ok : Ok X Y KM cX10_build 2 RX10 (rm0q 8 180) (some .int)) : ∀ (n : Nat) (σ : St) (v1 : Int) , f_X10_build_L21 Q n σ v1 → Wq X Y KM 2 (QF X Y (Qiq Y KM Q)) σ 21 [(0, .inr (.inr 0)), (1, .inl v1)] [] := by
  intro n
  induction n with
  | zero => intro σ v1 h; exact h.elim
  | succ n ih =>
    intro σ v1 h
    rw [f_X10_build_L21] at h
    refine q_iload_n ok dX10_build_21 1 rfl ?_
    refine q_aload_n ok dX10_build_22 0 rfl ?_
    refine q_getI ok fl_X10_237 kM_0 fM_0_1 dX10_build_23 ?_
    obtain ⟨g1, g2, hT1a, hT1b⟩ := h
    refine q_icmp_ge (tgt := 47) ok dX10_build_26 (by decide) g1 g2 (fun c1 => ?_) (fun c1 => ?_)
    · have h := hT1a c1
      refine q_aload_n ok dX10_build_47 0 rfl ?_
      refine q_aload_n ok dX10_build_48 0 rfl ?_
      refine q_getI ok fl_X10_237 kM_0 fM_0_1 dX10_build_49 ?_
      refine q_putI ok fp_X10_234 kM_0 fM_0_3 dX10_build_52 (wq_s (fun σ1 eσ1 => ?_))
      have h := h σ1 eσ1
      refine q_aload_n ok dX10_build_55 0 rfl ?_
      refine q_aload_n ok dX10_build_56 0 rfl ?_
      refine q_iconst ok dX10_build_57 ?_
      refine q_callVI (st := [.inr (.inr 0)]) ok cs_X10_257 kM_0 rfl (c_X10_readsAll X.2.1 Y ok.2.2.2.2.2.2.2.2 h) ⟨rfl, rfl, Nat.le_of_ble_eq_true rfl, Nat.le_of_ble_eq_true rfl⟩ rfl rfl (Nat.le_of_ble_eq_true rfl) dX10_build_58 (fun σ2 r1 h => ?_)
      obtain ⟨g3, h⟩ := h
      refine q_putZ ok fp_X10_261 kM_0 fM_0_4 dX10_build_61 g3 (wq_s (fun σ3 eσ3 => ?_))
      have h := h σ3 eσ3
      refine q_iconst ok dX10_build_64 ?_
      refine q_istore_n (lv' := [(1, .inl 0), (0, .inr (.inr 0))]) ok dX10_build_65 (by decide) rfl ?_
      refine q_sub [1, 0] rfl ?_
      exact w_X10_build_L66 ok FU σ3 0 h
    · have h := hT1b c1
      refine q_aload_n ok dX10_build_29 0 rfl ?_
      refine q_getC ok fl_X10_13 kM_0 fM_0_2 dX10_build_30 ?_
      refine q_iload_n ok dX10_build_33 1 rfl ?_
      refine q_aload_n ok dX10_build_34 0 rfl ?_
      refine q_getC ok fl_X10_7 kM_0 fM_0_0 dX10_build_35 ?_
      refine q_iload_n ok dX10_build_38 1 rfl ?_
      obtain ⟨g4, g5, h⟩ := h
      refine q_iald ok kM_ok kM_1 g4 g5 dX10_build_39 ?_
      obtain ⟨g6, g7, h⟩ := h
      refine q_iast ok kM_ok kM_2 g6 g7 dX10_build_40 (wq_s (fun σ4 eσ4 => ?_))
      have h := h σ4 eσ4
      refine q_iinc (lv' := [(1, .inl (v1 + 1)), (0, .inr (.inr 0))]) ok dX10_build_41 1 rfl (by decide) rfl ?_
      refine q_goto (tgt := 21) ok dX10_build_44 (by decide) ?_
      refine q_sub [1, 0] rfl ?_
      exact ih σ4 (v1 + 1) h
set_option maxRecDepth 100000 in
set_option maxHeartbeats 4000000 in
theorem c_X10_build (l : Launch) (Y : Cy) (hD : ∀ σ, va_D Y.2.2.2 (wsOf KM Y.2.1 Y.2.2.1 σ)) {σ : St} {Q : St → Int → Prop} (h : f_X10_build  σ Q) : ConI l yX10_build cX10_build 2 .int (rm0q 8 180) Y KM σ [.inr (.inr 0)] Q := con_of (lv := [(0, .inr (.inr 0))]) (by decide) hD (Nat.le_of_ble_eq_true rfl) rfl (fun X _ ok => by
  have ok : Ok X Y KM cX10_build 2 RX10 (rm0q 8 180) (some .int) := ok
  unfold f_X10_build at h
  refine q_aload_n ok dX10_build_0 0 rfl ?_
  refine q_iconst ok dX10_build_1 ?_
  refine q_putI ok fp_X10_143 kM_0 fM_0_5 dX10_build_2 (wq_s (fun σ1 eσ1 => ?_))
  have h := h σ1 eσ1
  refine q_aload_n ok dX10_build_5 0 rfl ?_
  refine q_callVI (st := []) ok cs_X10_264 kM_0 rfl (c_X10_fault X.2.1 Y ok.2.2.2.2.2.2.2.2 h) ⟨rfl, rfl, Nat.le_of_ble_eq_true rfl, Nat.le_of_ble_eq_true rfl⟩ rfl rfl (Nat.le_of_ble_eq_true rfl) dX10_build_6 (fun σ2 r1 h => ?_)
  refine q_iconst ok dX10_build_9 ?_
  obtain ⟨g1, hT1a, hT1b⟩ := h
  refine q_icmp_eq (tgt := 19) ok dX10_build_10 (by decide) g1 (by unfold inR; decide) (fun c1 => ?_) (fun c1 => ?_)
  · have h := hT1a c1
    refine q_iconst ok dX10_build_19 ?_
    refine q_istore_n (lv' := [(1, .inl 0), (0, .inr (.inr 0))]) ok dX10_build_20 (by decide) rfl ?_
    refine q_sub [1, 0] rfl ?_
    exact w_X10_build_L21 ok FU σ2 0 h
  · have h := hT1b c1
    refine q_aload_n ok dX10_build_13 0 rfl ?_
    refine q_iconst ok dX10_build_14 ?_
    refine q_callVI (st := []) ok cs_X10_253 kM_0 rfl (c_X10_fails X.2.1 Y ok.2.2.2.2.2.2.2.2 h) ⟨rfl, rfl, Nat.le_of_ble_eq_true rfl, Nat.le_of_ble_eq_true rfl⟩ rfl rfl (Nat.le_of_ble_eq_true rfl) dX10_build_15 (fun σ3 r2 h => ?_)
    exact q_iret ok dX10_build_18 h)
/-! BranchingStoryModel.count(I)I -/
def f_X10_count (a0 : Int) (σ : St) (Q : St → Int → Prop) : Prop :=
  ∀ σ1 : St, σ1 = sset σ 0 5 0 → f_X10_in a0 0 2 σ1 (fun σ2 r1 => inR r1 ∧ ((¬ r1 = 0 → inR (σ2 0 4) ∧ ((¬ (σ2 0 4) = 0 → inR a0 ∧ ((¬ a0 = 0 → inR a0 ∧ ((¬ a0 = 1 → Q σ2 (σ2 0 33)) ∧ (a0 = 1 → Q σ2 (σ2 0 32)))) ∧ (a0 = 0 → Q σ2 (σ2 0 30)))) ∧ ((σ2 0 4) = 0 → Q σ2 0))) ∧ (r1 = 0 → f_X10_fails 1 σ2 (fun σ3 r2 => Q σ3 r2))))
set_option maxRecDepth 100000 in
set_option maxHeartbeats 4000000 in
theorem c_X10_count (l : Launch) (Y : Cy) (hD : ∀ σ, va_D Y.2.2.2 (wsOf KM Y.2.1 Y.2.2.1 σ)) {a0 : Int} {σ : St} {Q : St → Int → Prop} (h : f_X10_count a0 σ Q) : ConI l yX10_count cX10_count 2 .int (rm0q 1 22) Y KM σ [.inr (.inr 0), .inl a0] Q := con_of (lv := [(0, .inr (.inr 0)), (1, .inl a0)]) (by decide) hD (Nat.le_of_ble_eq_true rfl) rfl (fun X _ ok => by
  have ok : Ok X Y KM cX10_count 2 RX10 (rm0q 1 22) (some .int) := ok
  unfold f_X10_count at h
  refine q_aload_n ok dX10_count_0 0 rfl ?_
  refine q_iconst ok dX10_count_1 ?_
  refine q_putI ok fp_X10_143 kM_0 fM_0_5 dX10_count_2 (wq_s (fun σ1 eσ1 => ?_))
  have h := h σ1 eσ1
  refine q_iload_n ok dX10_count_5 1 rfl ?_
  refine q_iconst ok dX10_count_6 ?_
  refine q_iconst ok dX10_count_7 ?_
  refine q_callSI (st := []) ok cs_X10_168 (c_X10_in X.2.1 Y ok.2.2.2.2.2.2.2.2 h) ⟨rfl, rfl, Nat.le_of_ble_eq_true rfl, Nat.le_of_ble_eq_true rfl⟩ rfl rfl (Nat.le_of_ble_eq_true rfl) dX10_count_8 (fun σ2 r1 h => ?_)
  obtain ⟨g1, hT4a, hT4b⟩ := h
  refine q_if_ne (tgt := 20) ok dX10_count_11 (by decide) g1 (fun c4 => ?_) (fun c4 => ?_)
  · have h := hT4a c4
    refine q_aload_n ok dX10_count_20 0 rfl ?_
    refine q_getI ok fl_X10_261 kM_0 fM_0_4 dX10_count_21 ?_
    obtain ⟨g2, hT3a, hT3b⟩ := h
    refine q_if_ne (tgt := 31) ok dX10_count_24 (by decide) g2 (fun c3 => ?_) (fun c3 => ?_)
    · have h := hT3a c3
      refine q_iload_n ok dX10_count_31 1 rfl ?_
      obtain ⟨g3, hT2a, hT2b⟩ := h
      refine q_if_ne (tgt := 42) ok dX10_count_32 (by decide) g3 (fun c2 => ?_) (fun c2 => ?_)
      · have h := hT2a c2
        refine q_iload_n ok dX10_count_42 1 rfl ?_
        refine q_iconst ok dX10_count_43 ?_
        obtain ⟨g4, hT1a, hT1b⟩ := h
        refine q_icmp_ne (tgt := 54) ok dX10_count_44 (by decide) g4 (by unfold inR; decide) (fun c1 => ?_) (fun c1 => ?_)
        · have h := hT1a c1
          refine q_aload_n ok dX10_count_54 0 rfl ?_
          refine q_getI ok fl_X10_208 kM_0 fM_0_33 dX10_count_55 ?_
          exact q_iret ok dX10_count_58 h
        · have h := hT1b c1
          refine q_aload_n ok dX10_count_47 0 rfl ?_
          refine q_getI ok fl_X10_222 kM_0 fM_0_32 dX10_count_48 ?_
          refine q_goto (tgt := 58) ok dX10_count_51 (by decide) ?_
          exact q_iret ok dX10_count_58 h
      · have h := hT2b c2
        refine q_aload_n ok dX10_count_35 0 rfl ?_
        refine q_getI ok fl_X10_195 kM_0 fM_0_30 dX10_count_36 ?_
        refine q_goto (tgt := 58) ok dX10_count_39 (by decide) ?_
        exact q_iret ok dX10_count_58 h
    · have h := hT3b c3
      refine q_iconst ok dX10_count_27 ?_
      refine q_goto (tgt := 58) ok dX10_count_28 (by decide) ?_
      exact q_iret ok dX10_count_58 h
  · have h := hT4b c4
    refine q_aload_n ok dX10_count_14 0 rfl ?_
    refine q_iconst ok dX10_count_15 ?_
    refine q_callVI (st := []) ok cs_X10_253 kM_0 rfl (c_X10_fails X.2.1 Y ok.2.2.2.2.2.2.2.2 h) ⟨rfl, rfl, Nat.le_of_ble_eq_true rfl, Nat.le_of_ble_eq_true rfl⟩ rfl rfl (Nat.le_of_ble_eq_true rfl) dX10_count_16 (fun σ3 r2 h => ?_)
    exact q_iret ok dX10_count_19 h)
/-! BranchingStoryModel.isNode(I)Z -/
def f_X10_isNode (a0 : Int) (σ : St) (Q : St → Int → Prop) : Prop :=
  inR (σ 0 4) ∧ (((σ 0 4) = 0 → Q σ 0) ∧ (¬ (σ 0 4) = 0 → f_X10_in a0 0 ((σ 0 30) - 1) σ (fun σ1 r1 => inR r1 ∧ ((r1 = 0 → Q σ1 0) ∧ (¬ r1 = 0 → Q σ1 1)))))
set_option maxRecDepth 100000 in
set_option maxHeartbeats 4000000 in
theorem c_X10_isNode (l : Launch) (Y : Cy) (hD : ∀ σ, va_D Y.2.2.2 (wsOf KM Y.2.1 Y.2.2.1 σ)) {a0 : Int} {σ : St} {Q : St → Int → Prop} (h : f_X10_isNode a0 σ Q) : ConI l yX10_isNode cX10_isNode 2 .boolean (rm0q 1 22) Y KM σ [.inr (.inr 0), .inl a0] Q := con_of (lv := [(0, .inr (.inr 0)), (1, .inl a0)]) (by decide) hD (Nat.le_of_ble_eq_true rfl) rfl (fun X _ ok => by
  have ok : Ok X Y KM cX10_isNode 2 RX10 (rm0q 1 22) (some .boolean) := ok
  unfold f_X10_isNode at h
  refine q_aload_n ok dX10_isNode_0 0 rfl ?_
  refine q_getI ok fl_X10_261 kM_0 fM_0_4 dX10_isNode_1 ?_
  obtain ⟨g1, hT2a, hT2b⟩ := h
  refine q_if_eq (tgt := 25) ok dX10_isNode_4 (by decide) g1 (fun c2 => ?_) (fun c2 => ?_)
  · have h := hT2a c2
    refine q_iconst ok dX10_isNode_25 ?_
    exact q_zret ok dX10_isNode_26 (by decide) h
  · have h := hT2b c2
    refine q_iload_n ok dX10_isNode_7 1 rfl ?_
    refine q_iconst ok dX10_isNode_8 ?_
    refine q_aload_n ok dX10_isNode_9 0 rfl ?_
    refine q_getI ok fl_X10_195 kM_0 fM_0_30 dX10_isNode_10 ?_
    refine q_iconst ok dX10_isNode_13 ?_
    refine q_isub ok dX10_isNode_14 ?_
    refine q_callSI (st := []) ok cs_X10_168 (c_X10_in X.2.1 Y ok.2.2.2.2.2.2.2.2 h) ⟨rfl, rfl, Nat.le_of_ble_eq_true rfl, Nat.le_of_ble_eq_true rfl⟩ rfl rfl (Nat.le_of_ble_eq_true rfl) dX10_isNode_15 (fun σ1 r1 h => ?_)
    obtain ⟨g2, hT1a, hT1b⟩ := h
    refine q_if_eq (tgt := 25) ok dX10_isNode_18 (by decide) g2 (fun c1 => ?_) (fun c1 => ?_)
    · have h := hT1a c1
      refine q_iconst ok dX10_isNode_25 ?_
      exact q_zret ok dX10_isNode_26 (by decide) h
    · have h := hT1b c1
      refine q_iconst ok dX10_isNode_21 ?_
      refine q_goto (tgt := 26) ok dX10_isNode_22 (by decide) ?_
      exact q_zret ok dX10_isNode_26 (by decide) h)
/-! BranchingStoryModel.isChoice(I)Z -/
def f_X10_isChoice (a0 : Int) (σ : St) (Q : St → Int → Prop) : Prop :=
  inR (σ 0 4) ∧ (((σ 0 4) = 0 → Q σ 0) ∧ (¬ (σ 0 4) = 0 → f_X10_in a0 0 ((σ 0 32) - 1) σ (fun σ1 r1 => inR r1 ∧ ((r1 = 0 → Q σ1 0) ∧ (¬ r1 = 0 → Q σ1 1)))))
set_option maxRecDepth 100000 in
set_option maxHeartbeats 4000000 in
theorem c_X10_isChoice (l : Launch) (Y : Cy) (hD : ∀ σ, va_D Y.2.2.2 (wsOf KM Y.2.1 Y.2.2.1 σ)) {a0 : Int} {σ : St} {Q : St → Int → Prop} (h : f_X10_isChoice a0 σ Q) : ConI l yX10_isChoice cX10_isChoice 2 .boolean (rm0q 1 22) Y KM σ [.inr (.inr 0), .inl a0] Q := con_of (lv := [(0, .inr (.inr 0)), (1, .inl a0)]) (by decide) hD (Nat.le_of_ble_eq_true rfl) rfl (fun X _ ok => by
  have ok : Ok X Y KM cX10_isChoice 2 RX10 (rm0q 1 22) (some .boolean) := ok
  unfold f_X10_isChoice at h
  refine q_aload_n ok dX10_isChoice_0 0 rfl ?_
  refine q_getI ok fl_X10_261 kM_0 fM_0_4 dX10_isChoice_1 ?_
  obtain ⟨g1, hT2a, hT2b⟩ := h
  refine q_if_eq (tgt := 25) ok dX10_isChoice_4 (by decide) g1 (fun c2 => ?_) (fun c2 => ?_)
  · have h := hT2a c2
    refine q_iconst ok dX10_isChoice_25 ?_
    exact q_zret ok dX10_isChoice_26 (by decide) h
  · have h := hT2b c2
    refine q_iload_n ok dX10_isChoice_7 1 rfl ?_
    refine q_iconst ok dX10_isChoice_8 ?_
    refine q_aload_n ok dX10_isChoice_9 0 rfl ?_
    refine q_getI ok fl_X10_222 kM_0 fM_0_32 dX10_isChoice_10 ?_
    refine q_iconst ok dX10_isChoice_13 ?_
    refine q_isub ok dX10_isChoice_14 ?_
    refine q_callSI (st := []) ok cs_X10_168 (c_X10_in X.2.1 Y ok.2.2.2.2.2.2.2.2 h) ⟨rfl, rfl, Nat.le_of_ble_eq_true rfl, Nat.le_of_ble_eq_true rfl⟩ rfl rfl (Nat.le_of_ble_eq_true rfl) dX10_isChoice_15 (fun σ1 r1 h => ?_)
    obtain ⟨g2, hT1a, hT1b⟩ := h
    refine q_if_eq (tgt := 25) ok dX10_isChoice_18 (by decide) g2 (fun c1 => ?_) (fun c1 => ?_)
    · have h := hT1a c1
      refine q_iconst ok dX10_isChoice_25 ?_
      exact q_zret ok dX10_isChoice_26 (by decide) h
    · have h := hT1b c1
      refine q_iconst ok dX10_isChoice_21 ?_
      refine q_goto (tgt := 26) ok dX10_isChoice_22 (by decide) ?_
      exact q_zret ok dX10_isChoice_26 (by decide) h)
/-! BranchingStoryModel.name(I)I -/
def f_X10_name (a0 : Int) (σ : St) (Q : St → Int → Prop) : Prop :=
  ∀ σ1 : St, σ1 = sset σ 0 5 0 → f_X10_isNode a0 σ1 (fun σ2 r1 => inR r1 ∧ ((r1 = 0 → f_X10_fails 1 σ2 (fun σ3 r2 => Q σ3 r2)) ∧ (¬ r1 = 0 → 0 ≤ a0 ∧ a0 < 12 ∧ Q σ2 (σ2 20 a0.toNat))))
set_option maxRecDepth 100000 in
set_option maxHeartbeats 4000000 in
theorem c_X10_name (l : Launch) (Y : Cy) (hD : ∀ σ, va_D Y.2.2.2 (wsOf KM Y.2.1 Y.2.2.1 σ)) {a0 : Int} {σ : St} {Q : St → Int → Prop} (h : f_X10_name a0 σ Q) : ConI l yX10_name cX10_name 2 .int (rm0q 2 43) Y KM σ [.inr (.inr 0), .inl a0] Q := con_of (lv := [(0, .inr (.inr 0)), (1, .inl a0)]) (by decide) hD (Nat.le_of_ble_eq_true rfl) rfl (fun X _ ok => by
  have ok : Ok X Y KM cX10_name 2 RX10 (rm0q 2 43) (some .int) := ok
  unfold f_X10_name at h
  refine q_aload_n ok dX10_name_0 0 rfl ?_
  refine q_iconst ok dX10_name_1 ?_
  refine q_putI ok fp_X10_143 kM_0 fM_0_5 dX10_name_2 (wq_s (fun σ1 eσ1 => ?_))
  have h := h σ1 eσ1
  refine q_aload_n ok dX10_name_5 0 rfl ?_
  refine q_iload_n ok dX10_name_6 1 rfl ?_
  refine q_callVI (st := []) ok cs_X10_276 kM_0 rfl (c_X10_isNode X.2.1 Y ok.2.2.2.2.2.2.2.2 h) ⟨rfl, rfl, Nat.le_of_ble_eq_true rfl, Nat.le_of_ble_eq_true rfl⟩ rfl rfl (Nat.le_of_ble_eq_true rfl) dX10_name_7 (fun σ2 r1 h => ?_)
  obtain ⟨g1, hT1a, hT1b⟩ := h
  refine q_if_eq (tgt := 22) ok dX10_name_10 (by decide) g1 (fun c1 => ?_) (fun c1 => ?_)
  · have h := hT1a c1
    refine q_aload_n ok dX10_name_22 0 rfl ?_
    refine q_iconst ok dX10_name_23 ?_
    refine q_callVI (st := []) ok cs_X10_253 kM_0 rfl (c_X10_fails X.2.1 Y ok.2.2.2.2.2.2.2.2 h) ⟨rfl, rfl, Nat.le_of_ble_eq_true rfl, Nat.le_of_ble_eq_true rfl⟩ rfl rfl (Nat.le_of_ble_eq_true rfl) dX10_name_24 (fun σ3 r2 h => ?_)
    exact q_iret ok dX10_name_27 h
  · have h := hT1b c1
    refine q_aload_n ok dX10_name_13 0 rfl ?_
    refine q_getC ok fl_X10_67 kM_0 fM_0_26 dX10_name_14 ?_
    refine q_iload_n ok dX10_name_17 1 rfl ?_
    obtain ⟨g2, g3, h⟩ := h
    refine q_iald ok kM_ok kM_20 g2 g3 dX10_name_18 ?_
    refine q_goto (tgt := 27) ok dX10_name_19 (by decide) ?_
    exact q_iret ok dX10_name_27 h)
/-! BranchingStoryModel.isHub(I)Z -/
def f_X10_isHub (a0 : Int) (σ : St) (Q : St → Int → Prop) : Prop :=
  ∀ σ1 : St, σ1 = sset σ 0 5 0 → f_X10_isNode a0 σ1 (fun σ2 r1 => inR r1 ∧ ((¬ r1 = 0 → 0 ≤ a0 ∧ a0 < 12 ∧ ((σ2 21 a0.toNat) = 0 ∨ (σ2 21 a0.toNat) = 1) ∧ Q σ2 (σ2 21 a0.toNat)) ∧ (r1 = 0 → f_X10_fails 1 σ2 (fun σ3 r2 => Q σ3 0))))
set_option maxRecDepth 100000 in
set_option maxHeartbeats 4000000 in
theorem c_X10_isHub (l : Launch) (Y : Cy) (hD : ∀ σ, va_D Y.2.2.2 (wsOf KM Y.2.1 Y.2.2.1 σ)) {a0 : Int} {σ : St} {Q : St → Int → Prop} (h : f_X10_isHub a0 σ Q) : ConI l yX10_isHub cX10_isHub 2 .boolean (rm0q 2 43) Y KM σ [.inr (.inr 0), .inl a0] Q := con_of (lv := [(0, .inr (.inr 0)), (1, .inl a0)]) (by decide) hD (Nat.le_of_ble_eq_true rfl) rfl (fun X _ ok => by
  have ok : Ok X Y KM cX10_isHub 2 RX10 (rm0q 2 43) (some .boolean) := ok
  unfold f_X10_isHub at h
  refine q_aload_n ok dX10_isHub_0 0 rfl ?_
  refine q_iconst ok dX10_isHub_1 ?_
  refine q_putI ok fp_X10_143 kM_0 fM_0_5 dX10_isHub_2 (wq_s (fun σ1 eσ1 => ?_))
  have h := h σ1 eσ1
  refine q_aload_n ok dX10_isHub_5 0 rfl ?_
  refine q_iload_n ok dX10_isHub_6 1 rfl ?_
  refine q_callVI (st := []) ok cs_X10_276 kM_0 rfl (c_X10_isNode X.2.1 Y ok.2.2.2.2.2.2.2.2 h) ⟨rfl, rfl, Nat.le_of_ble_eq_true rfl, Nat.le_of_ble_eq_true rfl⟩ rfl rfl (Nat.le_of_ble_eq_true rfl) dX10_isHub_7 (fun σ2 r1 h => ?_)
  obtain ⟨g1, hT1a, hT1b⟩ := h
  refine q_if_ne (tgt := 21) ok dX10_isHub_10 (by decide) g1 (fun c1 => ?_) (fun c1 => ?_)
  · have h := hT1a c1
    refine q_aload_n ok dX10_isHub_21 0 rfl ?_
    refine q_getC ok fl_X10_70 kM_0 fM_0_27 dX10_isHub_22 ?_
    refine q_iload_n ok dX10_isHub_25 1 rfl ?_
    obtain ⟨g2, g3, h⟩ := h
    refine q_zald ok kM_ok kM_21 g2 g3 dX10_isHub_26 ?_
    exact q_zret ok dX10_isHub_27 h.1 h.2
  · have h := hT1b c1
    refine q_aload_n ok dX10_isHub_13 0 rfl ?_
    refine q_iconst ok dX10_isHub_14 ?_
    refine q_callVI (st := []) ok cs_X10_253 kM_0 rfl (c_X10_fails X.2.1 Y ok.2.2.2.2.2.2.2.2 h) ⟨rfl, rfl, Nat.le_of_ble_eq_true rfl, Nat.le_of_ble_eq_true rfl⟩ rfl rfl (Nat.le_of_ble_eq_true rfl) dX10_isHub_15 (fun σ3 r2 h => ?_)
    refine q_pop ok dX10_isHub_18 rfl ?_
    refine q_iconst ok dX10_isHub_19 ?_
    exact q_zret ok dX10_isHub_20 (by decide) h)
/-! BranchingStoryModel.label(I)I -/
def f_X10_label (a0 : Int) (σ : St) (Q : St → Int → Prop) : Prop :=
  ∀ σ1 : St, σ1 = sset σ 0 5 0 → f_X10_isChoice a0 σ1 (fun σ2 r1 => inR r1 ∧ ((r1 = 0 → f_X10_fails 1 σ2 (fun σ3 r2 => Q σ3 r2)) ∧ (¬ r1 = 0 → 0 ≤ a0 ∧ a0 < 16 ∧ 0 ≤ (σ2 24 a0.toNat) ∧ (σ2 24 a0.toNat) < 401 ∧ Q σ2 (σ2 5 (σ2 24 a0.toNat).toNat))))
set_option maxRecDepth 100000 in
set_option maxHeartbeats 4000000 in
theorem c_X10_label (l : Launch) (Y : Cy) (hD : ∀ σ, va_D Y.2.2.2 (wsOf KM Y.2.1 Y.2.2.1 σ)) {a0 : Int} {σ : St} {Q : St → Int → Prop} (h : f_X10_label a0 σ Q) : ConI l yX10_label cX10_label 2 .int (rm0q 2 43) Y KM σ [.inr (.inr 0), .inl a0] Q := con_of (lv := [(0, .inr (.inr 0)), (1, .inl a0)]) (by decide) hD (Nat.le_of_ble_eq_true rfl) rfl (fun X _ ok => by
  have ok : Ok X Y KM cX10_label 2 RX10 (rm0q 2 43) (some .int) := ok
  unfold f_X10_label at h
  refine q_aload_n ok dX10_label_0 0 rfl ?_
  refine q_iconst ok dX10_label_1 ?_
  refine q_putI ok fp_X10_143 kM_0 fM_0_5 dX10_label_2 (wq_s (fun σ1 eσ1 => ?_))
  have h := h σ1 eσ1
  refine q_aload_n ok dX10_label_5 0 rfl ?_
  refine q_iload_n ok dX10_label_6 1 rfl ?_
  refine q_callVI (st := []) ok cs_X10_280 kM_0 rfl (c_X10_isChoice X.2.1 Y ok.2.2.2.2.2.2.2.2 h) ⟨rfl, rfl, Nat.le_of_ble_eq_true rfl, Nat.le_of_ble_eq_true rfl⟩ rfl rfl (Nat.le_of_ble_eq_true rfl) dX10_label_7 (fun σ2 r1 h => ?_)
  obtain ⟨g1, hT1a, hT1b⟩ := h
  refine q_if_eq (tgt := 27) ok dX10_label_10 (by decide) g1 (fun c1 => ?_) (fun c1 => ?_)
  · have h := hT1a c1
    refine q_aload_n ok dX10_label_27 0 rfl ?_
    refine q_iconst ok dX10_label_28 ?_
    refine q_callVI (st := []) ok cs_X10_253 kM_0 rfl (c_X10_fails X.2.1 Y ok.2.2.2.2.2.2.2.2 h) ⟨rfl, rfl, Nat.le_of_ble_eq_true rfl, Nat.le_of_ble_eq_true rfl⟩ rfl rfl (Nat.le_of_ble_eq_true rfl) dX10_label_29 (fun σ3 r2 h => ?_)
    exact q_iret ok dX10_label_32 h
  · have h := hT1b c1
    refine q_aload_n ok dX10_label_13 0 rfl ?_
    refine q_getC ok fl_X10_22 kM_0 fM_0_8 dX10_label_14 ?_
    refine q_aload_n ok dX10_label_17 0 rfl ?_
    refine q_getC ok fl_X10_80 kM_0 fM_0_31 dX10_label_18 ?_
    refine q_iload_n ok dX10_label_21 1 rfl ?_
    obtain ⟨g2, g3, h⟩ := h
    refine q_iald ok kM_ok kM_24 g2 g3 dX10_label_22 ?_
    obtain ⟨g4, g5, h⟩ := h
    refine q_iald ok kM_ok kM_5 g4 g5 dX10_label_23 ?_
    refine q_goto (tgt := 32) ok dX10_label_24 (by decide) ?_
    exact q_iret ok dX10_label_32 h)
/-! BranchingStoryModel.nodeOfChoice(I)I -/
def f_X10_nodeOfChoice (a0 : Int) (σ : St) (Q : St → Int → Prop) : Prop :=
  0 ≤ a0 ∧ a0 < 16 ∧ 0 ≤ (σ 24 a0.toNat) ∧ (σ 24 a0.toNat) < 401 ∧ 0 ≤ (σ 7 (σ 24 a0.toNat).toNat) ∧ (σ 7 (σ 24 a0.toNat).toNat) < 64 ∧ Q σ (σ 19 (σ 7 (σ 24 a0.toNat).toNat).toNat)
set_option maxRecDepth 100000 in
set_option maxHeartbeats 4000000 in
theorem c_X10_nodeOfChoice (l : Launch) (Y : Cy) (hD : ∀ σ, va_D Y.2.2.2 (wsOf KM Y.2.1 Y.2.2.1 σ)) {a0 : Int} {σ : St} {Q : St → Int → Prop} (h : f_X10_nodeOfChoice a0 σ Q) : ConI l yX10_nodeOfChoice cX10_nodeOfChoice 2 .int (rm0q 0 0) Y KM σ [.inr (.inr 0), .inl a0] Q := con_of (lv := [(0, .inr (.inr 0)), (1, .inl a0)]) (by decide) hD (Nat.le_of_ble_eq_true rfl) rfl (fun X _ ok => by
  have ok : Ok X Y KM cX10_nodeOfChoice 2 RX10 (rm0q 0 0) (some .int) := ok
  unfold f_X10_nodeOfChoice at h
  refine q_aload_n ok dX10_nodeOfChoice_0 0 rfl ?_
  refine q_getC ok fl_X10_64 kM_0 fM_0_24 dX10_nodeOfChoice_1 ?_
  refine q_aload_n ok dX10_nodeOfChoice_4 0 rfl ?_
  refine q_getC ok fl_X10_28 kM_0 fM_0_10 dX10_nodeOfChoice_5 ?_
  refine q_aload_n ok dX10_nodeOfChoice_8 0 rfl ?_
  refine q_getC ok fl_X10_80 kM_0 fM_0_31 dX10_nodeOfChoice_9 ?_
  refine q_iload_n ok dX10_nodeOfChoice_12 1 rfl ?_
  obtain ⟨g1, g2, h⟩ := h
  refine q_iald ok kM_ok kM_24 g1 g2 dX10_nodeOfChoice_13 ?_
  obtain ⟨g3, g4, h⟩ := h
  refine q_iald ok kM_ok kM_7 g3 g4 dX10_nodeOfChoice_14 ?_
  obtain ⟨g5, g6, h⟩ := h
  refine q_iald ok kM_ok kM_19 g5 g6 dX10_nodeOfChoice_15 ?_
  exact q_iret ok dX10_nodeOfChoice_16 h)
/-! BranchingStoryModel.nodeOf(I)I -/
def f_X10_nodeOf (a0 : Int) (σ : St) (Q : St → Int → Prop) : Prop :=
  ∀ σ1 : St, σ1 = sset σ 0 5 0 → f_X10_isChoice a0 σ1 (fun σ2 r1 => inR r1 ∧ ((r1 = 0 → f_X10_fails 1 σ2 (fun σ3 r2 => Q σ3 r2)) ∧ (¬ r1 = 0 → f_X10_nodeOfChoice a0 σ2 (fun σ4 r3 => Q σ4 r3))))
set_option maxRecDepth 100000 in
set_option maxHeartbeats 4000000 in
theorem c_X10_nodeOf (l : Launch) (Y : Cy) (hD : ∀ σ, va_D Y.2.2.2 (wsOf KM Y.2.1 Y.2.2.1 σ)) {a0 : Int} {σ : St} {Q : St → Int → Prop} (h : f_X10_nodeOf a0 σ Q) : ConI l yX10_nodeOf cX10_nodeOf 2 .int (rm0q 2 43) Y KM σ [.inr (.inr 0), .inl a0] Q := con_of (lv := [(0, .inr (.inr 0)), (1, .inl a0)]) (by decide) hD (Nat.le_of_ble_eq_true rfl) rfl (fun X _ ok => by
  have ok : Ok X Y KM cX10_nodeOf 2 RX10 (rm0q 2 43) (some .int) := ok
  unfold f_X10_nodeOf at h
  refine q_aload_n ok dX10_nodeOf_0 0 rfl ?_
  refine q_iconst ok dX10_nodeOf_1 ?_
  refine q_putI ok fp_X10_143 kM_0 fM_0_5 dX10_nodeOf_2 (wq_s (fun σ1 eσ1 => ?_))
  have h := h σ1 eσ1
  refine q_aload_n ok dX10_nodeOf_5 0 rfl ?_
  refine q_iload_n ok dX10_nodeOf_6 1 rfl ?_
  refine q_callVI (st := []) ok cs_X10_280 kM_0 rfl (c_X10_isChoice X.2.1 Y ok.2.2.2.2.2.2.2.2 h) ⟨rfl, rfl, Nat.le_of_ble_eq_true rfl, Nat.le_of_ble_eq_true rfl⟩ rfl rfl (Nat.le_of_ble_eq_true rfl) dX10_nodeOf_7 (fun σ2 r1 h => ?_)
  obtain ⟨g1, hT1a, hT1b⟩ := h
  refine q_if_eq (tgt := 21) ok dX10_nodeOf_10 (by decide) g1 (fun c1 => ?_) (fun c1 => ?_)
  · have h := hT1a c1
    refine q_aload_n ok dX10_nodeOf_21 0 rfl ?_
    refine q_iconst ok dX10_nodeOf_22 ?_
    refine q_callVI (st := []) ok cs_X10_253 kM_0 rfl (c_X10_fails X.2.1 Y ok.2.2.2.2.2.2.2.2 h) ⟨rfl, rfl, Nat.le_of_ble_eq_true rfl, Nat.le_of_ble_eq_true rfl⟩ rfl rfl (Nat.le_of_ble_eq_true rfl) dX10_nodeOf_23 (fun σ3 r2 h => ?_)
    exact q_iret ok dX10_nodeOf_26 h
  · have h := hT1b c1
    refine q_aload_n ok dX10_nodeOf_13 0 rfl ?_
    refine q_iload_n ok dX10_nodeOf_14 1 rfl ?_
    refine q_callVI (st := []) ok cs_X10_283 kM_0 rfl (c_X10_nodeOfChoice X.2.1 Y ok.2.2.2.2.2.2.2.2 h) ⟨rfl, rfl, Nat.le_of_ble_eq_true rfl, Nat.le_of_ble_eq_true rfl⟩ rfl rfl (Nat.le_of_ble_eq_true rfl) dX10_nodeOf_15 (fun σ4 r3 h => ?_)
    refine q_goto (tgt := 26) ok dX10_nodeOf_18 (by decide) ?_
    exact q_iret ok dX10_nodeOf_26 h)
/-! BranchingStoryModel.termHolds(I)Z -/
def f_X10_termHolds (a0 : Int) (σ : St) (Q : St → Int → Prop) : Prop :=
  0 ≤ a0 ∧ a0 < 401 ∧ inR (σ 12 a0.toNat) ∧ ((2 ≤ (σ 12 a0.toNat) → 0 ≤ a0 ∧ a0 < 401 ∧ 0 ≤ (5 + (σ 13 a0.toNat)) ∧ (5 + (σ 13 a0.toNat)) < 31 ∧ ∀ x1 : Int, x1 = (σ 26 (5 + (σ 13 a0.toNat)).toNat) → 0 ≤ a0 ∧ a0 < 401 ∧ inR (σ 12 a0.toNat) ∧ ((¬ (σ 12 a0.toNat) = 2 → 0 ≤ a0 ∧ a0 < 401 ∧ inR (σ 12 a0.toNat) ∧ ((¬ (σ 12 a0.toNat) = 3 → 0 ≤ a0 ∧ a0 < 401 ∧ inR x1 ∧ inR (σ 14 a0.toNat) ∧ ((¬ x1 = (σ 14 a0.toNat) → Q σ 0) ∧ (x1 = (σ 14 a0.toNat) → Q σ 1))) ∧ ((σ 12 a0.toNat) = 3 → 0 ≤ a0 ∧ a0 < 401 ∧ inR x1 ∧ inR (σ 14 a0.toNat) ∧ ((x1 ≤ (σ 14 a0.toNat) → Q σ 0) ∧ (¬ x1 ≤ (σ 14 a0.toNat) → Q σ 1))))) ∧ ((σ 12 a0.toNat) = 2 → 0 ≤ a0 ∧ a0 < 401 ∧ inR x1 ∧ inR (σ 14 a0.toNat) ∧ (((σ 14 a0.toNat) ≤ x1 → Q σ 0) ∧ (¬ (σ 14 a0.toNat) ≤ x1 → Q σ 1))))) ∧ (¬ 2 ≤ (σ 12 a0.toNat) → 0 ≤ a0 ∧ a0 < 401 ∧ 0 ≤ a0 ∧ a0 < 401 ∧ inR (iand32 (ishr32 (σ 26 4) (σ 13 a0.toNat)) 1) ∧ inR (σ 12 a0.toNat) ∧ (((iand32 (ishr32 (σ 26 4) (σ 13 a0.toNat)) 1) = (σ 12 a0.toNat) → Q σ 0) ∧ (¬ (iand32 (ishr32 (σ 26 4) (σ 13 a0.toNat)) 1) = (σ 12 a0.toNat) → Q σ 1))))
set_option maxRecDepth 100000 in
set_option maxHeartbeats 4000000 in
theorem c_X10_termHolds (l : Launch) (Y : Cy) (hD : ∀ σ, va_D Y.2.2.2 (wsOf KM Y.2.1 Y.2.2.1 σ)) {a0 : Int} {σ : St} {Q : St → Int → Prop} (h : f_X10_termHolds a0 σ Q) : ConI l yX10_termHolds cX10_termHolds 3 .boolean (rm0q 0 0) Y KM σ [.inr (.inr 0), .inl a0] Q := con_of (lv := [(0, .inr (.inr 0)), (1, .inl a0)]) (by decide) hD (Nat.le_of_ble_eq_true rfl) rfl (fun X _ ok => by
  have ok : Ok X Y KM cX10_termHolds 3 RX10 (rm0q 0 0) (some .boolean) := ok
  unfold f_X10_termHolds at h
  refine q_aload_n ok dX10_termHolds_0 0 rfl ?_
  refine q_getC ok fl_X10_43 kM_0 fM_0_16 dX10_termHolds_1 ?_
  refine q_iload_n ok dX10_termHolds_4 1 rfl ?_
  obtain ⟨g1, g2, h⟩ := h
  refine q_iald ok kM_ok kM_12 g1 g2 dX10_termHolds_5 ?_
  refine q_iconst ok dX10_termHolds_6 ?_
  obtain ⟨g3, hT7a, hT7b⟩ := h
  refine q_icmp_ge (tgt := 40) ok dX10_termHolds_7 (by decide) g3 (by unfold inR; decide) (fun c7 => ?_) (fun c7 => ?_)
  · have h := hT7a c7
    refine q_aload_n ok dX10_termHolds_40 0 rfl ?_
    refine q_getC ok fl_X10_86 kM_0 fM_0_40 dX10_termHolds_41 ?_
    refine q_iconst ok dX10_termHolds_44 ?_
    refine q_aload_n ok dX10_termHolds_45 0 rfl ?_
    refine q_getC ok fl_X10_46 kM_0 fM_0_17 dX10_termHolds_46 ?_
    refine q_iload_n ok dX10_termHolds_49 1 rfl ?_
    obtain ⟨g4, g5, h⟩ := h
    refine q_iald ok kM_ok kM_13 g4 g5 dX10_termHolds_50 ?_
    refine q_iadd ok dX10_termHolds_51 ?_
    obtain ⟨g6, g7, h⟩ := h
    refine q_iald ok kM_ok kM_26 g6 g7 dX10_termHolds_52 ?_
    refine wq_i (fun x1 ex1 => ?_)
    have h := h x1 ex1
    refine q_istore_n (lv' := [(2, .inl x1), (0, .inr (.inr 0)), (1, .inl a0)]) ok dX10_termHolds_53 (by decide) rfl ?_
    refine q_aload_n ok dX10_termHolds_54 1 rfl ?_
    refine q_getC ok fl_X10_43 kM_0 fM_0_16 dX10_termHolds_55 ?_
    refine q_iload_n ok dX10_termHolds_58 2 rfl ?_
    obtain ⟨g8, g9, h⟩ := h
    refine q_iald ok kM_ok kM_12 g8 g9 dX10_termHolds_59 ?_
    refine q_iconst ok dX10_termHolds_60 ?_
    obtain ⟨g10, hT5a, hT5b⟩ := h
    refine q_icmp_ne (tgt := 82) ok dX10_termHolds_61 (by decide) g10 (by unfold inR; decide) (fun c5 => ?_) (fun c5 => ?_)
    · have h := hT5a c5
      refine q_aload_n ok dX10_termHolds_82 1 rfl ?_
      refine q_getC ok fl_X10_43 kM_0 fM_0_16 dX10_termHolds_83 ?_
      refine q_iload_n ok dX10_termHolds_86 2 rfl ?_
      obtain ⟨g11, g12, h⟩ := h
      refine q_iald ok kM_ok kM_12 g11 g12 dX10_termHolds_87 ?_
      refine q_iconst ok dX10_termHolds_88 ?_
      obtain ⟨g13, hT3a, hT3b⟩ := h
      refine q_icmp_ne (tgt := 110) ok dX10_termHolds_89 (by decide) g13 (by unfold inR; decide) (fun c3 => ?_) (fun c3 => ?_)
      · have h := hT3a c3
        refine q_iload_n ok dX10_termHolds_110 0 rfl ?_
        refine q_aload_n ok dX10_termHolds_111 1 rfl ?_
        refine q_getC ok fl_X10_49 kM_0 fM_0_18 dX10_termHolds_112 ?_
        refine q_iload_n ok dX10_termHolds_115 2 rfl ?_
        obtain ⟨g14, g15, h⟩ := h
        refine q_iald ok kM_ok kM_14 g14 g15 dX10_termHolds_116 ?_
        obtain ⟨g16, g17, hT1a, hT1b⟩ := h
        refine q_icmp_ne (tgt := 124) ok dX10_termHolds_117 (by decide) g16 g17 (fun c1 => ?_) (fun c1 => ?_)
        · have h := hT1a c1
          refine q_iconst ok dX10_termHolds_124 ?_
          exact q_zret ok dX10_termHolds_125 (by decide) h
        · have h := hT1b c1
          refine q_iconst ok dX10_termHolds_120 ?_
          refine q_goto (tgt := 125) ok dX10_termHolds_121 (by decide) ?_
          exact q_zret ok dX10_termHolds_125 (by decide) h
      · have h := hT3b c3
        refine q_iload_n ok dX10_termHolds_92 0 rfl ?_
        refine q_aload_n ok dX10_termHolds_93 1 rfl ?_
        refine q_getC ok fl_X10_49 kM_0 fM_0_18 dX10_termHolds_94 ?_
        refine q_iload_n ok dX10_termHolds_97 2 rfl ?_
        obtain ⟨g18, g19, h⟩ := h
        refine q_iald ok kM_ok kM_14 g18 g19 dX10_termHolds_98 ?_
        obtain ⟨g20, g21, hT2a, hT2b⟩ := h
        refine q_icmp_le (tgt := 106) ok dX10_termHolds_99 (by decide) g20 g21 (fun c2 => ?_) (fun c2 => ?_)
        · have h := hT2a c2
          refine q_iconst ok dX10_termHolds_106 ?_
          refine q_goto (tgt := 125) ok dX10_termHolds_107 (by decide) ?_
          exact q_zret ok dX10_termHolds_125 (by decide) h
        · have h := hT2b c2
          refine q_iconst ok dX10_termHolds_102 ?_
          refine q_goto (tgt := 125) ok dX10_termHolds_103 (by decide) ?_
          exact q_zret ok dX10_termHolds_125 (by decide) h
    · have h := hT5b c5
      refine q_iload_n ok dX10_termHolds_64 0 rfl ?_
      refine q_aload_n ok dX10_termHolds_65 1 rfl ?_
      refine q_getC ok fl_X10_49 kM_0 fM_0_18 dX10_termHolds_66 ?_
      refine q_iload_n ok dX10_termHolds_69 2 rfl ?_
      obtain ⟨g22, g23, h⟩ := h
      refine q_iald ok kM_ok kM_14 g22 g23 dX10_termHolds_70 ?_
      obtain ⟨g24, g25, hT4a, hT4b⟩ := h
      refine q_icmp_ge (tgt := 78) ok dX10_termHolds_71 (by decide) g24 g25 (fun c4 => ?_) (fun c4 => ?_)
      · have h := hT4a c4
        refine q_iconst ok dX10_termHolds_78 ?_
        refine q_goto (tgt := 125) ok dX10_termHolds_79 (by decide) ?_
        exact q_zret ok dX10_termHolds_125 (by decide) h
      · have h := hT4b c4
        refine q_iconst ok dX10_termHolds_74 ?_
        refine q_goto (tgt := 125) ok dX10_termHolds_75 (by decide) ?_
        exact q_zret ok dX10_termHolds_125 (by decide) h
  · have h := hT7b c7
    refine q_aload_n ok dX10_termHolds_10 0 rfl ?_
    refine q_getC ok fl_X10_86 kM_0 fM_0_40 dX10_termHolds_11 ?_
    refine q_iconst ok dX10_termHolds_14 ?_
    refine q_iald ok kM_ok kM_26 (by decide) (by decide) dX10_termHolds_15 ?_
    refine q_aload_n ok dX10_termHolds_16 0 rfl ?_
    refine q_getC ok fl_X10_46 kM_0 fM_0_17 dX10_termHolds_17 ?_
    refine q_iload_n ok dX10_termHolds_20 1 rfl ?_
    obtain ⟨g26, g27, h⟩ := h
    refine q_iald ok kM_ok kM_13 g26 g27 dX10_termHolds_21 ?_
    refine q_ishr ok dX10_termHolds_22 ?_
    refine q_iconst ok dX10_termHolds_23 ?_
    refine q_iand ok dX10_termHolds_24 ?_
    refine q_aload_n ok dX10_termHolds_25 0 rfl ?_
    refine q_getC ok fl_X10_43 kM_0 fM_0_16 dX10_termHolds_26 ?_
    refine q_iload_n ok dX10_termHolds_29 1 rfl ?_
    obtain ⟨g28, g29, h⟩ := h
    refine q_iald ok kM_ok kM_12 g28 g29 dX10_termHolds_30 ?_
    obtain ⟨g30, g31, hT6a, hT6b⟩ := h
    refine q_icmp_eq (tgt := 38) ok dX10_termHolds_31 (by decide) g30 g31 (fun c6 => ?_) (fun c6 => ?_)
    · have h := hT6a c6
      refine q_iconst ok dX10_termHolds_38 ?_
      exact q_zret ok dX10_termHolds_39 (by decide) h
    · have h := hT6b c6
      refine q_iconst ok dX10_termHolds_34 ?_
      refine q_goto (tgt := 39) ok dX10_termHolds_35 (by decide) ?_
      exact q_zret ok dX10_termHolds_39 (by decide) h)
/-! BranchingStoryModel.holds(I)Z -/
def f_X10_holds_J35 (k9 : St → Int → Int → Int → Prop) (Q : St → Int → Prop) (σ : St) (v1 : Int) (v3 : Int) : Prop :=
  k9 σ v1 0 (v3 + 1)
def f_X10_holds_L9 (Q : St → Int → Prop) : Nat → St → Int → Int → Int → Prop
  | 0, _, _, _, _ => False
  | n + 1, σ, v1, v2, v3 => 0 ≤ v1 ∧ v1 < 401 ∧ inR v3 ∧ inR (σ 11 v1.toNat) ∧ (((σ 11 v1.toNat) ≤ v3 → (v2 = 0 ∨ v2 = 1) ∧ Q σ v2) ∧ (¬ (σ 11 v1.toNat) ≤ v3 → inR v2 ∧ ((v2 = 0 → f_X10_holds_J35 (fun σ' v1' v2' v3' => f_X10_holds_L9 Q n σ' v1' v2' v3') Q σ v1 v3) ∧ (¬ v2 = 0 → f_X10_termHolds v3 σ (fun σ1 r1 => inR r1 ∧ ((r1 = 0 → f_X10_holds_J35 (fun σ' v1' v2' v3' => f_X10_holds_L9 Q n σ' v1' v2' v3') Q σ1 v1 v3) ∧ (¬ r1 = 0 → f_X10_holds_L9 Q n σ1 v1 1 (v3 + 1))))))))
def f_X10_holds (a0 : Int) (σ : St) (Q : St → Int → Prop) : Prop :=
  0 ≤ a0 ∧ a0 < 401 ∧ ∀ x1 : Int, x1 = (σ 10 a0.toNat) → f_X10_holds_L9 Q FU σ a0 1 x1
set_option maxRecDepth 100000 in
set_option maxHeartbeats 4000000 in
theorem w_X10_holds_J35 {X : Cx} {Y : Cy} {k9 : St → Int → Int → Int → Prop} {Q : St → Int → Prop} (ok : Ok X Y KM cX10_holds 4 RX10 (rm0q 1 22) (some .boolean)) (hk9 : ∀ (σ : St) (v1 : Int) (v2 : Int) (v3 : Int) , k9 σ v1 v2 v3 → Wq X Y KM 4 (QF X Y (Qiq Y KM Q)) σ 9 [(0, .inr (.inr 0)), (1, .inl v1), (2, .inl v2), (3, .inl v3)] []) (σ : St) (v1 : Int) (v3 : Int) (h : f_X10_holds_J35 k9 Q σ v1 v3) : Wq X Y KM 4 (QF X Y (Qiq Y KM Q)) σ 35 [(0, .inr (.inr 0)), (1, .inl v1), (3, .inl v3)] [] := by
  unfold f_X10_holds_J35 at h
  refine q_iconst ok dX10_holds_35 ?_
  refine q_istore_n (lv' := [(2, .inl 0), (0, .inr (.inr 0)), (1, .inl v1), (3, .inl v3)]) ok dX10_holds_36 (by decide) rfl ?_
  refine q_iinc (lv' := [(3, .inl (v3 + 1)), (2, .inl 0), (0, .inr (.inr 0)), (1, .inl v1)]) ok dX10_holds_37 3 rfl (by decide) rfl ?_
  refine q_goto (tgt := 9) ok dX10_holds_40 (by decide) ?_
  refine q_sub [2, 3, 1, 0] rfl ?_
  exact hk9 σ v1 0 (v3 + 1) h
set_option maxRecDepth 100000 in
set_option maxHeartbeats 4000000 in
theorem w_X10_holds_L9 {X : Cx} {Y : Cy} {Q : St → Int → Prop} (ok : Ok X Y KM cX10_holds 4 RX10 (rm0q 1 22) (some .boolean)) : ∀ (n : Nat) (σ : St) (v1 : Int) (v2 : Int) (v3 : Int) , f_X10_holds_L9 Q n σ v1 v2 v3 → Wq X Y KM 4 (QF X Y (Qiq Y KM Q)) σ 9 [(0, .inr (.inr 0)), (1, .inl v1), (2, .inl v2), (3, .inl v3)] [] := by
  intro n
  induction n with
  | zero => intro σ v1 v2 v3 h; exact h.elim
  | succ n ih =>
    intro σ v1 v2 v3 h
    rw [f_X10_holds_L9] at h
    refine q_iload_n ok dX10_holds_9 3 rfl ?_
    refine q_aload_n ok dX10_holds_10 0 rfl ?_
    refine q_getC ok fl_X10_40 kM_0 fM_0_14 dX10_holds_11 ?_
    refine q_iload_n ok dX10_holds_14 1 rfl ?_
    obtain ⟨g1, g2, h⟩ := h
    refine q_iald ok kM_ok kM_11 g1 g2 dX10_holds_15 ?_
    obtain ⟨g3, g4, hT3a, hT3b⟩ := h
    refine q_icmp_ge (tgt := 43) ok dX10_holds_16 (by decide) g3 g4 (fun c3 => ?_) (fun c3 => ?_)
    · have h := hT3a c3
      refine q_iload_n ok dX10_holds_43 2 rfl ?_
      exact q_zret ok dX10_holds_44 h.1 h.2
    · have h := hT3b c3
      refine q_iload_n ok dX10_holds_19 2 rfl ?_
      obtain ⟨g5, hT2a, hT2b⟩ := h
      refine q_if_eq (tgt := 35) ok dX10_holds_20 (by decide) g5 (fun c2 => ?_) (fun c2 => ?_)
      · have h := hT2a c2
        refine q_sub [0, 1, 3] rfl ?_
        exact w_X10_holds_J35 ok ih σ v1 v3 h
      · have h := hT2b c2
        refine q_aload_n ok dX10_holds_23 0 rfl ?_
        refine q_iload_n ok dX10_holds_24 3 rfl ?_
        refine q_callVI (st := []) ok cs_X10_286 kM_0 rfl (c_X10_termHolds X.2.1 Y ok.2.2.2.2.2.2.2.2 h) ⟨rfl, rfl, Nat.le_of_ble_eq_true rfl, Nat.le_of_ble_eq_true rfl⟩ rfl rfl (Nat.le_of_ble_eq_true rfl) dX10_holds_25 (fun σ1 r1 h => ?_)
        obtain ⟨g6, hT1a, hT1b⟩ := h
        refine q_if_eq (tgt := 35) ok dX10_holds_28 (by decide) g6 (fun c1 => ?_) (fun c1 => ?_)
        · have h := hT1a c1
          refine q_sub [0, 1, 3] rfl ?_
          exact w_X10_holds_J35 ok ih σ1 v1 v3 h
        · have h := hT1b c1
          refine q_iconst ok dX10_holds_31 ?_
          refine q_goto (tgt := 36) ok dX10_holds_32 (by decide) ?_
          refine q_istore_n (lv' := [(2, .inl 1), (0, .inr (.inr 0)), (1, .inl v1), (3, .inl v3)]) ok dX10_holds_36 (by decide) rfl ?_
          refine q_iinc (lv' := [(3, .inl (v3 + 1)), (2, .inl 1), (0, .inr (.inr 0)), (1, .inl v1)]) ok dX10_holds_37 3 rfl (by decide) rfl ?_
          refine q_goto (tgt := 9) ok dX10_holds_40 (by decide) ?_
          refine q_sub [2, 3, 1, 0] rfl ?_
          exact ih σ1 v1 1 (v3 + 1) h
set_option maxRecDepth 100000 in
set_option maxHeartbeats 4000000 in
theorem c_X10_holds (l : Launch) (Y : Cy) (hD : ∀ σ, va_D Y.2.2.2 (wsOf KM Y.2.1 Y.2.2.1 σ)) {a0 : Int} {σ : St} {Q : St → Int → Prop} (h : f_X10_holds a0 σ Q) : ConI l yX10_holds cX10_holds 4 .boolean (rm0q 1 22) Y KM σ [.inr (.inr 0), .inl a0] Q := con_of (lv := [(0, .inr (.inr 0)), (1, .inl a0)]) (by decide) hD (Nat.le_of_ble_eq_true rfl) rfl (fun X _ ok => by
  have ok : Ok X Y KM cX10_holds 4 RX10 (rm0q 1 22) (some .boolean) := ok
  unfold f_X10_holds at h
  refine q_iconst ok dX10_holds_0 ?_
  refine q_istore_n (lv' := [(2, .inl 1), (0, .inr (.inr 0)), (1, .inl a0)]) ok dX10_holds_1 (by decide) rfl ?_
  refine q_aload_n ok dX10_holds_2 1 rfl ?_
  refine q_getC ok fl_X10_37 kM_0 fM_0_13 dX10_holds_3 ?_
  refine q_iload_n ok dX10_holds_6 2 rfl ?_
  obtain ⟨g1, g2, h⟩ := h
  refine q_iald ok kM_ok kM_10 g1 g2 dX10_holds_7 ?_
  refine wq_i (fun x1 ex1 => ?_)
  have h := h x1 ex1
  refine q_istore_n (lv' := [(3, .inl x1), (2, .inl 1), (0, .inr (.inr 0)), (1, .inl a0)]) ok dX10_holds_8 (by decide) rfl ?_
  refine q_sub [2, 3, 1, 0] rfl ?_
  exact w_X10_holds_L9 ok FU σ a0 1 x1 h)
/-! BranchingStoryModel.enters(I)V -/
def f_X10_enters_J76 (Q : St → Prop) (σ : St) (s1 : Int) : Prop :=
  0 ≤ s1 ∧ s1 < 12 ∧ ∀ σ1 : St, σ1 = sset σ 30 s1.toNat 1 → Q σ1
def f_X10_enters_J31 (Q : St → Prop) (σ : St) (v1 : Int) (s1 : Int) (s2 : Int) : Prop :=
  0 ≤ s1 ∧ s1 < 31 ∧ ∀ σ1 : St, σ1 = sset σ 26 s1.toNat s2 → 0 ≤ v1 ∧ v1 < 12 ∧ ∀ σ2 : St, σ2 = sset σ1 0 49 (σ1 22 v1.toNat) → 0 ≤ (σ2 0 49) ∧ (σ2 0 49) < 64 ∧ ∀ σ3 : St, σ3 = sset σ2 0 48 (σ2 17 (σ2 0 49).toNat) → 0 ≤ v1 ∧ v1 < 12 ∧ inR (σ3 30 v1.toNat) ∧ ((¬ (σ3 30 v1.toNat) = 0 → f_X10_enters_J76 Q σ3 v1) ∧ ((σ3 30 v1.toNat) = 0 → inR (σ3 0 44) ∧ (((σ3 0 44) = 0 → 0 ≤ v1 ∧ v1 < 12 ∧ ∀ σ4 : St, σ4 = sset σ3 30 v1.toNat 0 → Q σ4) ∧ (¬ (σ3 0 44) = 0 → f_X10_enters_J76 Q σ3 v1))))
def f_X10_enters (a0 : Int) (σ : St) (Q : St → Prop) : Prop :=
  ∀ σ1 : St, σ1 = sset σ 26 2 a0 → 0 ≤ a0 ∧ a0 < 12 ∧ inR (σ1 21 a0.toNat) ∧ (((σ1 21 a0.toNat) = 0 → f_X10_enters_J31 Q σ1 a0 3 (σ1 26 3)) ∧ (¬ (σ1 21 a0.toNat) = 0 → f_X10_enters_J31 Q σ1 a0 3 a0))
set_option maxRecDepth 100000 in
set_option maxHeartbeats 4000000 in
theorem w_X10_enters_J76 {X : Cx} {Y : Cy} {Q : St → Prop} (ok : Ok X Y KM cX10_enters 2 RX10 (rm0q 0 0) none) (σ : St) (s1 : Int) (h : f_X10_enters_J76 Q σ s1) : Wq X Y KM 2 (QF X Y (Qvq Y KM Q)) σ 76 [] [.inl s1, .inr (.inr 30)] := by
  unfold f_X10_enters_J76 at h
  refine q_iconst ok dX10_enters_76 ?_
  refine q_goto (tgt := 81) ok dX10_enters_77 (by decide) ?_
  obtain ⟨g1, g2, h⟩ := h
  refine q_zast ok kM_ok kM_30 g1 g2 (by decide) dX10_enters_81 (wq_s (fun σ1 eσ1 => ?_))
  have h := h σ1 eσ1
  exact q_vret ok dX10_enters_82 h
set_option maxRecDepth 100000 in
set_option maxHeartbeats 4000000 in
theorem w_X10_enters_J31 {X : Cx} {Y : Cy} {Q : St → Prop} (ok : Ok X Y KM cX10_enters 2 RX10 (rm0q 0 0) none) (σ : St) (v1 : Int) (s1 : Int) (s2 : Int) (h : f_X10_enters_J31 Q σ v1 s1 s2) : Wq X Y KM 2 (QF X Y (Qvq Y KM Q)) σ 31 [(0, .inr (.inr 0)), (1, .inl v1)] [.inl s2, .inl s1, .inr (.inr 26)] := by
  unfold f_X10_enters_J31 at h
  obtain ⟨g1, g2, h⟩ := h
  refine q_iast ok kM_ok kM_26 g1 g2 dX10_enters_31 (wq_s (fun σ1 eσ1 => ?_))
  have h := h σ1 eσ1
  refine q_aload_n ok dX10_enters_32 0 rfl ?_
  refine q_aload_n ok dX10_enters_33 0 rfl ?_
  refine q_getC ok fl_X10_74 kM_0 fM_0_28 dX10_enters_34 ?_
  refine q_iload_n ok dX10_enters_37 1 rfl ?_
  obtain ⟨g3, g4, h⟩ := h
  refine q_iald ok kM_ok kM_22 g3 g4 dX10_enters_38 ?_
  refine q_putI ok fp_X10_289 kM_0 fM_0_49 dX10_enters_39 (wq_s (fun σ2 eσ2 => ?_))
  have h := h σ2 eσ2
  refine q_aload_n ok dX10_enters_42 0 rfl ?_
  refine q_aload_n ok dX10_enters_43 0 rfl ?_
  refine q_getC ok fl_X10_58 kM_0 fM_0_22 dX10_enters_44 ?_
  refine q_aload_n ok dX10_enters_47 0 rfl ?_
  refine q_getI ok fl_X10_289 kM_0 fM_0_49 dX10_enters_48 ?_
  obtain ⟨g5, g6, h⟩ := h
  refine q_iald ok kM_ok kM_17 g5 g6 dX10_enters_51 ?_
  refine q_putI ok fp_X10_292 kM_0 fM_0_48 dX10_enters_52 (wq_s (fun σ3 eσ3 => ?_))
  have h := h σ3 eσ3
  refine q_aload_n ok dX10_enters_55 0 rfl ?_
  refine q_getC ok fl_X10_98 kM_0 fM_0_46 dX10_enters_56 ?_
  refine q_iload_n ok dX10_enters_59 1 rfl ?_
  refine q_aload_n ok dX10_enters_60 0 rfl ?_
  refine q_getC ok fl_X10_98 kM_0 fM_0_46 dX10_enters_61 ?_
  refine q_iload_n ok dX10_enters_64 1 rfl ?_
  obtain ⟨g7, g8, h⟩ := h
  refine q_zald ok kM_ok kM_30 g7 g8 dX10_enters_65 ?_
  obtain ⟨g9, hT2a, hT2b⟩ := h
  refine q_if_ne (tgt := 76) ok dX10_enters_66 (by decide) g9 (fun c2 => ?_) (fun c2 => ?_)
  · have h := hT2a c2
    refine q_sub [] rfl ?_
    exact w_X10_enters_J76 ok σ3 v1 h
  · have h := hT2b c2
    refine q_aload_n ok dX10_enters_69 0 rfl ?_
    refine q_getI ok fl_X10_295 kM_0 fM_0_44 dX10_enters_70 ?_
    obtain ⟨g10, hT1a, hT1b⟩ := h
    refine q_if_eq (tgt := 80) ok dX10_enters_73 (by decide) g10 (fun c1 => ?_) (fun c1 => ?_)
    · have h := hT1a c1
      refine q_iconst ok dX10_enters_80 ?_
      obtain ⟨g11, g12, h⟩ := h
      refine q_zast ok kM_ok kM_30 g11 g12 (by decide) dX10_enters_81 (wq_s (fun σ4 eσ4 => ?_))
      have h := h σ4 eσ4
      exact q_vret ok dX10_enters_82 h
    · have h := hT1b c1
      refine q_sub [] rfl ?_
      exact w_X10_enters_J76 ok σ3 v1 h
set_option maxRecDepth 100000 in
set_option maxHeartbeats 4000000 in
theorem c_X10_enters (l : Launch) (Y : Cy) (hD : ∀ σ, va_D Y.2.2.2 (wsOf KM Y.2.1 Y.2.2.1 σ)) {a0 : Int} {σ : St} {Q : St → Prop} (h : f_X10_enters a0 σ Q) : ConV l yX10_enters cX10_enters 2 (rm0q 0 0) Y KM σ [.inr (.inr 0), .inl a0] Q := con_of (lv := [(0, .inr (.inr 0)), (1, .inl a0)]) (by decide) hD (Nat.le_of_ble_eq_true rfl) rfl (fun X _ ok => by
  have ok : Ok X Y KM cX10_enters 2 RX10 (rm0q 0 0) none := ok
  unfold f_X10_enters at h
  refine q_aload_n ok dX10_enters_0 0 rfl ?_
  refine q_getC ok fl_X10_86 kM_0 fM_0_40 dX10_enters_1 ?_
  refine q_iconst ok dX10_enters_4 ?_
  refine q_iload_n ok dX10_enters_5 1 rfl ?_
  refine q_iast ok kM_ok kM_26 (by decide) (by decide) dX10_enters_6 (wq_s (fun σ1 eσ1 => ?_))
  have h := h σ1 eσ1
  refine q_aload_n ok dX10_enters_7 0 rfl ?_
  refine q_getC ok fl_X10_86 kM_0 fM_0_40 dX10_enters_8 ?_
  refine q_iconst ok dX10_enters_11 ?_
  refine q_aload_n ok dX10_enters_12 0 rfl ?_
  refine q_getC ok fl_X10_70 kM_0 fM_0_27 dX10_enters_13 ?_
  refine q_iload_n ok dX10_enters_16 1 rfl ?_
  obtain ⟨g1, g2, h⟩ := h
  refine q_zald ok kM_ok kM_21 g1 g2 dX10_enters_17 ?_
  obtain ⟨g3, hT1a, hT1b⟩ := h
  refine q_if_eq (tgt := 25) ok dX10_enters_18 (by decide) g3 (fun c1 => ?_) (fun c1 => ?_)
  · have h := hT1a c1
    refine q_aload_n ok dX10_enters_25 0 rfl ?_
    refine q_getC ok fl_X10_86 kM_0 fM_0_40 dX10_enters_26 ?_
    refine q_iconst ok dX10_enters_29 ?_
    refine q_iald ok kM_ok kM_26 (by decide) (by decide) dX10_enters_30 ?_
    exact w_X10_enters_J31 ok σ1 a0 3 (σ1 26 3) h
  · have h := hT1b c1
    refine q_iload_n ok dX10_enters_21 1 rfl ?_
    refine q_goto (tgt := 31) ok dX10_enters_22 (by decide) ?_
    exact w_X10_enters_J31 ok σ1 a0 3 a0 h)
/-! BranchingStoryModel.goes(I)V -/
def f_X10_goes (a0 : Int) (σ : St) (Q : St → Prop) : Prop :=
  ∀ σ1 : St, σ1 = sset σ 26 9 0 → f_X10_enters a0 σ1 (fun σ2 => Q σ2)
set_option maxRecDepth 100000 in
set_option maxHeartbeats 4000000 in
theorem c_X10_goes (l : Launch) (Y : Cy) (hD : ∀ σ, va_D Y.2.2.2 (wsOf KM Y.2.1 Y.2.2.1 σ)) {a0 : Int} {σ : St} {Q : St → Prop} (h : f_X10_goes a0 σ Q) : ConV l yX10_goes cX10_goes 2 (rm0q 1 21) Y KM σ [.inr (.inr 0), .inl a0] Q := con_of (lv := [(0, .inr (.inr 0)), (1, .inl a0)]) (by decide) hD (Nat.le_of_ble_eq_true rfl) rfl (fun X _ ok => by
  have ok : Ok X Y KM cX10_goes 2 RX10 (rm0q 1 21) none := ok
  unfold f_X10_goes at h
  refine q_aload_n ok dX10_goes_0 0 rfl ?_
  refine q_getC ok fl_X10_86 kM_0 fM_0_40 dX10_goes_1 ?_
  refine q_bipush ok dX10_goes_4 rfl ?_
  refine q_iconst ok dX10_goes_6 ?_
  refine q_iast ok kM_ok kM_26 (by decide) (by decide) dX10_goes_7 (wq_s (fun σ1 eσ1 => ?_))
  have h := h σ1 eσ1
  refine q_aload_n ok dX10_goes_8 0 rfl ?_
  refine q_iload_n ok dX10_goes_9 1 rfl ?_
  refine q_callVV (st := []) ok cs_X10_298 kM_0 rfl (c_X10_enters X.2.1 Y ok.2.2.2.2.2.2.2.2 h) ⟨rfl, rfl, Nat.le_of_ble_eq_true rfl, Nat.le_of_ble_eq_true rfl⟩ rfl rfl (Nat.le_of_ble_eq_true rfl) dX10_goes_10 (fun σ2 h => ?_)
  exact q_vret ok dX10_goes_13 h)
/-! BranchingStoryModel.says(I)V -/
def f_X10_says_J73 (Q : St → Prop) (σ : St) (s1 : Int) : Prop :=
  0 ≤ s1 ∧ s1 < 100 ∧ ∀ σ1 : St, σ1 = sset σ 29 s1.toNat 1 → Q σ1
def f_X10_says_L3 (Q : St → Prop) : Nat → St → Int → Int → Prop
  | 0, _, _, _ => False
  | n + 1, σ, v1, v2 => inR v2 ∧ ((v2 ≤ 0 → ∀ σ1 : St, σ1 = sset σ 26 11 v1 → ∀ σ2 : St, σ2 = sset σ1 26 10 ((σ1 26 10) + 1) → 0 ≤ v1 ∧ v1 < 100 ∧ inR (σ2 29 v1.toNat) ∧ ((¬ (σ2 29 v1.toNat) = 0 → f_X10_says_J73 Q σ2 v1) ∧ ((σ2 29 v1.toNat) = 0 → inR (σ2 0 44) ∧ (((σ2 0 44) = 0 → 0 ≤ v1 ∧ v1 < 100 ∧ ∀ σ3 : St, σ3 = sset σ2 29 v1.toNat 0 → Q σ3) ∧ (¬ (σ2 0 44) = 0 → f_X10_says_J73 Q σ2 v1))))) ∧ (¬ v2 ≤ 0 → 0 ≤ ((11 + v2) - 1) ∧ ((11 + v2) - 1) < 31 ∧ 0 ≤ (11 + v2) ∧ (11 + v2) < 31 ∧ ∀ σ4 : St, σ4 = sset σ 26 (11 + v2).toNat (σ 26 ((11 + v2) - 1).toNat) → f_X10_says_L3 Q n σ4 v1 (v2 + (-1))))
def f_X10_says (a0 : Int) (σ : St) (Q : St → Prop) : Prop :=
  f_X10_says_L3 Q FU σ a0 19
set_option maxRecDepth 100000 in
set_option maxHeartbeats 4000000 in
theorem w_X10_says_J73 {X : Cx} {Y : Cy} {Q : St → Prop} (ok : Ok X Y KM cX10_says 3 RX10 (rm0q 0 0) none) (σ : St) (s1 : Int) (h : f_X10_says_J73 Q σ s1) : Wq X Y KM 3 (QF X Y (Qvq Y KM Q)) σ 73 [] [.inl s1, .inr (.inr 29)] := by
  unfold f_X10_says_J73 at h
  refine q_iconst ok dX10_says_73 ?_
  refine q_goto (tgt := 78) ok dX10_says_74 (by decide) ?_
  obtain ⟨g1, g2, h⟩ := h
  refine q_zast ok kM_ok kM_29 g1 g2 (by decide) dX10_says_78 (wq_s (fun σ1 eσ1 => ?_))
  have h := h σ1 eσ1
  exact q_vret ok dX10_says_79 h
set_option maxRecDepth 100000 in
set_option maxHeartbeats 4000000 in
theorem w_X10_says_L3 {X : Cx} {Y : Cy} {Q : St → Prop} (ok : Ok X Y KM cX10_says 3 RX10 (rm0q 0 0) none) : ∀ (n : Nat) (σ : St) (v1 : Int) (v2 : Int) , f_X10_says_L3 Q n σ v1 v2 → Wq X Y KM 3 (QF X Y (Qvq Y KM Q)) σ 3 [(0, .inr (.inr 0)), (1, .inl v1), (2, .inl v2)] [] := by
  intro n
  induction n with
  | zero => intro σ v1 v2 h; exact h.elim
  | succ n ih =>
    intro σ v1 v2 h
    rw [f_X10_says_L3] at h
    refine q_iload_n ok dX10_says_3 2 rfl ?_
    obtain ⟨g1, hT3a, hT3b⟩ := h
    refine q_if_le (tgt := 33) ok dX10_says_4 (by decide) g1 (fun c3 => ?_) (fun c3 => ?_)
    · have h := hT3a c3
      refine q_aload_n ok dX10_says_33 0 rfl ?_
      refine q_getC ok fl_X10_86 kM_0 fM_0_40 dX10_says_34 ?_
      refine q_bipush ok dX10_says_37 rfl ?_
      refine q_iload_n ok dX10_says_39 1 rfl ?_
      refine q_iast ok kM_ok kM_26 (by decide) (by decide) dX10_says_40 (wq_s (fun σ1 eσ1 => ?_))
      have h := h σ1 eσ1
      refine q_aload_n ok dX10_says_41 0 rfl ?_
      refine q_getC ok fl_X10_86 kM_0 fM_0_40 dX10_says_42 ?_
      refine q_bipush ok dX10_says_45 rfl ?_
      refine q_dup2 ok dX10_says_47 rfl rfl ?_
      refine q_iald ok kM_ok kM_26 (by decide) (by decide) dX10_says_48 ?_
      refine q_iconst ok dX10_says_49 ?_
      refine q_iadd ok dX10_says_50 ?_
      refine q_iast ok kM_ok kM_26 (by decide) (by decide) dX10_says_51 (wq_s (fun σ2 eσ2 => ?_))
      have h := h σ2 eσ2
      refine q_aload_n ok dX10_says_52 0 rfl ?_
      refine q_getC ok fl_X10_95 kM_0 fM_0_45 dX10_says_53 ?_
      refine q_iload_n ok dX10_says_56 1 rfl ?_
      refine q_aload_n ok dX10_says_57 0 rfl ?_
      refine q_getC ok fl_X10_95 kM_0 fM_0_45 dX10_says_58 ?_
      refine q_iload_n ok dX10_says_61 1 rfl ?_
      obtain ⟨g2, g3, h⟩ := h
      refine q_zald ok kM_ok kM_29 g2 g3 dX10_says_62 ?_
      obtain ⟨g4, hT2a, hT2b⟩ := h
      refine q_if_ne (tgt := 73) ok dX10_says_63 (by decide) g4 (fun c2 => ?_) (fun c2 => ?_)
      · have h := hT2a c2
        refine q_sub [] rfl ?_
        exact w_X10_says_J73 ok σ2 v1 h
      · have h := hT2b c2
        refine q_aload_n ok dX10_says_66 0 rfl ?_
        refine q_getI ok fl_X10_295 kM_0 fM_0_44 dX10_says_67 ?_
        obtain ⟨g5, hT1a, hT1b⟩ := h
        refine q_if_eq (tgt := 77) ok dX10_says_70 (by decide) g5 (fun c1 => ?_) (fun c1 => ?_)
        · have h := hT1a c1
          refine q_iconst ok dX10_says_77 ?_
          obtain ⟨g6, g7, h⟩ := h
          refine q_zast ok kM_ok kM_29 g6 g7 (by decide) dX10_says_78 (wq_s (fun σ3 eσ3 => ?_))
          have h := h σ3 eσ3
          exact q_vret ok dX10_says_79 h
        · have h := hT1b c1
          refine q_sub [] rfl ?_
          exact w_X10_says_J73 ok σ2 v1 h
    · have h := hT3b c3
      refine q_aload_n ok dX10_says_7 0 rfl ?_
      refine q_getC ok fl_X10_86 kM_0 fM_0_40 dX10_says_8 ?_
      refine q_bipush ok dX10_says_11 rfl ?_
      refine q_iload_n ok dX10_says_13 2 rfl ?_
      refine q_iadd ok dX10_says_14 ?_
      refine q_aload_n ok dX10_says_15 0 rfl ?_
      refine q_getC ok fl_X10_86 kM_0 fM_0_40 dX10_says_16 ?_
      refine q_bipush ok dX10_says_19 rfl ?_
      refine q_iload_n ok dX10_says_21 2 rfl ?_
      refine q_iadd ok dX10_says_22 ?_
      refine q_iconst ok dX10_says_23 ?_
      refine q_isub ok dX10_says_24 ?_
      obtain ⟨g8, g9, h⟩ := h
      refine q_iald ok kM_ok kM_26 g8 g9 dX10_says_25 ?_
      obtain ⟨g10, g11, h⟩ := h
      refine q_iast ok kM_ok kM_26 g10 g11 dX10_says_26 (wq_s (fun σ4 eσ4 => ?_))
      have h := h σ4 eσ4
      refine q_iinc (lv' := [(2, .inl (v2 + (-1))), (0, .inr (.inr 0)), (1, .inl v1)]) ok dX10_says_27 2 rfl (by decide) rfl ?_
      refine q_goto (tgt := 3) ok dX10_says_30 (by decide) ?_
      refine q_sub [1, 2, 0] rfl ?_
      exact ih σ4 v1 (v2 + (-1)) h
set_option maxRecDepth 100000 in
set_option maxHeartbeats 4000000 in
theorem c_X10_says (l : Launch) (Y : Cy) (hD : ∀ σ, va_D Y.2.2.2 (wsOf KM Y.2.1 Y.2.2.1 σ)) {a0 : Int} {σ : St} {Q : St → Prop} (h : f_X10_says a0 σ Q) : ConV l yX10_says cX10_says 3 (rm0q 0 0) Y KM σ [.inr (.inr 0), .inl a0] Q := con_of (lv := [(0, .inr (.inr 0)), (1, .inl a0)]) (by decide) hD (Nat.le_of_ble_eq_true rfl) rfl (fun X _ ok => by
  have ok : Ok X Y KM cX10_says 3 RX10 (rm0q 0 0) none := ok
  unfold f_X10_says at h
  refine q_bipush ok dX10_says_0 rfl ?_
  refine q_istore_n (lv' := [(2, .inl 19), (0, .inr (.inr 0)), (1, .inl a0)]) ok dX10_says_2 (by decide) rfl ?_
  refine q_sub [1, 2, 0] rfl ?_
  exact w_X10_says_L3 ok FU σ a0 19 h)
/-! BranchingStoryModel.ends(I)V -/
def f_X10_ends (a0 : Int) (σ : St) (Q : St → Prop) : Prop :=
  ∀ σ1 : St, σ1 = sset σ 26 0 a0 → ∀ σ2 : St, σ2 = sset σ1 26 9 0 → Q σ2
set_option maxRecDepth 100000 in
set_option maxHeartbeats 4000000 in
theorem c_X10_ends (l : Launch) (Y : Cy) (hD : ∀ σ, va_D Y.2.2.2 (wsOf KM Y.2.1 Y.2.2.1 σ)) {a0 : Int} {σ : St} {Q : St → Prop} (h : f_X10_ends a0 σ Q) : ConV l yX10_ends cX10_ends 2 (rm0q 0 0) Y KM σ [.inr (.inr 0), .inl a0] Q := con_of (lv := [(0, .inr (.inr 0)), (1, .inl a0)]) (by decide) hD (Nat.le_of_ble_eq_true rfl) rfl (fun X _ ok => by
  have ok : Ok X Y KM cX10_ends 2 RX10 (rm0q 0 0) none := ok
  unfold f_X10_ends at h
  refine q_aload_n ok dX10_ends_0 0 rfl ?_
  refine q_getC ok fl_X10_86 kM_0 fM_0_40 dX10_ends_1 ?_
  refine q_iconst ok dX10_ends_4 ?_
  refine q_iload_n ok dX10_ends_5 1 rfl ?_
  refine q_iast ok kM_ok kM_26 (by decide) (by decide) dX10_ends_6 (wq_s (fun σ1 eσ1 => ?_))
  have h := h σ1 eσ1
  refine q_aload_n ok dX10_ends_7 0 rfl ?_
  refine q_getC ok fl_X10_86 kM_0 fM_0_40 dX10_ends_8 ?_
  refine q_bipush ok dX10_ends_11 rfl ?_
  refine q_iconst ok dX10_ends_13 ?_
  refine q_iast ok kM_ok kM_26 (by decide) (by decide) dX10_ends_14 (wq_s (fun σ2 eσ2 => ?_))
  have h := h σ2 eσ2
  exact q_vret ok dX10_ends_15 h)
/-! BranchingStoryModel.leavesBlock()Z -/
def f_X10_leavesBlock (σ : St) (Q : St → Int → Prop) : Prop :=
  0 ≤ (σ 0 49) ∧ (σ 0 49) < 64 ∧ inR (σ 15 (σ 0 49).toNat) ∧ ((¬ (σ 15 (σ 0 49).toNat) = 2 → inR (σ 26 9) ∧ (((σ 26 9) = 0 → 0 ≤ (σ 0 49) ∧ (σ 0 49) < 64 ∧ inR (σ 15 (σ 0 49).toNat) ∧ ((¬ (σ 15 (σ 0 49).toNat) = 1 → f_X10_ends 3 σ (fun σ1 => Q σ1 0)) ∧ ((σ 15 (σ 0 49).toNat) = 1 → f_X10_enters (σ 26 2) σ (fun σ2 => Q σ2 1)))) ∧ (¬ (σ 26 9) = 0 → ∀ σ3 : St, σ3 = sset σ 26 0 1 → Q σ3 0))) ∧ ((σ 15 (σ 0 49).toNat) = 2 → 0 ≤ (σ 0 49) ∧ (σ 0 49) < 64 ∧ ∀ x1 : Int, x1 = (σ 16 (σ 0 49).toNat) → 0 ≤ x1 ∧ x1 < 401 ∧ ∀ σ4 : St, σ4 = sset σ 0 48 (σ 6 x1.toNat) → 0 ≤ x1 ∧ x1 < 401 ∧ ∀ σ5 : St, σ5 = sset σ4 0 49 (σ4 7 x1.toNat) → Q σ5 1))
set_option maxRecDepth 100000 in
set_option maxHeartbeats 4000000 in
theorem c_X10_leavesBlock (l : Launch) (Y : Cy) (hD : ∀ σ, va_D Y.2.2.2 (wsOf KM Y.2.1 Y.2.2.1 σ)) {σ : St} {Q : St → Int → Prop} (h : f_X10_leavesBlock  σ Q) : ConI l yX10_leavesBlock cX10_leavesBlock 2 .boolean (rm0q 1 21) Y KM σ [.inr (.inr 0)] Q := con_of (lv := [(0, .inr (.inr 0))]) (by decide) hD (Nat.le_of_ble_eq_true rfl) rfl (fun X _ ok => by
  have ok : Ok X Y KM cX10_leavesBlock 2 RX10 (rm0q 1 21) (some .boolean) := ok
  unfold f_X10_leavesBlock at h
  refine q_aload_n ok dX10_leavesBlock_0 0 rfl ?_
  refine q_getC ok fl_X10_52 kM_0 fM_0_20 dX10_leavesBlock_1 ?_
  refine q_aload_n ok dX10_leavesBlock_4 0 rfl ?_
  refine q_getI ok fl_X10_289 kM_0 fM_0_49 dX10_leavesBlock_5 ?_
  obtain ⟨g1, g2, h⟩ := h
  refine q_iald ok kM_ok kM_15 g1 g2 dX10_leavesBlock_8 ?_
  refine q_iconst ok dX10_leavesBlock_9 ?_
  obtain ⟨g3, hT3a, hT3b⟩ := h
  refine q_icmp_ne (tgt := 45) ok dX10_leavesBlock_10 (by decide) g3 (by unfold inR; decide) (fun c3 => ?_) (fun c3 => ?_)
  · have h := hT3a c3
    refine q_aload_n ok dX10_leavesBlock_45 0 rfl ?_
    refine q_getC ok fl_X10_86 kM_0 fM_0_40 dX10_leavesBlock_46 ?_
    refine q_bipush ok dX10_leavesBlock_49 rfl ?_
    refine q_iald ok kM_ok kM_26 (by decide) (by decide) dX10_leavesBlock_51 ?_
    obtain ⟨g4, hT2a, hT2b⟩ := h
    refine q_if_eq (tgt := 64) ok dX10_leavesBlock_52 (by decide) g4 (fun c2 => ?_) (fun c2 => ?_)
    · have h := hT2a c2
      refine q_aload_n ok dX10_leavesBlock_64 0 rfl ?_
      refine q_getC ok fl_X10_52 kM_0 fM_0_20 dX10_leavesBlock_65 ?_
      refine q_aload_n ok dX10_leavesBlock_68 0 rfl ?_
      refine q_getI ok fl_X10_289 kM_0 fM_0_49 dX10_leavesBlock_69 ?_
      obtain ⟨g5, g6, h⟩ := h
      refine q_iald ok kM_ok kM_15 g5 g6 dX10_leavesBlock_72 ?_
      refine q_iconst ok dX10_leavesBlock_73 ?_
      obtain ⟨g7, hT1a, hT1b⟩ := h
      refine q_icmp_ne (tgt := 89) ok dX10_leavesBlock_74 (by decide) g7 (by unfold inR; decide) (fun c1 => ?_) (fun c1 => ?_)
      · have h := hT1a c1
        refine q_aload_n ok dX10_leavesBlock_89 0 rfl ?_
        refine q_iconst ok dX10_leavesBlock_90 ?_
        refine q_callVV (st := []) ok cs_X10_301 kM_0 rfl (c_X10_ends X.2.1 Y ok.2.2.2.2.2.2.2.2 h) ⟨rfl, rfl, Nat.le_of_ble_eq_true rfl, Nat.le_of_ble_eq_true rfl⟩ rfl rfl (Nat.le_of_ble_eq_true rfl) dX10_leavesBlock_91 (fun σ1 h => ?_)
        refine q_iconst ok dX10_leavesBlock_94 ?_
        exact q_zret ok dX10_leavesBlock_95 (by decide) h
      · have h := hT1b c1
        refine q_aload_n ok dX10_leavesBlock_77 0 rfl ?_
        refine q_aload_n ok dX10_leavesBlock_78 0 rfl ?_
        refine q_getC ok fl_X10_86 kM_0 fM_0_40 dX10_leavesBlock_79 ?_
        refine q_iconst ok dX10_leavesBlock_82 ?_
        refine q_iald ok kM_ok kM_26 (by decide) (by decide) dX10_leavesBlock_83 ?_
        refine q_callVV (st := []) ok cs_X10_298 kM_0 rfl (c_X10_enters X.2.1 Y ok.2.2.2.2.2.2.2.2 h) ⟨rfl, rfl, Nat.le_of_ble_eq_true rfl, Nat.le_of_ble_eq_true rfl⟩ rfl rfl (Nat.le_of_ble_eq_true rfl) dX10_leavesBlock_84 (fun σ2 h => ?_)
        refine q_iconst ok dX10_leavesBlock_87 ?_
        exact q_zret ok dX10_leavesBlock_88 (by decide) h
    · have h := hT2b c2
      refine q_aload_n ok dX10_leavesBlock_55 0 rfl ?_
      refine q_getC ok fl_X10_86 kM_0 fM_0_40 dX10_leavesBlock_56 ?_
      refine q_iconst ok dX10_leavesBlock_59 ?_
      refine q_iconst ok dX10_leavesBlock_60 ?_
      refine q_iast ok kM_ok kM_26 (by decide) (by decide) dX10_leavesBlock_61 (wq_s (fun σ3 eσ3 => ?_))
      have h := h σ3 eσ3
      refine q_iconst ok dX10_leavesBlock_62 ?_
      exact q_zret ok dX10_leavesBlock_63 (by decide) h
  · have h := hT3b c3
    refine q_aload_n ok dX10_leavesBlock_13 0 rfl ?_
    refine q_getC ok fl_X10_55 kM_0 fM_0_21 dX10_leavesBlock_14 ?_
    refine q_aload_n ok dX10_leavesBlock_17 0 rfl ?_
    refine q_getI ok fl_X10_289 kM_0 fM_0_49 dX10_leavesBlock_18 ?_
    obtain ⟨g8, g9, h⟩ := h
    refine q_iald ok kM_ok kM_16 g8 g9 dX10_leavesBlock_21 ?_
    refine wq_i (fun x1 ex1 => ?_)
    have h := h x1 ex1
    refine q_istore_n (lv' := [(1, .inl x1), (0, .inr (.inr 0))]) ok dX10_leavesBlock_22 (by decide) rfl ?_
    refine q_aload_n ok dX10_leavesBlock_23 1 rfl ?_
    refine q_aload_n ok dX10_leavesBlock_24 1 rfl ?_
    refine q_getC ok fl_X10_25 kM_0 fM_0_9 dX10_leavesBlock_25 ?_
    refine q_iload_n ok dX10_leavesBlock_28 0 rfl ?_
    obtain ⟨g10, g11, h⟩ := h
    refine q_iald ok kM_ok kM_6 g10 g11 dX10_leavesBlock_29 ?_
    refine q_putI ok fp_X10_292 kM_0 fM_0_48 dX10_leavesBlock_30 (wq_s (fun σ4 eσ4 => ?_))
    have h := h σ4 eσ4
    refine q_aload_n ok dX10_leavesBlock_33 1 rfl ?_
    refine q_aload_n ok dX10_leavesBlock_34 1 rfl ?_
    refine q_getC ok fl_X10_28 kM_0 fM_0_10 dX10_leavesBlock_35 ?_
    refine q_iload_n ok dX10_leavesBlock_38 0 rfl ?_
    obtain ⟨g12, g13, h⟩ := h
    refine q_iald ok kM_ok kM_7 g12 g13 dX10_leavesBlock_39 ?_
    refine q_putI ok fp_X10_289 kM_0 fM_0_49 dX10_leavesBlock_40 (wq_s (fun σ5 eσ5 => ?_))
    have h := h σ5 eσ5
    refine q_iconst ok dX10_leavesBlock_43 ?_
    exact q_zret ok dX10_leavesBlock_44 (by decide) h)
/-! BranchingStoryModel.changesMeter(I)V -/
def f_X10_changesMeter_J69 (Q : St → Prop) (σ : St) (v2 : Int) (s0 : Int) : Prop :=
  inR s0 ∧ ((s0 ≤ 9 → inR s0 ∧ ((0 ≤ s0 → 0 ≤ v2 ∧ v2 < 31 ∧ ∀ σ1 : St, σ1 = sset σ 26 v2.toNat s0 → Q σ1) ∧ (¬ 0 ≤ s0 → 0 ≤ v2 ∧ v2 < 31 ∧ ∀ σ2 : St, σ2 = sset σ 26 v2.toNat 0 → Q σ2))) ∧ (¬ s0 ≤ 9 → 0 ≤ v2 ∧ v2 < 31 ∧ ∀ σ3 : St, σ3 = sset σ 26 v2.toNat 9 → Q σ3))
def f_X10_changesMeter (a0 : Int) (σ : St) (Q : St → Prop) : Prop :=
  0 ≤ a0 ∧ a0 < 401 ∧ ∀ x1 : Int, x1 = (5 + (σ 4 a0.toNat)) → 0 ≤ a0 ∧ a0 < 401 ∧ inR (σ 8 a0.toNat) ∧ ((¬ (σ 8 a0.toNat) = 61 → 0 ≤ a0 ∧ a0 < 401 ∧ inR (σ 8 a0.toNat) ∧ ((¬ (σ 8 a0.toNat) = 43 → 0 ≤ x1 ∧ x1 < 31 ∧ 0 ≤ a0 ∧ a0 < 401 ∧ f_X10_changesMeter_J69 Q σ x1 ((σ 26 x1.toNat) - (σ 5 a0.toNat))) ∧ ((σ 8 a0.toNat) = 43 → 0 ≤ x1 ∧ x1 < 31 ∧ 0 ≤ a0 ∧ a0 < 401 ∧ f_X10_changesMeter_J69 Q σ x1 ((σ 26 x1.toNat) + (σ 5 a0.toNat))))) ∧ ((σ 8 a0.toNat) = 61 → 0 ≤ a0 ∧ a0 < 401 ∧ f_X10_changesMeter_J69 Q σ x1 (σ 5 a0.toNat)))
set_option maxRecDepth 100000 in
set_option maxHeartbeats 4000000 in
theorem w_X10_changesMeter_J69 {X : Cx} {Y : Cy} {Q : St → Prop} (ok : Ok X Y KM cX10_changesMeter 4 RX10 (rm0q 0 0) none) (σ : St) (v2 : Int) (s0 : Int) (h : f_X10_changesMeter_J69 Q σ v2 s0) : Wq X Y KM 4 (QF X Y (Qvq Y KM Q)) σ 69 [(0, .inr (.inr 0)), (2, .inl v2)] [.inl s0] := by
  unfold f_X10_changesMeter_J69 at h
  refine q_istore_n (lv' := [(3, .inl s0), (0, .inr (.inr 0)), (2, .inl v2)]) ok dX10_changesMeter_69 (by decide) rfl ?_
  refine q_aload_n ok dX10_changesMeter_70 1 rfl ?_
  refine q_getC ok fl_X10_86 kM_0 fM_0_40 dX10_changesMeter_71 ?_
  refine q_iload_n ok dX10_changesMeter_74 2 rfl ?_
  refine q_iload_n ok dX10_changesMeter_75 0 rfl ?_
  refine q_bipush ok dX10_changesMeter_76 rfl ?_
  obtain ⟨g1, hT2a, hT2b⟩ := h
  refine q_icmp_le (tgt := 86) ok dX10_changesMeter_78 (by decide) g1 (by unfold inR; decide) (fun c2 => ?_) (fun c2 => ?_)
  · have h := hT2a c2
    refine q_iload_n ok dX10_changesMeter_86 0 rfl ?_
    obtain ⟨g2, hT1a, hT1b⟩ := h
    refine q_if_ge (tgt := 94) ok dX10_changesMeter_87 (by decide) g2 (fun c1 => ?_) (fun c1 => ?_)
    · have h := hT1a c1
      refine q_iload_n ok dX10_changesMeter_94 0 rfl ?_
      obtain ⟨g3, g4, h⟩ := h
      refine q_iast ok kM_ok kM_26 g3 g4 dX10_changesMeter_95 (wq_s (fun σ1 eσ1 => ?_))
      have h := h σ1 eσ1
      exact q_vret ok dX10_changesMeter_96 h
    · have h := hT1b c1
      refine q_iconst ok dX10_changesMeter_90 ?_
      refine q_goto (tgt := 95) ok dX10_changesMeter_91 (by decide) ?_
      obtain ⟨g5, g6, h⟩ := h
      refine q_iast ok kM_ok kM_26 g5 g6 dX10_changesMeter_95 (wq_s (fun σ2 eσ2 => ?_))
      have h := h σ2 eσ2
      exact q_vret ok dX10_changesMeter_96 h
  · have h := hT2b c2
    refine q_bipush ok dX10_changesMeter_81 rfl ?_
    refine q_goto (tgt := 95) ok dX10_changesMeter_83 (by decide) ?_
    obtain ⟨g7, g8, h⟩ := h
    refine q_iast ok kM_ok kM_26 g7 g8 dX10_changesMeter_95 (wq_s (fun σ3 eσ3 => ?_))
    have h := h σ3 eσ3
    exact q_vret ok dX10_changesMeter_96 h
set_option maxRecDepth 100000 in
set_option maxHeartbeats 4000000 in
theorem c_X10_changesMeter (l : Launch) (Y : Cy) (hD : ∀ σ, va_D Y.2.2.2 (wsOf KM Y.2.1 Y.2.2.1 σ)) {a0 : Int} {σ : St} {Q : St → Prop} (h : f_X10_changesMeter a0 σ Q) : ConV l yX10_changesMeter cX10_changesMeter 4 (rm0q 0 0) Y KM σ [.inr (.inr 0), .inl a0] Q := con_of (lv := [(0, .inr (.inr 0)), (1, .inl a0)]) (by decide) hD (Nat.le_of_ble_eq_true rfl) rfl (fun X _ ok => by
  have ok : Ok X Y KM cX10_changesMeter 4 RX10 (rm0q 0 0) none := ok
  unfold f_X10_changesMeter at h
  refine q_iconst ok dX10_changesMeter_0 ?_
  refine q_aload_n ok dX10_changesMeter_1 0 rfl ?_
  refine q_getC ok fl_X10_19 kM_0 fM_0_7 dX10_changesMeter_2 ?_
  refine q_iload_n ok dX10_changesMeter_5 1 rfl ?_
  obtain ⟨g1, g2, h⟩ := h
  refine q_iald ok kM_ok kM_4 g1 g2 dX10_changesMeter_6 ?_
  refine q_iadd ok dX10_changesMeter_7 ?_
  refine wq_i (fun x1 ex1 => ?_)
  have h := h x1 ex1
  refine q_istore_n (lv' := [(2, .inl x1), (0, .inr (.inr 0)), (1, .inl a0)]) ok dX10_changesMeter_8 (by decide) rfl ?_
  refine q_aload_n ok dX10_changesMeter_9 1 rfl ?_
  refine q_getC ok fl_X10_31 kM_0 fM_0_11 dX10_changesMeter_10 ?_
  refine q_iload_n ok dX10_changesMeter_13 2 rfl ?_
  obtain ⟨g3, g4, h⟩ := h
  refine q_iald ok kM_ok kM_8 g3 g4 dX10_changesMeter_14 ?_
  refine q_bipush ok dX10_changesMeter_15 rfl ?_
  obtain ⟨g5, hT2a, hT2b⟩ := h
  refine q_icmp_ne (tgt := 29) ok dX10_changesMeter_17 (by decide) g5 (by unfold inR; decide) (fun c2 => ?_) (fun c2 => ?_)
  · have h := hT2a c2
    refine q_aload_n ok dX10_changesMeter_29 1 rfl ?_
    refine q_getC ok fl_X10_31 kM_0 fM_0_11 dX10_changesMeter_30 ?_
    refine q_iload_n ok dX10_changesMeter_33 2 rfl ?_
    obtain ⟨g6, g7, h⟩ := h
    refine q_iald ok kM_ok kM_8 g6 g7 dX10_changesMeter_34 ?_
    refine q_bipush ok dX10_changesMeter_35 rfl ?_
    obtain ⟨g8, hT1a, hT1b⟩ := h
    refine q_icmp_ne (tgt := 56) ok dX10_changesMeter_37 (by decide) g8 (by unfold inR; decide) (fun c1 => ?_) (fun c1 => ?_)
    · have h := hT1a c1
      refine q_aload_n ok dX10_changesMeter_56 1 rfl ?_
      refine q_getC ok fl_X10_86 kM_0 fM_0_40 dX10_changesMeter_57 ?_
      refine q_iload_n ok dX10_changesMeter_60 0 rfl ?_
      obtain ⟨g9, g10, h⟩ := h
      refine q_iald ok kM_ok kM_26 g9 g10 dX10_changesMeter_61 ?_
      refine q_aload_n ok dX10_changesMeter_62 1 rfl ?_
      refine q_getC ok fl_X10_22 kM_0 fM_0_8 dX10_changesMeter_63 ?_
      refine q_iload_n ok dX10_changesMeter_66 2 rfl ?_
      obtain ⟨g11, g12, h⟩ := h
      refine q_iald ok kM_ok kM_5 g11 g12 dX10_changesMeter_67 ?_
      refine q_isub ok dX10_changesMeter_68 ?_
      refine q_sub [1, 0] rfl ?_
      exact w_X10_changesMeter_J69 ok σ x1 ((σ 26 x1.toNat) - (σ 5 a0.toNat)) h
    · have h := hT1b c1
      refine q_aload_n ok dX10_changesMeter_40 1 rfl ?_
      refine q_getC ok fl_X10_86 kM_0 fM_0_40 dX10_changesMeter_41 ?_
      refine q_iload_n ok dX10_changesMeter_44 0 rfl ?_
      obtain ⟨g13, g14, h⟩ := h
      refine q_iald ok kM_ok kM_26 g13 g14 dX10_changesMeter_45 ?_
      refine q_aload_n ok dX10_changesMeter_46 1 rfl ?_
      refine q_getC ok fl_X10_22 kM_0 fM_0_8 dX10_changesMeter_47 ?_
      refine q_iload_n ok dX10_changesMeter_50 2 rfl ?_
      obtain ⟨g15, g16, h⟩ := h
      refine q_iald ok kM_ok kM_5 g15 g16 dX10_changesMeter_51 ?_
      refine q_iadd ok dX10_changesMeter_52 ?_
      refine q_goto (tgt := 69) ok dX10_changesMeter_53 (by decide) ?_
      refine q_sub [1, 0] rfl ?_
      exact w_X10_changesMeter_J69 ok σ x1 ((σ 26 x1.toNat) + (σ 5 a0.toNat)) h
  · have h := hT2b c2
    refine q_aload_n ok dX10_changesMeter_20 1 rfl ?_
    refine q_getC ok fl_X10_22 kM_0 fM_0_8 dX10_changesMeter_21 ?_
    refine q_iload_n ok dX10_changesMeter_24 2 rfl ?_
    obtain ⟨g17, g18, h⟩ := h
    refine q_iald ok kM_ok kM_5 g17 g18 dX10_changesMeter_25 ?_
    refine q_goto (tgt := 69) ok dX10_changesMeter_26 (by decide) ?_
    refine q_sub [1, 0] rfl ?_
    exact w_X10_changesMeter_J69 ok σ x1 (σ 5 a0.toNat) h)
/-! BranchingStoryModel.executes()Z -/
def f_X10_executes_J159 (Q : St → Int → Prop) (σ : St) (s0 : Int) : Prop :=
  inR s0 ∧ ((s0 = (-1) → Q σ 1) ∧ (¬ s0 = (-1) → ∀ σ1 : St, σ1 = sset σ 0 49 s0 → 0 ≤ s0 ∧ s0 < 64 ∧ ∀ σ2 : St, σ2 = sset σ1 0 48 (σ1 17 s0.toNat) → Q σ2 1))
def f_X10_executes_J257 (Q : St → Int → Prop) (σ : St) (s1 : Int) (s2 : Int) : Prop :=
  0 ≤ s1 ∧ s1 < 31 ∧ ∀ σ1 : St, σ1 = sset σ 26 s1.toNat (ior32 s2 0) → Q σ1 1
def f_X10_executes_J225 (Q : St → Int → Prop) (σ : St) (v1 : Int) (s0 : Int) : Prop :=
  f_X10_holds v1 σ (fun σ1 r1 => inR r1 ∧ ((r1 = 0 → f_X10_executes_J257 Q σ1 9 (σ 26 9)) ∧ (¬ r1 = 0 → inR s0 ∧ ((¬ s0 = 0 → f_X10_executes_J257 Q σ1 9 (σ 26 9)) ∧ (s0 = 0 → 0 ≤ v1 ∧ v1 < 401 ∧ ∀ σ2 : St, σ2 = sset σ1 26 9 (ior32 (σ 26 9) (ishl32 1 (σ1 4 v1.toNat))) → Q σ2 1)))))
def f_X10_executes_J224 (Q : St → Int → Prop) (σ : St) (v1 : Int) : Prop :=
  f_X10_executes_J225 Q σ v1 0
def f_X10_executes (σ : St) (Q : St → Int → Prop) : Prop :=
  ∀ x1 : Int, x1 = (σ 0 48) → 0 ≤ x1 ∧ x1 < 401 ∧ ∀ σ1 : St, σ1 = sset σ 0 48 (σ 6 x1.toNat) → 0 ≤ x1 ∧ x1 < 401 ∧ inR (σ1 3 x1.toNat) ∧ (((σ1 3 x1.toNat) = 0 → 0 ≤ x1 ∧ x1 < 401 ∧ f_X10_says (σ1 4 x1.toNat) σ1 (fun σ2 => Q σ2 1)) ∧ ((σ1 3 x1.toNat) = 1 → 0 ≤ x1 ∧ x1 < 401 ∧ inR (σ1 5 x1.toNat) ∧ ((¬ (σ1 5 x1.toNat) = 1 → 0 ≤ x1 ∧ x1 < 401 ∧ ∀ σ3 : St, σ3 = sset σ1 26 4 (iand32 (σ1 26 4) (ixor32 (ishl32 1 (σ1 4 x1.toNat)) (-1))) → Q σ3 1) ∧ ((σ1 5 x1.toNat) = 1 → 0 ≤ x1 ∧ x1 < 401 ∧ ∀ σ4 : St, σ4 = sset σ1 26 4 (ior32 (σ1 26 4) (ishl32 1 (σ1 4 x1.toNat))) → Q σ4 1))) ∧ ((σ1 3 x1.toNat) = 2 → f_X10_changesMeter x1 σ1 (fun σ5 => Q σ5 1)) ∧ ((σ1 3 x1.toNat) = 3 → f_X10_holds x1 σ1 (fun σ6 r1 => inR r1 ∧ ((r1 = 0 → 0 ≤ x1 ∧ x1 < 401 ∧ f_X10_executes_J159 Q σ6 (σ6 9 x1.toNat)) ∧ (¬ r1 = 0 → 0 ≤ x1 ∧ x1 < 401 ∧ f_X10_executes_J159 Q σ6 (σ6 8 x1.toNat))))) ∧ ((σ1 3 x1.toNat) = 4 → 0 ≤ x1 ∧ x1 < 401 ∧ f_X10_nodeOfChoice (σ1 4 x1.toNat) σ1 (fun σ7 r2 => 0 ≤ r2 ∧ r2 < 12 ∧ inR (σ7 21 r2.toNat) ∧ (((σ7 21 r2.toNat) = 0 → f_X10_executes_J224 Q σ7 x1) ∧ (¬ (σ7 21 r2.toNat) = 0 → 0 ≤ x1 ∧ x1 < 401 ∧ inR (iand32 (ishr32 (σ7 26 8) (σ7 4 x1.toNat)) 1) ∧ ((¬ (iand32 (ishr32 (σ7 26 8) (σ7 4 x1.toNat)) 1) = 1 → f_X10_executes_J224 Q σ7 x1) ∧ ((iand32 (ishr32 (σ7 26 8) (σ7 4 x1.toNat)) 1) = 1 → f_X10_executes_J225 Q σ7 x1 1)))))) ∧ ((σ1 3 x1.toNat) = 5 → 0 ≤ x1 ∧ x1 < 401 ∧ f_X10_goes (σ1 4 x1.toNat) σ1 (fun σ8 => Q σ8 1)) ∧ ((σ1 3 x1.toNat) = 6 → inR (σ1 26 3) ∧ ((¬ (σ1 26 3) = (-1) → f_X10_goes (σ1 26 3) σ1 (fun σ9 => Q σ9 1)) ∧ ((σ1 26 3) = (-1) → f_X10_ends 3 σ1 (fun σ10 => Q σ10 0)))) ∧ (((σ1 3 x1.toNat) < 0 ∨ 6 < (σ1 3 x1.toNat)) → f_X10_ends 2 σ1 (fun σ11 => 0 ≤ x1 ∧ x1 < 401 ∧ ∀ σ12 : St, σ12 = sset σ11 26 1 (σ11 4 x1.toNat) → Q σ12 0)))
set_option maxRecDepth 100000 in
set_option maxHeartbeats 4000000 in
theorem w_X10_executes_J159 {X : Cx} {Y : Cy} {Q : St → Int → Prop} (ok : Ok X Y KM cX10_executes 4 RX10 (rm0q 2 45) (some .boolean)) (σ : St) (s0 : Int) (h : f_X10_executes_J159 Q σ s0) : Wq X Y KM 4 (QF X Y (Qiq Y KM Q)) σ 159 [(0, .inr (.inr 0))] [.inl s0] := by
  unfold f_X10_executes_J159 at h
  refine q_istore_n (lv' := [(2, .inl s0), (0, .inr (.inr 0))]) ok dX10_executes_159 (by decide) rfl ?_
  refine q_iload_n ok dX10_executes_160 0 rfl ?_
  refine q_iconst ok dX10_executes_161 ?_
  obtain ⟨g1, hT1a, hT1b⟩ := h
  refine q_icmp_eq (tgt := 180) ok dX10_executes_162 (by decide) g1 (by unfold inR; decide) (fun c1 => ?_) (fun c1 => ?_)
  · have h := hT1a c1
    refine q_iconst ok dX10_executes_180 ?_
    exact q_zret ok dX10_executes_181 (by decide) h
  · have h := hT1b c1
    refine q_aload_n ok dX10_executes_165 1 rfl ?_
    refine q_iload_n ok dX10_executes_166 0 rfl ?_
    refine q_putI ok fp_X10_289 kM_0 fM_0_49 dX10_executes_167 (wq_s (fun σ1 eσ1 => ?_))
    have h := h σ1 eσ1
    refine q_aload_n ok dX10_executes_170 1 rfl ?_
    refine q_aload_n ok dX10_executes_171 1 rfl ?_
    refine q_getC ok fl_X10_58 kM_0 fM_0_22 dX10_executes_172 ?_
    refine q_iload_n ok dX10_executes_175 0 rfl ?_
    obtain ⟨g2, g3, h⟩ := h
    refine q_iald ok kM_ok kM_17 g2 g3 dX10_executes_176 ?_
    refine q_putI ok fp_X10_292 kM_0 fM_0_48 dX10_executes_177 (wq_s (fun σ2 eσ2 => ?_))
    have h := h σ2 eσ2
    refine q_iconst ok dX10_executes_180 ?_
    exact q_zret ok dX10_executes_181 (by decide) h
set_option maxRecDepth 100000 in
set_option maxHeartbeats 4000000 in
theorem w_X10_executes_J257 {X : Cx} {Y : Cy} {Q : St → Int → Prop} (ok : Ok X Y KM cX10_executes 4 RX10 (rm0q 2 45) (some .boolean)) (σ : St) (s1 : Int) (s2 : Int) (h : f_X10_executes_J257 Q σ s1 s2) : Wq X Y KM 4 (QF X Y (Qiq Y KM Q)) σ 257 [] [.inl s2, .inl s1, .inr (.inr 26)] := by
  unfold f_X10_executes_J257 at h
  refine q_iconst ok dX10_executes_257 ?_
  refine q_ior ok dX10_executes_258 ?_
  obtain ⟨g1, g2, h⟩ := h
  refine q_iast ok kM_ok kM_26 g1 g2 dX10_executes_259 (wq_s (fun σ1 eσ1 => ?_))
  have h := h σ1 eσ1
  refine q_iconst ok dX10_executes_260 ?_
  exact q_zret ok dX10_executes_261 (by decide) h
set_option maxRecDepth 100000 in
set_option maxHeartbeats 4000000 in
theorem w_X10_executes_J225 {X : Cx} {Y : Cy} {Q : St → Int → Prop} (ok : Ok X Y KM cX10_executes 4 RX10 (rm0q 2 45) (some .boolean)) (σ : St) (v1 : Int) (s0 : Int) (h : f_X10_executes_J225 Q σ v1 s0) : Wq X Y KM 4 (QF X Y (Qiq Y KM Q)) σ 225 [(0, .inr (.inr 0)), (1, .inl v1)] [.inl s0] := by
  unfold f_X10_executes_J225 at h
  refine q_istore_n (lv' := [(3, .inl s0), (0, .inr (.inr 0)), (1, .inl v1)]) ok dX10_executes_225 (by decide) rfl ?_
  refine q_aload_n ok dX10_executes_226 1 rfl ?_
  refine q_getC ok fl_X10_86 kM_0 fM_0_40 dX10_executes_227 ?_
  refine q_bipush ok dX10_executes_230 rfl ?_
  refine q_dup2 ok dX10_executes_232 rfl rfl ?_
  refine q_iald ok kM_ok kM_26 (by decide) (by decide) dX10_executes_233 ?_
  refine q_aload_n ok dX10_executes_234 1 rfl ?_
  refine q_iload_n ok dX10_executes_235 2 rfl ?_
  refine q_callVI (st := [.inl (σ 26 9), .inl 9, .inr (.inr 26)]) ok cs_X10_310 kM_0 rfl (c_X10_holds X.2.1 Y ok.2.2.2.2.2.2.2.2 h) ⟨rfl, rfl, Nat.le_of_ble_eq_true rfl, Nat.le_of_ble_eq_true rfl⟩ rfl rfl (Nat.le_of_ble_eq_true rfl) dX10_executes_236 (fun σ1 r1 h => ?_)
  obtain ⟨g1, hT2a, hT2b⟩ := h
  refine q_if_eq (tgt := 257) ok dX10_executes_239 (by decide) g1 (fun c2 => ?_) (fun c2 => ?_)
  · have h := hT2a c2
    refine q_sub [] rfl ?_
    exact w_X10_executes_J257 ok σ1 9 (σ 26 9) h
  · have h := hT2b c2
    refine q_iload_n ok dX10_executes_242 0 rfl ?_
    obtain ⟨g2, hT1a, hT1b⟩ := h
    refine q_if_ne (tgt := 257) ok dX10_executes_243 (by decide) g2 (fun c1 => ?_) (fun c1 => ?_)
    · have h := hT1a c1
      refine q_sub [] rfl ?_
      exact w_X10_executes_J257 ok σ1 9 (σ 26 9) h
    · have h := hT1b c1
      refine q_iconst ok dX10_executes_246 ?_
      refine q_aload_n ok dX10_executes_247 1 rfl ?_
      refine q_getC ok fl_X10_19 kM_0 fM_0_7 dX10_executes_248 ?_
      refine q_iload_n ok dX10_executes_251 2 rfl ?_
      obtain ⟨g3, g4, h⟩ := h
      refine q_iald ok kM_ok kM_4 g3 g4 dX10_executes_252 ?_
      refine q_ishl ok dX10_executes_253 ?_
      refine q_goto (tgt := 258) ok dX10_executes_254 (by decide) ?_
      refine q_ior ok dX10_executes_258 ?_
      refine q_iast ok kM_ok kM_26 (by decide) (by decide) dX10_executes_259 (wq_s (fun σ2 eσ2 => ?_))
      have h := h σ2 eσ2
      refine q_iconst ok dX10_executes_260 ?_
      exact q_zret ok dX10_executes_261 (by decide) h
set_option maxRecDepth 100000 in
set_option maxHeartbeats 4000000 in
theorem w_X10_executes_J224 {X : Cx} {Y : Cy} {Q : St → Int → Prop} (ok : Ok X Y KM cX10_executes 4 RX10 (rm0q 2 45) (some .boolean)) (σ : St) (v1 : Int) (h : f_X10_executes_J224 Q σ v1) : Wq X Y KM 4 (QF X Y (Qiq Y KM Q)) σ 224 [(0, .inr (.inr 0)), (1, .inl v1)] [] := by
  unfold f_X10_executes_J224 at h
  refine q_iconst ok dX10_executes_224 ?_
  exact w_X10_executes_J225 ok σ v1 0 h
set_option maxRecDepth 100000 in
set_option maxHeartbeats 4000000 in
theorem c_X10_executes (l : Launch) (Y : Cy) (hD : ∀ σ, va_D Y.2.2.2 (wsOf KM Y.2.1 Y.2.2.1 σ)) {σ : St} {Q : St → Int → Prop} (h : f_X10_executes  σ Q) : ConI l yX10_executes cX10_executes 4 .boolean (rm0q 2 45) Y KM σ [.inr (.inr 0)] Q := con_of (lv := [(0, .inr (.inr 0))]) (by decide) hD (Nat.le_of_ble_eq_true rfl) rfl (fun X _ ok => by
  have ok : Ok X Y KM cX10_executes 4 RX10 (rm0q 2 45) (some .boolean) := ok
  unfold f_X10_executes at h
  refine q_aload_n ok dX10_executes_0 0 rfl ?_
  refine q_getI ok fl_X10_292 kM_0 fM_0_48 dX10_executes_1 ?_
  refine wq_i (fun x1 ex1 => ?_)
  have h := h x1 ex1
  refine q_istore_n (lv' := [(1, .inl x1), (0, .inr (.inr 0))]) ok dX10_executes_4 (by decide) rfl ?_
  refine q_aload_n ok dX10_executes_5 1 rfl ?_
  refine q_aload_n ok dX10_executes_6 1 rfl ?_
  refine q_getC ok fl_X10_25 kM_0 fM_0_9 dX10_executes_7 ?_
  refine q_iload_n ok dX10_executes_10 0 rfl ?_
  obtain ⟨g1, g2, h⟩ := h
  refine q_iald ok kM_ok kM_6 g1 g2 dX10_executes_11 ?_
  refine q_putI ok fp_X10_292 kM_0 fM_0_48 dX10_executes_12 (wq_s (fun σ1 eσ1 => ?_))
  have h := h σ1 eσ1
  refine q_aload_n ok dX10_executes_15 1 rfl ?_
  refine q_getC ok fl_X10_16 kM_0 fM_0_6 dX10_executes_16 ?_
  refine q_iload_n ok dX10_executes_19 0 rfl ?_
  obtain ⟨g3, g4, h⟩ := h
  refine q_iald ok kM_ok kM_3 g3 g4 dX10_executes_20 ?_
  obtain ⟨g5, hs1, hs2, hs3, hs4, hs5, hs6, hs7, hs8⟩ := h
  by_cases c1 : (σ1 3 x1.toNat) = 0
  · have h := hs1 c1
    refine q_tsIn (tgt := 64) ok dX10_executes_21 g5 (by omega) (by omega) (by rw [c1]; rfl) (by decide) ?_
    refine q_aload_n ok dX10_executes_64 1 rfl ?_
    refine q_aload_n ok dX10_executes_65 1 rfl ?_
    refine q_getC ok fl_X10_19 kM_0 fM_0_7 dX10_executes_66 ?_
    refine q_iload_n ok dX10_executes_69 0 rfl ?_
    obtain ⟨g6, g7, h⟩ := h
    refine q_iald ok kM_ok kM_4 g6 g7 dX10_executes_70 ?_
    refine q_callVV (st := []) ok cs_X10_304 kM_0 rfl (c_X10_says X.2.1 Y ok.2.2.2.2.2.2.2.2 h) ⟨rfl, rfl, Nat.le_of_ble_eq_true rfl, Nat.le_of_ble_eq_true rfl⟩ rfl rfl (Nat.le_of_ble_eq_true rfl) dX10_executes_71 (fun σ2 h => ?_)
    refine q_iconst ok dX10_executes_74 ?_
    exact q_zret ok dX10_executes_75 (by decide) h
  by_cases c3 : (σ1 3 x1.toNat) = 1
  · have h := hs2 c3
    refine q_tsIn (tgt := 76) ok dX10_executes_21 g5 (by omega) (by omega) (by rw [c3]; rfl) (by decide) ?_
    refine q_aload_n ok dX10_executes_76 1 rfl ?_
    refine q_getC ok fl_X10_86 kM_0 fM_0_40 dX10_executes_77 ?_
    refine q_iconst ok dX10_executes_80 ?_
    refine q_aload_n ok dX10_executes_81 1 rfl ?_
    refine q_getC ok fl_X10_22 kM_0 fM_0_8 dX10_executes_82 ?_
    refine q_iload_n ok dX10_executes_85 0 rfl ?_
    obtain ⟨g8, g9, h⟩ := h
    refine q_iald ok kM_ok kM_5 g8 g9 dX10_executes_86 ?_
    refine q_iconst ok dX10_executes_87 ?_
    obtain ⟨g10, hT1a, hT1b⟩ := h
    refine q_icmp_ne (tgt := 109) ok dX10_executes_88 (by decide) g10 (by unfold inR; decide) (fun c2 => ?_) (fun c2 => ?_)
    · have h := hT1a c2
      refine q_aload_n ok dX10_executes_109 1 rfl ?_
      refine q_getC ok fl_X10_86 kM_0 fM_0_40 dX10_executes_110 ?_
      refine q_iconst ok dX10_executes_113 ?_
      refine q_iald ok kM_ok kM_26 (by decide) (by decide) dX10_executes_114 ?_
      refine q_iconst ok dX10_executes_115 ?_
      refine q_aload_n ok dX10_executes_116 1 rfl ?_
      refine q_getC ok fl_X10_19 kM_0 fM_0_7 dX10_executes_117 ?_
      refine q_iload_n ok dX10_executes_120 0 rfl ?_
      obtain ⟨g11, g12, h⟩ := h
      refine q_iald ok kM_ok kM_4 g11 g12 dX10_executes_121 ?_
      refine q_ishl ok dX10_executes_122 ?_
      refine q_iconst ok dX10_executes_123 ?_
      refine q_ixor ok dX10_executes_124 ?_
      refine q_iand ok dX10_executes_125 ?_
      refine q_iast ok kM_ok kM_26 (by decide) (by decide) dX10_executes_126 (wq_s (fun σ3 eσ3 => ?_))
      have h := h σ3 eσ3
      refine q_iconst ok dX10_executes_127 ?_
      exact q_zret ok dX10_executes_128 (by decide) h
    · have h := hT1b c2
      refine q_aload_n ok dX10_executes_91 1 rfl ?_
      refine q_getC ok fl_X10_86 kM_0 fM_0_40 dX10_executes_92 ?_
      refine q_iconst ok dX10_executes_95 ?_
      refine q_iald ok kM_ok kM_26 (by decide) (by decide) dX10_executes_96 ?_
      refine q_iconst ok dX10_executes_97 ?_
      refine q_aload_n ok dX10_executes_98 1 rfl ?_
      refine q_getC ok fl_X10_19 kM_0 fM_0_7 dX10_executes_99 ?_
      refine q_iload_n ok dX10_executes_102 0 rfl ?_
      obtain ⟨g13, g14, h⟩ := h
      refine q_iald ok kM_ok kM_4 g13 g14 dX10_executes_103 ?_
      refine q_ishl ok dX10_executes_104 ?_
      refine q_ior ok dX10_executes_105 ?_
      refine q_goto (tgt := 126) ok dX10_executes_106 (by decide) ?_
      refine q_iast ok kM_ok kM_26 (by decide) (by decide) dX10_executes_126 (wq_s (fun σ4 eσ4 => ?_))
      have h := h σ4 eσ4
      refine q_iconst ok dX10_executes_127 ?_
      exact q_zret ok dX10_executes_128 (by decide) h
  by_cases c4 : (σ1 3 x1.toNat) = 2
  · have h := hs3 c4
    refine q_tsIn (tgt := 129) ok dX10_executes_21 g5 (by omega) (by omega) (by rw [c4]; rfl) (by decide) ?_
    refine q_aload_n ok dX10_executes_129 1 rfl ?_
    refine q_iload_n ok dX10_executes_130 0 rfl ?_
    refine q_callVV (st := []) ok cs_X10_307 kM_0 rfl (c_X10_changesMeter X.2.1 Y ok.2.2.2.2.2.2.2.2 h) ⟨rfl, rfl, Nat.le_of_ble_eq_true rfl, Nat.le_of_ble_eq_true rfl⟩ rfl rfl (Nat.le_of_ble_eq_true rfl) dX10_executes_131 (fun σ5 h => ?_)
    refine q_iconst ok dX10_executes_134 ?_
    exact q_zret ok dX10_executes_135 (by decide) h
  by_cases c6 : (σ1 3 x1.toNat) = 3
  · have h := hs4 c6
    refine q_tsIn (tgt := 136) ok dX10_executes_21 g5 (by omega) (by omega) (by rw [c6]; rfl) (by decide) ?_
    refine q_aload_n ok dX10_executes_136 1 rfl ?_
    refine q_iload_n ok dX10_executes_137 0 rfl ?_
    refine q_callVI (st := []) ok cs_X10_310 kM_0 rfl (c_X10_holds X.2.1 Y ok.2.2.2.2.2.2.2.2 h) ⟨rfl, rfl, Nat.le_of_ble_eq_true rfl, Nat.le_of_ble_eq_true rfl⟩ rfl rfl (Nat.le_of_ble_eq_true rfl) dX10_executes_138 (fun σ6 r1 h => ?_)
    obtain ⟨g15, hT2a, hT2b⟩ := h
    refine q_if_eq (tgt := 153) ok dX10_executes_141 (by decide) g15 (fun c5 => ?_) (fun c5 => ?_)
    · have h := hT2a c5
      refine q_aload_n ok dX10_executes_153 1 rfl ?_
      refine q_getC ok fl_X10_34 kM_0 fM_0_12 dX10_executes_154 ?_
      refine q_iload_n ok dX10_executes_157 0 rfl ?_
      obtain ⟨g16, g17, h⟩ := h
      refine q_iald ok kM_ok kM_9 g16 g17 dX10_executes_158 ?_
      refine q_sub [1] rfl ?_
      exact w_X10_executes_J159 ok σ6 (σ6 9 x1.toNat) h
    · have h := hT2b c5
      refine q_aload_n ok dX10_executes_144 1 rfl ?_
      refine q_getC ok fl_X10_31 kM_0 fM_0_11 dX10_executes_145 ?_
      refine q_iload_n ok dX10_executes_148 0 rfl ?_
      obtain ⟨g18, g19, h⟩ := h
      refine q_iald ok kM_ok kM_8 g18 g19 dX10_executes_149 ?_
      refine q_goto (tgt := 159) ok dX10_executes_150 (by decide) ?_
      refine q_sub [1] rfl ?_
      exact w_X10_executes_J159 ok σ6 (σ6 8 x1.toNat) h
  by_cases c9 : (σ1 3 x1.toNat) = 4
  · have h := hs5 c9
    refine q_tsIn (tgt := 182) ok dX10_executes_21 g5 (by omega) (by omega) (by rw [c9]; rfl) (by decide) ?_
    refine q_aload_n ok dX10_executes_182 1 rfl ?_
    refine q_getC ok fl_X10_70 kM_0 fM_0_27 dX10_executes_183 ?_
    refine q_aload_n ok dX10_executes_186 1 rfl ?_
    refine q_aload_n ok dX10_executes_187 1 rfl ?_
    refine q_getC ok fl_X10_19 kM_0 fM_0_7 dX10_executes_188 ?_
    refine q_iload_n ok dX10_executes_191 0 rfl ?_
    obtain ⟨g20, g21, h⟩ := h
    refine q_iald ok kM_ok kM_4 g20 g21 dX10_executes_192 ?_
    refine q_callVI (st := [.inr (.inr 21)]) ok cs_X10_283 kM_0 rfl (c_X10_nodeOfChoice X.2.1 Y ok.2.2.2.2.2.2.2.2 h) ⟨rfl, rfl, Nat.le_of_ble_eq_true rfl, Nat.le_of_ble_eq_true rfl⟩ rfl rfl (Nat.le_of_ble_eq_true rfl) dX10_executes_193 (fun σ7 r2 h => ?_)
    obtain ⟨g22, g23, h⟩ := h
    refine q_zald ok kM_ok kM_21 g22 g23 dX10_executes_196 ?_
    obtain ⟨g24, hT4a, hT4b⟩ := h
    refine q_if_eq (tgt := 224) ok dX10_executes_197 (by decide) g24 (fun c8 => ?_) (fun c8 => ?_)
    · have h := hT4a c8
      refine q_sub [1, 0] rfl ?_
      exact w_X10_executes_J224 ok σ7 x1 h
    · have h := hT4b c8
      refine q_aload_n ok dX10_executes_200 1 rfl ?_
      refine q_getC ok fl_X10_86 kM_0 fM_0_40 dX10_executes_201 ?_
      refine q_bipush ok dX10_executes_204 rfl ?_
      refine q_iald ok kM_ok kM_26 (by decide) (by decide) dX10_executes_206 ?_
      refine q_aload_n ok dX10_executes_207 1 rfl ?_
      refine q_getC ok fl_X10_19 kM_0 fM_0_7 dX10_executes_208 ?_
      refine q_iload_n ok dX10_executes_211 0 rfl ?_
      obtain ⟨g25, g26, h⟩ := h
      refine q_iald ok kM_ok kM_4 g25 g26 dX10_executes_212 ?_
      refine q_ishr ok dX10_executes_213 ?_
      refine q_iconst ok dX10_executes_214 ?_
      refine q_iand ok dX10_executes_215 ?_
      refine q_iconst ok dX10_executes_216 ?_
      obtain ⟨g27, hT3a, hT3b⟩ := h
      refine q_icmp_ne (tgt := 224) ok dX10_executes_217 (by decide) g27 (by unfold inR; decide) (fun c7 => ?_) (fun c7 => ?_)
      · have h := hT3a c7
        refine q_sub [1, 0] rfl ?_
        exact w_X10_executes_J224 ok σ7 x1 h
      · have h := hT3b c7
        refine q_iconst ok dX10_executes_220 ?_
        refine q_goto (tgt := 225) ok dX10_executes_221 (by decide) ?_
        refine q_sub [1, 0] rfl ?_
        exact w_X10_executes_J225 ok σ7 x1 1 h
  by_cases c10 : (σ1 3 x1.toNat) = 5
  · have h := hs6 c10
    refine q_tsIn (tgt := 262) ok dX10_executes_21 g5 (by omega) (by omega) (by rw [c10]; rfl) (by decide) ?_
    refine q_aload_n ok dX10_executes_262 1 rfl ?_
    refine q_aload_n ok dX10_executes_263 1 rfl ?_
    refine q_getC ok fl_X10_19 kM_0 fM_0_7 dX10_executes_264 ?_
    refine q_iload_n ok dX10_executes_267 0 rfl ?_
    obtain ⟨g28, g29, h⟩ := h
    refine q_iald ok kM_ok kM_4 g28 g29 dX10_executes_268 ?_
    refine q_callVV (st := []) ok cs_X10_313 kM_0 rfl (c_X10_goes X.2.1 Y ok.2.2.2.2.2.2.2.2 h) ⟨rfl, rfl, Nat.le_of_ble_eq_true rfl, Nat.le_of_ble_eq_true rfl⟩ rfl rfl (Nat.le_of_ble_eq_true rfl) dX10_executes_269 (fun σ8 h => ?_)
    refine q_iconst ok dX10_executes_272 ?_
    exact q_zret ok dX10_executes_273 (by decide) h
  by_cases c12 : (σ1 3 x1.toNat) = 6
  · have h := hs7 c12
    refine q_tsIn (tgt := 274) ok dX10_executes_21 g5 (by omega) (by omega) (by rw [c12]; rfl) (by decide) ?_
    refine q_aload_n ok dX10_executes_274 1 rfl ?_
    refine q_getC ok fl_X10_86 kM_0 fM_0_40 dX10_executes_275 ?_
    refine q_iconst ok dX10_executes_278 ?_
    refine q_iald ok kM_ok kM_26 (by decide) (by decide) dX10_executes_279 ?_
    refine q_iconst ok dX10_executes_280 ?_
    obtain ⟨g30, hT5a, hT5b⟩ := h
    refine q_icmp_ne (tgt := 291) ok dX10_executes_281 (by decide) g30 (by unfold inR; decide) (fun c11 => ?_) (fun c11 => ?_)
    · have h := hT5a c11
      refine q_aload_n ok dX10_executes_291 1 rfl ?_
      refine q_aload_n ok dX10_executes_292 1 rfl ?_
      refine q_getC ok fl_X10_86 kM_0 fM_0_40 dX10_executes_293 ?_
      refine q_iconst ok dX10_executes_296 ?_
      refine q_iald ok kM_ok kM_26 (by decide) (by decide) dX10_executes_297 ?_
      refine q_callVV (st := []) ok cs_X10_313 kM_0 rfl (c_X10_goes X.2.1 Y ok.2.2.2.2.2.2.2.2 h) ⟨rfl, rfl, Nat.le_of_ble_eq_true rfl, Nat.le_of_ble_eq_true rfl⟩ rfl rfl (Nat.le_of_ble_eq_true rfl) dX10_executes_298 (fun σ9 h => ?_)
      refine q_iconst ok dX10_executes_301 ?_
      exact q_zret ok dX10_executes_302 (by decide) h
    · have h := hT5b c11
      refine q_aload_n ok dX10_executes_284 1 rfl ?_
      refine q_iconst ok dX10_executes_285 ?_
      refine q_callVV (st := []) ok cs_X10_301 kM_0 rfl (c_X10_ends X.2.1 Y ok.2.2.2.2.2.2.2.2 h) ⟨rfl, rfl, Nat.le_of_ble_eq_true rfl, Nat.le_of_ble_eq_true rfl⟩ rfl rfl (Nat.le_of_ble_eq_true rfl) dX10_executes_286 (fun σ10 h => ?_)
      refine q_iconst ok dX10_executes_289 ?_
      exact q_zret ok dX10_executes_290 (by decide) h
  have h := hs8 (by omega)
  refine q_tsOut (tgt := 303) ok dX10_executes_21 g5 (by omega) (by decide) ?_
  refine q_aload_n ok dX10_executes_303 1 rfl ?_
  refine q_iconst ok dX10_executes_304 ?_
  refine q_callVV (st := []) ok cs_X10_301 kM_0 rfl (c_X10_ends X.2.1 Y ok.2.2.2.2.2.2.2.2 h) ⟨rfl, rfl, Nat.le_of_ble_eq_true rfl, Nat.le_of_ble_eq_true rfl⟩ rfl rfl (Nat.le_of_ble_eq_true rfl) dX10_executes_305 (fun σ11 h => ?_)
  refine q_aload_n ok dX10_executes_308 1 rfl ?_
  refine q_getC ok fl_X10_86 kM_0 fM_0_40 dX10_executes_309 ?_
  refine q_iconst ok dX10_executes_312 ?_
  refine q_aload_n ok dX10_executes_313 1 rfl ?_
  refine q_getC ok fl_X10_19 kM_0 fM_0_7 dX10_executes_314 ?_
  refine q_iload_n ok dX10_executes_317 0 rfl ?_
  obtain ⟨g31, g32, h⟩ := h
  refine q_iald ok kM_ok kM_4 g31 g32 dX10_executes_318 ?_
  refine q_iast ok kM_ok kM_26 (by decide) (by decide) dX10_executes_319 (wq_s (fun σ12 eσ12 => ?_))
  have h := h σ12 eσ12
  refine q_iconst ok dX10_executes_320 ?_
  exact q_zret ok dX10_executes_321 (by decide) h)
