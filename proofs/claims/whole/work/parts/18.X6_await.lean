theorem dX6_await_0 : decode cX6_await 0 = .ok (.aload_n 0, 1) := by decide +kernel
theorem dX6_await_1 : decode cX6_await 1 = .ok (.iload_n 1, 1) := by decide +kernel
theorem dX6_await_2 : decode cX6_await 2 = .ok (.putfield 77, 3) := by decide +kernel
theorem dX6_await_5 : decode cX6_await 5 = .ok (.iconst 1, 1) := by decide +kernel
theorem dX6_await_6 : decode cX6_await 6 = .ok (.ireturn, 1) := by decide +kernel
theorem dX6_isName_0 : decode cX6_isName 0 = .ok (.iload_n 0, 1) := by decide +kernel
theorem dX6_isName_1 : decode cX6_isName 1 = .ok (.bipush 65, 2) := by decide +kernel
theorem dX6_isName_3 : decode cX6_isName 3 = .ok (.if_icmp .lt 13, 3) := by decide +kernel
theorem dX6_isName_6 : decode cX6_isName 6 = .ok (.iload_n 0, 1) := by decide +kernel
theorem dX6_isName_7 : decode cX6_isName 7 = .ok (.bipush 76, 2) := by decide +kernel
theorem dX6_isName_9 : decode cX6_isName 9 = .ok (.if_icmp .gt 7, 3) := by decide +kernel
theorem dX6_isName_12 : decode cX6_isName 12 = .ok (.iconst 1, 1) := by decide +kernel
theorem dX6_isName_13 : decode cX6_isName 13 = .ok (.goto 4, 3) := by decide +kernel
theorem dX6_isName_16 : decode cX6_isName 16 = .ok (.iconst 0, 1) := by decide +kernel
theorem dX6_isName_17 : decode cX6_isName 17 = .ok (.ireturn, 1) := by decide +kernel
theorem dX6_takesNodeName_0 : decode cX6_takesNodeName 0 = .ok (.iload_n 1, 1) := by decide +kernel
theorem dX6_takesNodeName_1 : decode cX6_takesNodeName 1 = .ok (.invokestatic 131, 3) := by decide +kernel
theorem dX6_takesNodeName_4 : decode cX6_takesNodeName 4 = .ok (.ifCond .eq 16, 3) := by decide +kernel
theorem dX6_takesNodeName_7 : decode cX6_takesNodeName 7 = .ok (.aload_n 0, 1) := by decide +kernel
theorem dX6_takesNodeName_8 : decode cX6_takesNodeName 8 = .ok (.getfield 9, 3) := by decide +kernel
theorem dX6_takesNodeName_11 : decode cX6_takesNodeName 11 = .ok (.iload_n 1, 1) := by decide +kernel
theorem dX6_takesNodeName_12 : decode cX6_takesNodeName 12 = .ok (.bipush 65, 2) := by decide +kernel
theorem dX6_takesNodeName_14 : decode cX6_takesNodeName 14 = .ok (.isub, 1) := by decide +kernel
theorem dX6_takesNodeName_15 : decode cX6_takesNodeName 15 = .ok (.iaload, 1) := by decide +kernel
theorem dX6_takesNodeName_16 : decode cX6_takesNodeName 16 = .ok (.iconst (-1), 1) := by decide +kernel
theorem dX6_takesNodeName_17 : decode cX6_takesNodeName 17 = .ok (.if_icmp .eq 5, 3) := by decide +kernel
theorem dX6_takesNodeName_20 : decode cX6_takesNodeName 20 = .ok (.iconst 0, 1) := by decide +kernel
theorem dX6_takesNodeName_21 : decode cX6_takesNodeName 21 = .ok (.ireturn, 1) := by decide +kernel
theorem dX6_takesNodeName_22 : decode cX6_takesNodeName 22 = .ok (.aload_n 0, 1) := by decide +kernel
theorem dX6_takesNodeName_23 : decode cX6_takesNodeName 23 = .ok (.getfield 28, 3) := by decide +kernel
theorem dX6_takesNodeName_26 : decode cX6_takesNodeName 26 = .ok (.getfield 61, 3) := by decide +kernel
theorem dX6_takesNodeName_29 : decode cX6_takesNodeName 29 = .ok (.istore_n 2, 1) := by decide +kernel
theorem dX6_takesNodeName_30 : decode cX6_takesNodeName 30 = .ok (.iload_n 2, 1) := by decide +kernel
theorem dX6_takesNodeName_31 : decode cX6_takesNodeName 31 = .ok (.ifCond .lt 9, 3) := by decide +kernel
theorem dX6_takesNodeName_34 : decode cX6_takesNodeName 34 = .ok (.iload_n 2, 1) := by decide +kernel
theorem dX6_takesNodeName_35 : decode cX6_takesNodeName 35 = .ok (.bipush 12, 2) := by decide +kernel
theorem dX6_takesNodeName_37 : decode cX6_takesNodeName 37 = .ok (.if_icmp .lt 5, 3) := by decide +kernel
theorem dX6_takesNodeName_40 : decode cX6_takesNodeName 40 = .ok (.iconst 0, 1) := by decide +kernel
theorem dX6_takesNodeName_41 : decode cX6_takesNodeName 41 = .ok (.ireturn, 1) := by decide +kernel
theorem dX6_takesNodeName_42 : decode cX6_takesNodeName 42 = .ok (.aload_n 0, 1) := by decide +kernel
theorem dX6_takesNodeName_43 : decode cX6_takesNodeName 43 = .ok (.getfield 9, 3) := by decide +kernel
theorem dX6_takesNodeName_46 : decode cX6_takesNodeName 46 = .ok (.iload_n 1, 1) := by decide +kernel
theorem dX6_takesNodeName_47 : decode cX6_takesNodeName 47 = .ok (.bipush 65, 2) := by decide +kernel
theorem dX6_takesNodeName_49 : decode cX6_takesNodeName 49 = .ok (.isub, 1) := by decide +kernel
theorem dX6_takesNodeName_50 : decode cX6_takesNodeName 50 = .ok (.iload_n 2, 1) := by decide +kernel
theorem dX6_takesNodeName_51 : decode cX6_takesNodeName 51 = .ok (.iastore, 1) := by decide +kernel
theorem dX6_takesNodeName_52 : decode cX6_takesNodeName 52 = .ok (.aload_n 0, 1) := by decide +kernel
theorem dX6_takesNodeName_53 : decode cX6_takesNodeName 53 = .ok (.getfield 28, 3) := by decide +kernel
theorem dX6_takesNodeName_56 : decode cX6_takesNodeName 56 = .ok (.getfield 140, 3) := by decide +kernel
theorem dX6_takesNodeName_59 : decode cX6_takesNodeName 59 = .ok (.iload_n 2, 1) := by decide +kernel
theorem dX6_takesNodeName_60 : decode cX6_takesNodeName 60 = .ok (.iload_n 1, 1) := by decide +kernel
theorem dX6_takesNodeName_61 : decode cX6_takesNodeName 61 = .ok (.iastore, 1) := by decide +kernel
theorem dX6_takesNodeName_62 : decode cX6_takesNodeName 62 = .ok (.aload_n 0, 1) := by decide +kernel
theorem dX6_takesNodeName_63 : decode cX6_takesNodeName 63 = .ok (.getfield 28, 3) := by decide +kernel
theorem dX6_takesNodeName_66 : decode cX6_takesNodeName 66 = .ok (.dup, 1) := by decide +kernel
theorem dX6_takesNodeName_67 : decode cX6_takesNodeName 67 = .ok (.getfield 61, 3) := by decide +kernel
theorem dX6_takesNodeName_70 : decode cX6_takesNodeName 70 = .ok (.iconst 1, 1) := by decide +kernel
theorem dX6_takesNodeName_71 : decode cX6_takesNodeName 71 = .ok (.iadd, 1) := by decide +kernel
theorem dX6_takesNodeName_72 : decode cX6_takesNodeName 72 = .ok (.putfield 61, 3) := by decide +kernel
theorem dX6_takesNodeName_75 : decode cX6_takesNodeName 75 = .ok (.aload_n 0, 1) := by decide +kernel
theorem dX6_takesNodeName_76 : decode cX6_takesNodeName 76 = .ok (.iconst 1, 1) := by decide +kernel
theorem dX6_takesNodeName_77 : decode cX6_takesNodeName 77 = .ok (.putfield 80, 3) := by decide +kernel
theorem dX6_takesNodeName_80 : decode cX6_takesNodeName 80 = .ok (.aload_n 0, 1) := by decide +kernel
theorem dX6_takesNodeName_81 : decode cX6_takesNodeName 81 = .ok (.getfield 15, 3) := by decide +kernel
theorem dX6_takesNodeName_84 : decode cX6_takesNodeName 84 = .ok (.iconst 1, 1) := by decide +kernel
theorem dX6_takesNodeName_85 : decode cX6_takesNodeName 85 = .ok (.iconst (-1), 1) := by decide +kernel
theorem dX6_takesNodeName_86 : decode cX6_takesNodeName 86 = .ok (.iastore, 1) := by decide +kernel
theorem dX6_takesNodeName_87 : decode cX6_takesNodeName 87 = .ok (.aload_n 0, 1) := by decide +kernel
theorem dX6_takesNodeName_88 : decode cX6_takesNodeName 88 = .ok (.iconst 2, 1) := by decide +kernel
theorem dX6_takesNodeName_89 : decode cX6_takesNodeName 89 = .ok (.invokevirtual 100, 3) := by decide +kernel
theorem dX6_takesNodeName_92 : decode cX6_takesNodeName 92 = .ok (.ireturn, 1) := by decide +kernel
theorem dX6_takesHubSign_0 : decode cX6_takesHubSign 0 = .ok (.aload_n 0, 1) := by decide +kernel
theorem dX6_takesHubSign_1 : decode cX6_takesHubSign 1 = .ok (.getfield 28, 3) := by decide +kernel
theorem dX6_takesHubSign_4 : decode cX6_takesHubSign 4 = .ok (.dup, 1) := by decide +kernel
theorem dX6_takesHubSign_5 : decode cX6_takesHubSign 5 = .ok (.getfield 143, 3) := by decide +kernel
theorem dX6_takesHubSign_8 : decode cX6_takesHubSign 8 = .ok (.iconst 1, 1) := by decide +kernel
theorem dX6_takesHubSign_9 : decode cX6_takesHubSign 9 = .ok (.aload_n 0, 1) := by decide +kernel
theorem dX6_takesHubSign_10 : decode cX6_takesHubSign 10 = .ok (.getfield 28, 3) := by decide +kernel
theorem dX6_takesHubSign_13 : decode cX6_takesHubSign 13 = .ok (.getfield 61, 3) := by decide +kernel
theorem dX6_takesHubSign_16 : decode cX6_takesHubSign 16 = .ok (.iconst 1, 1) := by decide +kernel
theorem dX6_takesHubSign_17 : decode cX6_takesHubSign 17 = .ok (.isub, 1) := by decide +kernel
theorem dX6_takesHubSign_18 : decode cX6_takesHubSign 18 = .ok (.ishl, 1) := by decide +kernel
theorem dX6_takesHubSign_19 : decode cX6_takesHubSign 19 = .ok (.ior, 1) := by decide +kernel
theorem dX6_takesHubSign_20 : decode cX6_takesHubSign 20 = .ok (.putfield 143, 3) := by decide +kernel
theorem dX6_takesHubSign_23 : decode cX6_takesHubSign 23 = .ok (.aload_n 0, 1) := by decide +kernel
theorem dX6_takesHubSign_24 : decode cX6_takesHubSign 24 = .ok (.iconst 3, 1) := by decide +kernel
theorem dX6_takesHubSign_25 : decode cX6_takesHubSign 25 = .ok (.invokevirtual 100, 3) := by decide +kernel
theorem dX6_takesHubSign_28 : decode cX6_takesHubSign 28 = .ok (.ireturn, 1) := by decide +kernel
theorem dX6_beginsStatement_0 : decode cX6_beginsStatement 0 = .ok (.aload_n 0, 1) := by decide +kernel
theorem dX6_beginsStatement_1 : decode cX6_beginsStatement 1 = .ok (.iload_n 1, 1) := by decide +kernel
theorem dX6_beginsStatement_2 : decode cX6_beginsStatement 2 = .ok (.putfield 119, 3) := by decide +kernel
theorem dX6_beginsStatement_5 : decode cX6_beginsStatement 5 = .ok (.aload_n 0, 1) := by decide +kernel
theorem dX6_beginsStatement_6 : decode cX6_beginsStatement 6 = .ok (.iload_n 2, 1) := by decide +kernel
theorem dX6_beginsStatement_7 : decode cX6_beginsStatement 7 = .ok (.invokevirtual 100, 3) := by decide +kernel
theorem dX6_beginsStatement_10 : decode cX6_beginsStatement 10 = .ok (.ireturn, 1) := by decide +kernel
theorem dX6_add_0 : decode cX6_add 0 = .ok (.aload_n 0, 1) := by decide +kernel
theorem dX6_add_1 : decode cX6_add 1 = .ok (.getfield 28, 3) := by decide +kernel
theorem dX6_add_4 : decode cX6_add 4 = .ok (.iload_n 1, 1) := by decide +kernel
theorem dX6_add_5 : decode cX6_add 5 = .ok (.iload_n 2, 1) := by decide +kernel
theorem dX6_add_6 : decode cX6_add 6 = .ok (.iload_n 3, 1) := by decide +kernel
theorem dX6_add_7 : decode cX6_add 7 = .ok (.invokevirtual 226, 3) := by decide +kernel
theorem dX6_add_10 : decode cX6_add 10 = .ok (.istore 4, 2) := by decide +kernel
theorem dX6_add_12 : decode cX6_add 12 = .ok (.aload_n 0, 1) := by decide +kernel
theorem dX6_add_13 : decode cX6_add 13 = .ok (.getfield 80, 3) := by decide +kernel
theorem dX6_add_16 : decode cX6_add 16 = .ok (.iconst 1, 1) := by decide +kernel
theorem dX6_add_17 : decode cX6_add 17 = .ok (.if_icmp .le 19, 3) := by decide +kernel
theorem dX6_add_20 : decode cX6_add 20 = .ok (.aload_n 0, 1) := by decide +kernel
theorem dX6_add_21 : decode cX6_add 21 = .ok (.getfield 15, 3) := by decide +kernel
theorem dX6_add_24 : decode cX6_add 24 = .ok (.aload_n 0, 1) := by decide +kernel
theorem dX6_add_25 : decode cX6_add 25 = .ok (.getfield 80, 3) := by decide +kernel
theorem dX6_add_28 : decode cX6_add 28 = .ok (.iconst 1, 1) := by decide +kernel
theorem dX6_add_29 : decode cX6_add 29 = .ok (.isub, 1) := by decide +kernel
theorem dX6_add_30 : decode cX6_add 30 = .ok (.invokestatic 202, 3) := by decide +kernel
theorem dX6_add_33 : decode cX6_add 33 = .ok (.goto 4, 3) := by decide +kernel
theorem dX6_add_36 : decode cX6_add 36 = .ok (.iconst (-1), 1) := by decide +kernel
theorem dX6_add_37 : decode cX6_add 37 = .ok (.istore 5, 2) := by decide +kernel
theorem dX6_add_39 : decode cX6_add 39 = .ok (.aload_n 0, 1) := by decide +kernel
theorem dX6_add_40 : decode cX6_add 40 = .ok (.getfield 15, 3) := by decide +kernel
theorem dX6_add_43 : decode cX6_add 43 = .ok (.aload_n 0, 1) := by decide +kernel
theorem dX6_add_44 : decode cX6_add 44 = .ok (.getfield 80, 3) := by decide +kernel
theorem dX6_add_47 : decode cX6_add 47 = .ok (.invokestatic 202, 3) := by decide +kernel
theorem dX6_add_50 : decode cX6_add 50 = .ok (.istore 6, 2) := by decide +kernel
theorem dX6_add_52 : decode cX6_add 52 = .ok (.aload_n 0, 1) := by decide +kernel
theorem dX6_add_53 : decode cX6_add 53 = .ok (.getfield 22, 3) := by decide +kernel
theorem dX6_add_56 : decode cX6_add 56 = .ok (.iload 4, 2) := by decide +kernel
theorem dX6_add_58 : decode cX6_add 58 = .ok (.aload_n 0, 1) := by decide +kernel
theorem dX6_add_59 : decode cX6_add 59 = .ok (.getfield 28, 3) := by decide +kernel
theorem dX6_add_62 : decode cX6_add 62 = .ok (.iload 5, 2) := by decide +kernel
theorem dX6_add_64 : decode cX6_add 64 = .ok (.bipush 6, 2) := by decide +kernel
theorem dX6_add_66 : decode cX6_add 66 = .ok (.invokevirtual 206, 3) := by decide +kernel
theorem dX6_add_69 : decode cX6_add 69 = .ok (.ifCond .eq 8, 3) := by decide +kernel
theorem dX6_add_72 : decode cX6_add 72 = .ok (.iload 5, 2) := by decide +kernel
theorem dX6_add_74 : decode cX6_add 74 = .ok (.goto 4, 3) := by decide +kernel
theorem dX6_add_77 : decode cX6_add 77 = .ok (.iconst (-1), 1) := by decide +kernel
theorem dX6_add_78 : decode cX6_add 78 = .ok (.invokestatic 174, 3) := by decide +kernel
theorem dX6_add_81 : decode cX6_add 81 = .ok (.iload 6, 2) := by decide +kernel
theorem dX6_add_83 : decode cX6_add 83 = .ok (.iconst (-1), 1) := by decide +kernel
theorem dX6_add_84 : decode cX6_add 84 = .ok (.if_icmp .eq 20, 3) := by decide +kernel
theorem dX6_add_87 : decode cX6_add 87 = .ok (.aload_n 0, 1) := by decide +kernel
theorem dX6_add_88 : decode cX6_add 88 = .ok (.getfield 28, 3) := by decide +kernel
theorem dX6_add_91 : decode cX6_add 91 = .ok (.getfield 229, 3) := by decide +kernel
theorem dX6_add_94 : decode cX6_add 94 = .ok (.iload 6, 2) := by decide +kernel
theorem dX6_add_96 : decode cX6_add 96 = .ok (.iload 4, 2) := by decide +kernel
theorem dX6_add_98 : decode cX6_add 98 = .ok (.invokestatic 174, 3) := by decide +kernel
theorem dX6_add_101 : decode cX6_add 101 = .ok (.goto 81, 3) := by decide +kernel
theorem dX6_add_104 : decode cX6_add 104 = .ok (.iload 5, 2) := by decide +kernel
theorem dX6_add_106 : decode cX6_add 106 = .ok (.iconst (-1), 1) := by decide +kernel
theorem dX6_add_107 : decode cX6_add 107 = .ok (.if_icmp .ne 27, 3) := by decide +kernel
theorem dX6_add_110 : decode cX6_add 110 = .ok (.aload_n 0, 1) := by decide +kernel
theorem dX6_add_111 : decode cX6_add 111 = .ok (.getfield 28, 3) := by decide +kernel
theorem dX6_add_114 : decode cX6_add 114 = .ok (.getfield 232, 3) := by decide +kernel
theorem dX6_add_117 : decode cX6_add 117 = .ok (.aload_n 0, 1) := by decide +kernel
theorem dX6_add_118 : decode cX6_add 118 = .ok (.getfield 28, 3) := by decide +kernel
theorem dX6_add_121 : decode cX6_add 121 = .ok (.getfield 61, 3) := by decide +kernel
theorem dX6_add_124 : decode cX6_add 124 = .ok (.iconst 1, 1) := by decide +kernel
theorem dX6_add_125 : decode cX6_add 125 = .ok (.isub, 1) := by decide +kernel
theorem dX6_add_126 : decode cX6_add 126 = .ok (.iload 4, 2) := by decide +kernel
theorem dX6_add_128 : decode cX6_add 128 = .ok (.invokestatic 174, 3) := by decide +kernel
theorem dX6_add_131 : decode cX6_add 131 = .ok (.goto 51, 3) := by decide +kernel
theorem dX6_add_134 : decode cX6_add 134 = .ok (.aload_n 0, 1) := by decide +kernel
theorem dX6_add_135 : decode cX6_add 135 = .ok (.getfield 18, 3) := by decide +kernel
theorem dX6_add_138 : decode cX6_add 138 = .ok (.aload_n 0, 1) := by decide +kernel
theorem dX6_add_139 : decode cX6_add 139 = .ok (.getfield 80, 3) := by decide +kernel
theorem dX6_add_142 : decode cX6_add 142 = .ok (.bipush 6, 2) := by decide +kernel
theorem dX6_add_144 : decode cX6_add 144 = .ok (.invokestatic 36, 3) := by decide +kernel
theorem dX6_add_147 : decode cX6_add 147 = .ok (.baload, 1) := by decide +kernel
theorem dX6_add_148 : decode cX6_add 148 = .ok (.ifCond .eq 20, 3) := by decide +kernel
theorem dX6_add_151 : decode cX6_add 151 = .ok (.aload_n 0, 1) := by decide +kernel
theorem dX6_add_152 : decode cX6_add 152 = .ok (.getfield 28, 3) := by decide +kernel
theorem dX6_add_155 : decode cX6_add 155 = .ok (.getfield 235, 3) := by decide +kernel
theorem dX6_add_158 : decode cX6_add 158 = .ok (.iload 5, 2) := by decide +kernel
theorem dX6_add_160 : decode cX6_add 160 = .ok (.iload 4, 2) := by decide +kernel
theorem dX6_add_162 : decode cX6_add 162 = .ok (.invokestatic 174, 3) := by decide +kernel
theorem dX6_add_165 : decode cX6_add 165 = .ok (.goto 17, 3) := by decide +kernel
theorem dX6_add_168 : decode cX6_add 168 = .ok (.aload_n 0, 1) := by decide +kernel
theorem dX6_add_169 : decode cX6_add 169 = .ok (.getfield 28, 3) := by decide +kernel
theorem dX6_add_172 : decode cX6_add 172 = .ok (.getfield 238, 3) := by decide +kernel
theorem dX6_add_175 : decode cX6_add 175 = .ok (.iload 5, 2) := by decide +kernel
theorem dX6_add_177 : decode cX6_add 177 = .ok (.iload 4, 2) := by decide +kernel
theorem dX6_add_179 : decode cX6_add 179 = .ok (.invokestatic 174, 3) := by decide +kernel
theorem dX6_add_182 : decode cX6_add 182 = .ok (.aload_n 0, 1) := by decide +kernel
theorem dX6_add_183 : decode cX6_add 183 = .ok (.getfield 15, 3) := by decide +kernel
theorem dX6_add_186 : decode cX6_add 186 = .ok (.aload_n 0, 1) := by decide +kernel
theorem dX6_add_187 : decode cX6_add 187 = .ok (.getfield 80, 3) := by decide +kernel
theorem dX6_add_190 : decode cX6_add 190 = .ok (.iload 4, 2) := by decide +kernel
theorem dX6_add_192 : decode cX6_add 192 = .ok (.invokestatic 174, 3) := by decide +kernel
theorem dX6_add_195 : decode cX6_add 195 = .ok (.aload_n 0, 1) := by decide +kernel
theorem dX6_add_196 : decode cX6_add 196 = .ok (.iconst 3, 1) := by decide +kernel
theorem dX6_add_197 : decode cX6_add 197 = .ok (.invokevirtual 100, 3) := by decide +kernel
theorem dX6_add_200 : decode cX6_add 200 = .ok (.ireturn, 1) := by decide +kernel
theorem dX6_beginsTest_0 : decode cX6_beginsTest 0 = .ok (.aload_n 0, 1) := by decide +kernel
theorem dX6_beginsTest_1 : decode cX6_beginsTest 1 = .ok (.getfield 28, 3) := by decide +kernel
theorem dX6_beginsTest_4 : decode cX6_beginsTest 4 = .ok (.getfield 178, 3) := by decide +kernel
theorem dX6_beginsTest_7 : decode cX6_beginsTest 7 = .ok (.bipush 16, 2) := by decide +kernel
theorem dX6_beginsTest_9 : decode cX6_beginsTest 9 = .ok (.if_icmp .lt 5, 3) := by decide +kernel
theorem dX6_beginsTest_12 : decode cX6_beginsTest 12 = .ok (.iconst 0, 1) := by decide +kernel
theorem dX6_beginsTest_13 : decode cX6_beginsTest 13 = .ok (.ireturn, 1) := by decide +kernel
theorem dX6_beginsTest_14 : decode cX6_beginsTest 14 = .ok (.aload_n 0, 1) := by decide +kernel
theorem dX6_beginsTest_15 : decode cX6_beginsTest 15 = .ok (.bipush 6, 2) := by decide +kernel
theorem dX6_beginsTest_17 : decode cX6_beginsTest 17 = .ok (.aload_n 0, 1) := by decide +kernel
theorem dX6_beginsTest_18 : decode cX6_beginsTest 18 = .ok (.getfield 28, 3) := by decide +kernel
theorem dX6_beginsTest_21 : decode cX6_beginsTest 21 = .ok (.getfield 178, 3) := by decide +kernel
theorem dX6_beginsTest_24 : decode cX6_beginsTest 24 = .ok (.iconst 0, 1) := by decide +kernel
theorem dX6_beginsTest_25 : decode cX6_beginsTest 25 = .ok (.invokevirtual 66, 3) := by decide +kernel
theorem dX6_beginsTest_28 : decode cX6_beginsTest 28 = .ok (.pop, 1) := by decide +kernel
theorem dX6_beginsTest_29 : decode cX6_beginsTest 29 = .ok (.aload_n 0, 1) := by decide +kernel
theorem dX6_beginsTest_30 : decode cX6_beginsTest 30 = .ok (.getfield 28, 3) := by decide +kernel
theorem dX6_beginsTest_33 : decode cX6_beginsTest 33 = .ok (.dup, 1) := by decide +kernel
theorem dX6_beginsTest_34 : decode cX6_beginsTest 34 = .ok (.getfield 178, 3) := by decide +kernel
theorem dX6_beginsTest_37 : decode cX6_beginsTest 37 = .ok (.iconst 1, 1) := by decide +kernel
theorem dX6_beginsTest_38 : decode cX6_beginsTest 38 = .ok (.iadd, 1) := by decide +kernel
theorem dX6_beginsTest_39 : decode cX6_beginsTest 39 = .ok (.putfield 178, 3) := by decide +kernel
theorem dX6_beginsTest_42 : decode cX6_beginsTest 42 = .ok (.aload_n 0, 1) := by decide +kernel
theorem dX6_beginsTest_43 : decode cX6_beginsTest 43 = .ok (.bipush 8, 2) := by decide +kernel
theorem dX6_beginsTest_45 : decode cX6_beginsTest 45 = .ok (.invokevirtual 100, 3) := by decide +kernel
theorem dX6_beginsTest_48 : decode cX6_beginsTest 48 = .ok (.ireturn, 1) := by decide +kernel
theorem dX6_beginsChoice_0 : decode cX6_beginsChoice 0 = .ok (.aload_n 0, 1) := by decide +kernel
theorem dX6_beginsChoice_1 : decode cX6_beginsChoice 1 = .ok (.getfield 28, 3) := by decide +kernel
theorem dX6_beginsChoice_4 : decode cX6_beginsChoice 4 = .ok (.getfield 181, 3) := by decide +kernel
theorem dX6_beginsChoice_7 : decode cX6_beginsChoice 7 = .ok (.istore_n 1, 1) := by decide +kernel
theorem dX6_beginsChoice_8 : decode cX6_beginsChoice 8 = .ok (.iload_n 1, 1) := by decide +kernel
theorem dX6_beginsChoice_9 : decode cX6_beginsChoice 9 = .ok (.ifCond .lt 9, 3) := by decide +kernel
theorem dX6_beginsChoice_12 : decode cX6_beginsChoice 12 = .ok (.iload_n 1, 1) := by decide +kernel
theorem dX6_beginsChoice_13 : decode cX6_beginsChoice 13 = .ok (.bipush 16, 2) := by decide +kernel
theorem dX6_beginsChoice_15 : decode cX6_beginsChoice 15 = .ok (.if_icmp .lt 5, 3) := by decide +kernel
theorem dX6_beginsChoice_18 : decode cX6_beginsChoice 18 = .ok (.iconst 0, 1) := by decide +kernel
theorem dX6_beginsChoice_19 : decode cX6_beginsChoice 19 = .ok (.ireturn, 1) := by decide +kernel
theorem dX6_beginsChoice_20 : decode cX6_beginsChoice 20 = .ok (.aload_n 0, 1) := by decide +kernel
theorem dX6_beginsChoice_21 : decode cX6_beginsChoice 21 = .ok (.bipush 7, 2) := by decide +kernel
theorem dX6_beginsChoice_23 : decode cX6_beginsChoice 23 = .ok (.iload_n 1, 1) := by decide +kernel
theorem dX6_beginsChoice_24 : decode cX6_beginsChoice 24 = .ok (.iconst 0, 1) := by decide +kernel
theorem dX6_beginsChoice_25 : decode cX6_beginsChoice 25 = .ok (.invokevirtual 66, 3) := by decide +kernel
theorem dX6_beginsChoice_28 : decode cX6_beginsChoice 28 = .ok (.pop, 1) := by decide +kernel
theorem dX6_beginsChoice_29 : decode cX6_beginsChoice 29 = .ok (.aload_n 0, 1) := by decide +kernel
theorem dX6_beginsChoice_30 : decode cX6_beginsChoice 30 = .ok (.getfield 28, 3) := by decide +kernel
theorem dX6_beginsChoice_33 : decode cX6_beginsChoice 33 = .ok (.getfield 184, 3) := by decide +kernel
theorem dX6_beginsChoice_36 : decode cX6_beginsChoice 36 = .ok (.iload_n 1, 1) := by decide +kernel
theorem dX6_beginsChoice_37 : decode cX6_beginsChoice 37 = .ok (.aload_n 0, 1) := by decide +kernel
theorem dX6_beginsChoice_38 : decode cX6_beginsChoice 38 = .ok (.getfield 28, 3) := by decide +kernel
theorem dX6_beginsChoice_41 : decode cX6_beginsChoice 41 = .ok (.getfield 61, 3) := by decide +kernel
theorem dX6_beginsChoice_44 : decode cX6_beginsChoice 44 = .ok (.iconst 1, 1) := by decide +kernel
theorem dX6_beginsChoice_45 : decode cX6_beginsChoice 45 = .ok (.isub, 1) := by decide +kernel
theorem dX6_beginsChoice_46 : decode cX6_beginsChoice 46 = .ok (.iastore, 1) := by decide +kernel
theorem dX6_beginsChoice_47 : decode cX6_beginsChoice 47 = .ok (.aload_n 0, 1) := by decide +kernel
theorem dX6_beginsChoice_48 : decode cX6_beginsChoice 48 = .ok (.getfield 28, 3) := by decide +kernel
theorem dX6_beginsChoice_51 : decode cX6_beginsChoice 51 = .ok (.dup, 1) := by decide +kernel
theorem dX6_beginsChoice_52 : decode cX6_beginsChoice 52 = .ok (.getfield 181, 3) := by decide +kernel
theorem dX6_beginsChoice_55 : decode cX6_beginsChoice 55 = .ok (.iconst 1, 1) := by decide +kernel
theorem dX6_beginsChoice_56 : decode cX6_beginsChoice 56 = .ok (.iadd, 1) := by decide +kernel
theorem dX6_beginsChoice_57 : decode cX6_beginsChoice 57 = .ok (.putfield 181, 3) := by decide +kernel
theorem dX6_beginsChoice_60 : decode cX6_beginsChoice 60 = .ok (.aload_n 0, 1) := by decide +kernel
theorem dX6_beginsChoice_61 : decode cX6_beginsChoice 61 = .ok (.bipush 13, 2) := by decide +kernel
theorem dX6_beginsChoice_63 : decode cX6_beginsChoice 63 = .ok (.invokevirtual 100, 3) := by decide +kernel
theorem dX6_beginsChoice_66 : decode cX6_beginsChoice 66 = .ok (.ireturn, 1) := by decide +kernel
theorem dX6_closesBlock_0 : decode cX6_closesBlock 0 = .ok (.aload_n 0, 1) := by decide +kernel
theorem dX6_closesBlock_1 : decode cX6_closesBlock 1 = .ok (.getfield 80, 3) := by decide +kernel
theorem dX6_closesBlock_4 : decode cX6_closesBlock 4 = .ok (.iconst 1, 1) := by decide +kernel
theorem dX6_closesBlock_5 : decode cX6_closesBlock 5 = .ok (.if_icmp .le 12, 3) := by decide +kernel
theorem dX6_closesBlock_8 : decode cX6_closesBlock 8 = .ok (.aload_n 0, 1) := by decide +kernel
theorem dX6_closesBlock_9 : decode cX6_closesBlock 9 = .ok (.getfield 80, 3) := by decide +kernel
theorem dX6_closesBlock_12 : decode cX6_closesBlock 12 = .ok (.bipush 6, 2) := by decide +kernel
theorem dX6_closesBlock_14 : decode cX6_closesBlock 14 = .ok (.if_icmp .le 5, 3) := by decide +kernel
theorem dX6_closesBlock_17 : decode cX6_closesBlock 17 = .ok (.iconst 0, 1) := by decide +kernel
theorem dX6_closesBlock_18 : decode cX6_closesBlock 18 = .ok (.ireturn, 1) := by decide +kernel
theorem dX6_closesBlock_19 : decode cX6_closesBlock 19 = .ok (.aload_n 0, 1) := by decide +kernel
theorem dX6_closesBlock_20 : decode cX6_closesBlock 20 = .ok (.getfield 15, 3) := by decide +kernel
theorem dX6_closesBlock_23 : decode cX6_closesBlock 23 = .ok (.aload_n 0, 1) := by decide +kernel
theorem dX6_closesBlock_24 : decode cX6_closesBlock 24 = .ok (.getfield 80, 3) := by decide +kernel
theorem dX6_closesBlock_27 : decode cX6_closesBlock 27 = .ok (.iconst 1, 1) := by decide +kernel
theorem dX6_closesBlock_28 : decode cX6_closesBlock 28 = .ok (.isub, 1) := by decide +kernel
theorem dX6_closesBlock_29 : decode cX6_closesBlock 29 = .ok (.iaload, 1) := by decide +kernel
theorem dX6_closesBlock_30 : decode cX6_closesBlock 30 = .ok (.istore_n 1, 1) := by decide +kernel
theorem dX6_closesBlock_31 : decode cX6_closesBlock 31 = .ok (.aload_n 0, 1) := by decide +kernel
theorem dX6_closesBlock_32 : decode cX6_closesBlock 32 = .ok (.getfield 28, 3) := by decide +kernel
theorem dX6_closesBlock_35 : decode cX6_closesBlock 35 = .ok (.iload_n 1, 1) := by decide +kernel
theorem dX6_closesBlock_36 : decode cX6_closesBlock 36 = .ok (.bipush 7, 2) := by decide +kernel
theorem dX6_closesBlock_38 : decode cX6_closesBlock 38 = .ok (.invokevirtual 206, 3) := by decide +kernel
theorem dX6_closesBlock_41 : decode cX6_closesBlock 41 = .ok (.ifCond .eq 36, 3) := by decide +kernel
theorem dX6_closesBlock_44 : decode cX6_closesBlock 44 = .ok (.aload_n 0, 1) := by decide +kernel
theorem dX6_closesBlock_45 : decode cX6_closesBlock 45 = .ok (.bipush 12, 2) := by decide +kernel
theorem dX6_closesBlock_47 : decode cX6_closesBlock 47 = .ok (.aload_n 0, 1) := by decide +kernel
theorem dX6_closesBlock_48 : decode cX6_closesBlock 48 = .ok (.getfield 28, 3) := by decide +kernel
theorem dX6_closesBlock_51 : decode cX6_closesBlock 51 = .ok (.getfield 223, 3) := by decide +kernel
theorem dX6_closesBlock_54 : decode cX6_closesBlock 54 = .ok (.iload_n 1, 1) := by decide +kernel
theorem dX6_closesBlock_55 : decode cX6_closesBlock 55 = .ok (.iaload, 1) := by decide +kernel
theorem dX6_closesBlock_56 : decode cX6_closesBlock 56 = .ok (.iconst 0, 1) := by decide +kernel
theorem dX6_closesBlock_57 : decode cX6_closesBlock 57 = .ok (.invokevirtual 66, 3) := by decide +kernel
theorem dX6_closesBlock_60 : decode cX6_closesBlock 60 = .ok (.pop, 1) := by decide +kernel
theorem dX6_closesBlock_61 : decode cX6_closesBlock 61 = .ok (.aload_n 0, 1) := by decide +kernel
theorem dX6_closesBlock_62 : decode cX6_closesBlock 62 = .ok (.dup, 1) := by decide +kernel
theorem dX6_closesBlock_63 : decode cX6_closesBlock 63 = .ok (.getfield 80, 3) := by decide +kernel
theorem dX6_closesBlock_66 : decode cX6_closesBlock 66 = .ok (.iconst 1, 1) := by decide +kernel
theorem dX6_closesBlock_67 : decode cX6_closesBlock 67 = .ok (.isub, 1) := by decide +kernel
theorem dX6_closesBlock_68 : decode cX6_closesBlock 68 = .ok (.putfield 80, 3) := by decide +kernel
theorem dX6_closesBlock_71 : decode cX6_closesBlock 71 = .ok (.aload_n 0, 1) := by decide +kernel
theorem dX6_closesBlock_72 : decode cX6_closesBlock 72 = .ok (.iconst 3, 1) := by decide +kernel
theorem dX6_closesBlock_73 : decode cX6_closesBlock 73 = .ok (.invokevirtual 100, 3) := by decide +kernel
theorem dX6_closesBlock_76 : decode cX6_closesBlock 76 = .ok (.ireturn, 1) := by decide +kernel
theorem dX6_closesBlock_77 : decode cX6_closesBlock 77 = .ok (.aload_n 0, 1) := by decide +kernel
theorem dX6_closesBlock_78 : decode cX6_closesBlock 78 = .ok (.getfield 18, 3) := by decide +kernel
theorem dX6_closesBlock_81 : decode cX6_closesBlock 81 = .ok (.aload_n 0, 1) := by decide +kernel
theorem dX6_closesBlock_82 : decode cX6_closesBlock 82 = .ok (.getfield 80, 3) := by decide +kernel
theorem dX6_closesBlock_85 : decode cX6_closesBlock 85 = .ok (.baload, 1) := by decide +kernel
theorem dX6_closesBlock_86 : decode cX6_closesBlock 86 = .ok (.istore_n 2, 1) := by decide +kernel
theorem dX6_closesBlock_87 : decode cX6_closesBlock 87 = .ok (.aload_n 0, 1) := by decide +kernel
theorem dX6_closesBlock_88 : decode cX6_closesBlock 88 = .ok (.dup, 1) := by decide +kernel
theorem dX6_closesBlock_89 : decode cX6_closesBlock 89 = .ok (.getfield 80, 3) := by decide +kernel
theorem dX6_closesBlock_92 : decode cX6_closesBlock 92 = .ok (.iconst 1, 1) := by decide +kernel
theorem dX6_closesBlock_93 : decode cX6_closesBlock 93 = .ok (.isub, 1) := by decide +kernel
theorem dX6_closesBlock_94 : decode cX6_closesBlock 94 = .ok (.putfield 80, 3) := by decide +kernel
theorem dX6_closesBlock_97 : decode cX6_closesBlock 97 = .ok (.aload_n 0, 1) := by decide +kernel
theorem dX6_closesBlock_98 : decode cX6_closesBlock 98 = .ok (.iload_n 2, 1) := by decide +kernel
theorem dX6_closesBlock_99 : decode cX6_closesBlock 99 = .ok (.ifCond .eq 7, 3) := by decide +kernel
theorem dX6_closesBlock_102 : decode cX6_closesBlock 102 = .ok (.iconst 3, 1) := by decide +kernel
theorem dX6_closesBlock_103 : decode cX6_closesBlock 103 = .ok (.goto 4, 3) := by decide +kernel
theorem dX6_closesBlock_106 : decode cX6_closesBlock 106 = .ok (.iconst 4, 1) := by decide +kernel
theorem dX6_closesBlock_107 : decode cX6_closesBlock 107 = .ok (.invokevirtual 100, 3) := by decide +kernel
theorem dX6_closesBlock_110 : decode cX6_closesBlock 110 = .ok (.ireturn, 1) := by decide +kernel
theorem dX6_isMeter_0 : decode cX6_isMeter 0 = .ok (.iload_n 0, 1) := by decide +kernel
theorem dX6_isMeter_1 : decode cX6_isMeter 1 = .ok (.bipush 120, 2) := by decide +kernel
theorem dX6_isMeter_3 : decode cX6_isMeter 3 = .ok (.if_icmp .lt 13, 3) := by decide +kernel
theorem dX6_isMeter_6 : decode cX6_isMeter 6 = .ok (.iload_n 0, 1) := by decide +kernel
theorem dX6_isMeter_7 : decode cX6_isMeter 7 = .ok (.bipush 122, 2) := by decide +kernel
theorem dX6_isMeter_9 : decode cX6_isMeter 9 = .ok (.if_icmp .gt 7, 3) := by decide +kernel
theorem dX6_isMeter_12 : decode cX6_isMeter 12 = .ok (.iconst 1, 1) := by decide +kernel
theorem dX6_isMeter_13 : decode cX6_isMeter 13 = .ok (.goto 4, 3) := by decide +kernel
theorem dX6_isMeter_16 : decode cX6_isMeter 16 = .ok (.iconst 0, 1) := by decide +kernel
theorem dX6_isMeter_17 : decode cX6_isMeter 17 = .ok (.ireturn, 1) := by decide +kernel
theorem dX6_beginsMeter_0 : decode cX6_beginsMeter 0 = .ok (.aload_n 0, 1) := by decide +kernel
theorem dX6_beginsMeter_1 : decode cX6_beginsMeter 1 = .ok (.iload_n 1, 1) := by decide +kernel
theorem dX6_beginsMeter_2 : decode cX6_beginsMeter 2 = .ok (.bipush 120, 2) := by decide +kernel
theorem dX6_beginsMeter_4 : decode cX6_beginsMeter 4 = .ok (.isub, 1) := by decide +kernel
theorem dX6_beginsMeter_5 : decode cX6_beginsMeter 5 = .ok (.putfield 125, 3) := by decide +kernel
theorem dX6_beginsMeter_8 : decode cX6_beginsMeter 8 = .ok (.aload_n 0, 1) := by decide +kernel
theorem dX6_beginsMeter_9 : decode cX6_beginsMeter 9 = .ok (.bipush 6, 2) := by decide +kernel
theorem dX6_beginsMeter_11 : decode cX6_beginsMeter 11 = .ok (.invokevirtual 100, 3) := by decide +kernel
theorem dX6_beginsMeter_14 : decode cX6_beginsMeter 14 = .ok (.ireturn, 1) := by decide +kernel
theorem dX6_takesNumber_0 : decode cX6_takesNumber 0 = .ok (.aload_n 0, 1) := by decide +kernel
theorem dX6_takesNumber_1 : decode cX6_takesNumber 1 = .ok (.aload_n 0, 1) := by decide +kernel
theorem dX6_takesNumber_2 : decode cX6_takesNumber 2 = .ok (.getfield 88, 3) := by decide +kernel
theorem dX6_takesNumber_5 : decode cX6_takesNumber 5 = .ok (.putfield 46, 3) := by decide +kernel
theorem dX6_takesNumber_8 : decode cX6_takesNumber 8 = .ok (.aload_n 0, 1) := by decide +kernel
theorem dX6_takesNumber_9 : decode cX6_takesNumber 9 = .ok (.getfield 88, 3) := by decide +kernel
theorem dX6_takesNumber_12 : decode cX6_takesNumber 12 = .ok (.iconst 1, 1) := by decide +kernel
theorem dX6_takesNumber_13 : decode cX6_takesNumber 13 = .ok (.if_icmp .eq 11, 3) := by decide +kernel
theorem dX6_takesNumber_16 : decode cX6_takesNumber 16 = .ok (.aload_n 0, 1) := by decide +kernel
theorem dX6_takesNumber_17 : decode cX6_takesNumber 17 = .ok (.getfield 88, 3) := by decide +kernel
theorem dX6_takesNumber_20 : decode cX6_takesNumber 20 = .ok (.iconst 2, 1) := by decide +kernel
theorem dX6_takesNumber_21 : decode cX6_takesNumber 21 = .ok (.if_icmp .ne 7, 3) := by decide +kernel
theorem dX6_takesNumber_24 : decode cX6_takesNumber 24 = .ok (.iconst 1, 1) := by decide +kernel
theorem dX6_takesNumber_25 : decode cX6_takesNumber 25 = .ok (.goto 4, 3) := by decide +kernel
theorem dX6_takesNumber_28 : decode cX6_takesNumber 28 = .ok (.iconst 0, 1) := by decide +kernel
theorem dX6_takesNumber_29 : decode cX6_takesNumber 29 = .ok (.ireturn, 1) := by decide +kernel
theorem dX6_takesLine_0 : decode cX6_takesLine 0 = .ok (.aload_n 0, 1) := by decide +kernel
theorem dX6_takesLine_1 : decode cX6_takesLine 1 = .ok (.invokevirtual 168, 3) := by decide +kernel
theorem dX6_takesLine_4 : decode cX6_takesLine 4 = .ok (.ifCond .eq 20, 3) := by decide +kernel
theorem dX6_takesLine_7 : decode cX6_takesLine 7 = .ok (.aload_n 0, 1) := by decide +kernel
theorem dX6_takesLine_8 : decode cX6_takesLine 8 = .ok (.iconst 0, 1) := by decide +kernel
theorem dX6_takesLine_9 : decode cX6_takesLine 9 = .ok (.aload_n 0, 1) := by decide +kernel
theorem dX6_takesLine_10 : decode cX6_takesLine 10 = .ok (.getfield 91, 3) := by decide +kernel
theorem dX6_takesLine_13 : decode cX6_takesLine 13 = .ok (.iconst 0, 1) := by decide +kernel
theorem dX6_takesLine_14 : decode cX6_takesLine 14 = .ok (.invokevirtual 66, 3) := by decide +kernel
theorem dX6_takesLine_17 : decode cX6_takesLine 17 = .ok (.ifCond .eq 7, 3) := by decide +kernel
theorem dX6_takesLine_20 : decode cX6_takesLine 20 = .ok (.iconst 1, 1) := by decide +kernel
theorem dX6_takesLine_21 : decode cX6_takesLine 21 = .ok (.goto 4, 3) := by decide +kernel
theorem dX6_takesLine_24 : decode cX6_takesLine 24 = .ok (.iconst 0, 1) := by decide +kernel
theorem dX6_takesLine_25 : decode cX6_takesLine 25 = .ok (.ireturn, 1) := by decide +kernel
theorem dX6_takesInBlock_0 : decode cX6_takesInBlock 0 = .ok (.iload_n 1, 1) := by decide +kernel
theorem dX6_takesInBlock_1 : decode cX6_takesInBlock 1 = .ok (.lookupswitch 184 #[(43, 83), (45, 90), (46, 131), (60, 114), (61, 143), (62, 107), (63, 97), (91, 102), (125, 138)], 83) := by decide +kernel
theorem dX6_takesInBlock_84 : decode cX6_takesInBlock 84 = .ok (.aload_n 0, 1) := by decide +kernel
theorem dX6_takesInBlock_85 : decode cX6_takesInBlock 85 = .ok (.iconst 1, 1) := by decide +kernel
theorem dX6_takesInBlock_86 : decode cX6_takesInBlock 86 = .ok (.iconst 5, 1) := by decide +kernel
theorem dX6_takesInBlock_87 : decode cX6_takesInBlock 87 = .ok (.invokevirtual 146, 3) := by decide +kernel
theorem dX6_takesInBlock_90 : decode cX6_takesInBlock 90 = .ok (.ireturn, 1) := by decide +kernel
theorem dX6_takesInBlock_91 : decode cX6_takesInBlock 91 = .ok (.aload_n 0, 1) := by decide +kernel
theorem dX6_takesInBlock_92 : decode cX6_takesInBlock 92 = .ok (.iconst 2, 1) := by decide +kernel
theorem dX6_takesInBlock_93 : decode cX6_takesInBlock 93 = .ok (.iconst 5, 1) := by decide +kernel
theorem dX6_takesInBlock_94 : decode cX6_takesInBlock 94 = .ok (.invokevirtual 146, 3) := by decide +kernel
theorem dX6_takesInBlock_97 : decode cX6_takesInBlock 97 = .ok (.ireturn, 1) := by decide +kernel
theorem dX6_takesInBlock_98 : decode cX6_takesInBlock 98 = .ok (.aload_n 0, 1) := by decide +kernel
theorem dX6_takesInBlock_99 : decode cX6_takesInBlock 99 = .ok (.invokevirtual 150, 3) := by decide +kernel
theorem dX6_takesInBlock_102 : decode cX6_takesInBlock 102 = .ok (.ireturn, 1) := by decide +kernel
theorem dX6_takesInBlock_103 : decode cX6_takesInBlock 103 = .ok (.aload_n 0, 1) := by decide +kernel
theorem dX6_takesInBlock_104 : decode cX6_takesInBlock 104 = .ok (.invokevirtual 153, 3) := by decide +kernel
theorem dX6_takesInBlock_107 : decode cX6_takesInBlock 107 = .ok (.ireturn, 1) := by decide +kernel
theorem dX6_takesInBlock_108 : decode cX6_takesInBlock 108 = .ok (.aload_n 0, 1) := by decide +kernel
theorem dX6_takesInBlock_109 : decode cX6_takesInBlock 109 = .ok (.bipush 16, 2) := by decide +kernel
theorem dX6_takesInBlock_111 : decode cX6_takesInBlock 111 = .ok (.invokevirtual 100, 3) := by decide +kernel
theorem dX6_takesInBlock_114 : decode cX6_takesInBlock 114 = .ok (.ireturn, 1) := by decide +kernel
theorem dX6_takesInBlock_115 : decode cX6_takesInBlock 115 = .ok (.aload_n 0, 1) := by decide +kernel
theorem dX6_takesInBlock_116 : decode cX6_takesInBlock 116 = .ok (.bipush 9, 2) := by decide +kernel
theorem dX6_takesInBlock_118 : decode cX6_takesInBlock 118 = .ok (.aload_n 0, 1) := by decide +kernel
theorem dX6_takesInBlock_119 : decode cX6_takesInBlock 119 = .ok (.getfield 28, 3) := by decide +kernel
theorem dX6_takesInBlock_122 : decode cX6_takesInBlock 122 = .ok (.getfield 61, 3) := by decide +kernel
theorem dX6_takesInBlock_125 : decode cX6_takesInBlock 125 = .ok (.iconst 1, 1) := by decide +kernel
theorem dX6_takesInBlock_126 : decode cX6_takesInBlock 126 = .ok (.isub, 1) := by decide +kernel
theorem dX6_takesInBlock_127 : decode cX6_takesInBlock 127 = .ok (.iconst 0, 1) := by decide +kernel
theorem dX6_takesInBlock_128 : decode cX6_takesInBlock 128 = .ok (.invokevirtual 66, 3) := by decide +kernel
theorem dX6_takesInBlock_131 : decode cX6_takesInBlock 131 = .ok (.ireturn, 1) := by decide +kernel
theorem dX6_takesInBlock_132 : decode cX6_takesInBlock 132 = .ok (.aload_n 0, 1) := by decide +kernel
theorem dX6_takesInBlock_133 : decode cX6_takesInBlock 133 = .ok (.bipush 17, 2) := by decide +kernel
theorem dX6_takesInBlock_135 : decode cX6_takesInBlock 135 = .ok (.invokevirtual 100, 3) := by decide +kernel
theorem dX6_takesInBlock_138 : decode cX6_takesInBlock 138 = .ok (.ireturn, 1) := by decide +kernel
theorem dX6_takesInBlock_139 : decode cX6_takesInBlock 139 = .ok (.aload_n 0, 1) := by decide +kernel
theorem dX6_takesInBlock_140 : decode cX6_takesInBlock 140 = .ok (.invokevirtual 156, 3) := by decide +kernel
theorem dX6_takesInBlock_143 : decode cX6_takesInBlock 143 = .ok (.ireturn, 1) := by decide +kernel
theorem dX6_takesInBlock_144 : decode cX6_takesInBlock 144 = .ok (.aload_n 0, 1) := by decide +kernel
theorem dX6_takesInBlock_145 : decode cX6_takesInBlock 145 = .ok (.getfield 80, 3) := by decide +kernel
theorem dX6_takesInBlock_148 : decode cX6_takesInBlock 148 = .ok (.iconst 1, 1) := by decide +kernel
theorem dX6_takesInBlock_149 : decode cX6_takesInBlock 149 = .ok (.if_icmp .ne 34, 3) := by decide +kernel
theorem dX6_takesInBlock_152 : decode cX6_takesInBlock 152 = .ok (.aload_n 0, 1) := by decide +kernel
theorem dX6_takesInBlock_153 : decode cX6_takesInBlock 153 = .ok (.bipush 11, 2) := by decide +kernel
theorem dX6_takesInBlock_155 : decode cX6_takesInBlock 155 = .ok (.aload_n 0, 1) := by decide +kernel
theorem dX6_takesInBlock_156 : decode cX6_takesInBlock 156 = .ok (.getfield 28, 3) := by decide +kernel
theorem dX6_takesInBlock_159 : decode cX6_takesInBlock 159 = .ok (.getfield 61, 3) := by decide +kernel
theorem dX6_takesInBlock_162 : decode cX6_takesInBlock 162 = .ok (.iconst 1, 1) := by decide +kernel
theorem dX6_takesInBlock_163 : decode cX6_takesInBlock 163 = .ok (.isub, 1) := by decide +kernel
theorem dX6_takesInBlock_164 : decode cX6_takesInBlock 164 = .ok (.iconst 0, 1) := by decide +kernel
theorem dX6_takesInBlock_165 : decode cX6_takesInBlock 165 = .ok (.invokevirtual 66, 3) := by decide +kernel
theorem dX6_takesInBlock_168 : decode cX6_takesInBlock 168 = .ok (.ifCond .eq 15, 3) := by decide +kernel
theorem dX6_takesInBlock_171 : decode cX6_takesInBlock 171 = .ok (.aload_n 0, 1) := by decide +kernel
theorem dX6_takesInBlock_172 : decode cX6_takesInBlock 172 = .ok (.iconst 1, 1) := by decide +kernel
theorem dX6_takesInBlock_173 : decode cX6_takesInBlock 173 = .ok (.invokevirtual 100, 3) := by decide +kernel
theorem dX6_takesInBlock_176 : decode cX6_takesInBlock 176 = .ok (.ifCond .eq 7, 3) := by decide +kernel
theorem dX6_takesInBlock_179 : decode cX6_takesInBlock 179 = .ok (.iconst 1, 1) := by decide +kernel
theorem dX6_takesInBlock_180 : decode cX6_takesInBlock 180 = .ok (.goto 4, 3) := by decide +kernel
theorem dX6_takesInBlock_183 : decode cX6_takesInBlock 183 = .ok (.iconst 0, 1) := by decide +kernel
theorem dX6_takesInBlock_184 : decode cX6_takesInBlock 184 = .ok (.ireturn, 1) := by decide +kernel
theorem dX6_takesInBlock_185 : decode cX6_takesInBlock 185 = .ok (.iload_n 1, 1) := by decide +kernel
theorem dX6_takesInBlock_186 : decode cX6_takesInBlock 186 = .ok (.invokestatic 159, 3) := by decide +kernel
theorem dX6_takesInBlock_189 : decode cX6_takesInBlock 189 = .ok (.ifCond .eq 11, 3) := by decide +kernel
theorem dX6_takesInBlock_192 : decode cX6_takesInBlock 192 = .ok (.aload_n 0, 1) := by decide +kernel
theorem dX6_takesInBlock_193 : decode cX6_takesInBlock 193 = .ok (.iload_n 1, 1) := by decide +kernel
theorem dX6_takesInBlock_194 : decode cX6_takesInBlock 194 = .ok (.invokevirtual 162, 3) := by decide +kernel
theorem dX6_takesInBlock_197 : decode cX6_takesInBlock 197 = .ok (.goto 22, 3) := by decide +kernel
theorem dX6_takesInBlock_200 : decode cX6_takesInBlock 200 = .ok (.iload_n 1, 1) := by decide +kernel
theorem dX6_takesInBlock_201 : decode cX6_takesInBlock 201 = .ok (.invokestatic 97, 3) := by decide +kernel
theorem dX6_takesInBlock_204 : decode cX6_takesInBlock 204 = .ok (.ifCond .eq 14, 3) := by decide +kernel
theorem dX6_takesInBlock_207 : decode cX6_takesInBlock 207 = .ok (.aload_n 0, 1) := by decide +kernel
theorem dX6_takesInBlock_208 : decode cX6_takesInBlock 208 = .ok (.invokevirtual 165, 3) := by decide +kernel
theorem dX6_takesInBlock_211 : decode cX6_takesInBlock 211 = .ok (.ifCond .eq 7, 3) := by decide +kernel
theorem dX6_takesInBlock_214 : decode cX6_takesInBlock 214 = .ok (.iconst 1, 1) := by decide +kernel
theorem dX6_takesInBlock_215 : decode cX6_takesInBlock 215 = .ok (.goto 4, 3) := by decide +kernel
theorem dX6_takesInBlock_218 : decode cX6_takesInBlock 218 = .ok (.iconst 0, 1) := by decide +kernel
theorem dX6_takesInBlock_219 : decode cX6_takesInBlock 219 = .ok (.ireturn, 1) := by decide +kernel
theorem dX6_opensBlock_0 : decode cX6_opensBlock 0 = .ok (.aload_n 0, 1) := by decide +kernel
theorem dX6_opensBlock_1 : decode cX6_opensBlock 1 = .ok (.getfield 80, 3) := by decide +kernel
theorem dX6_opensBlock_4 : decode cX6_opensBlock 4 = .ok (.iconst 1, 1) := by decide +kernel
theorem dX6_opensBlock_5 : decode cX6_opensBlock 5 = .ok (.if_icmp .lt 12, 3) := by decide +kernel
theorem dX6_opensBlock_8 : decode cX6_opensBlock 8 = .ok (.aload_n 0, 1) := by decide +kernel
theorem dX6_opensBlock_9 : decode cX6_opensBlock 9 = .ok (.getfield 80, 3) := by decide +kernel
theorem dX6_opensBlock_12 : decode cX6_opensBlock 12 = .ok (.bipush 6, 2) := by decide +kernel
theorem dX6_opensBlock_14 : decode cX6_opensBlock 14 = .ok (.if_icmp .lt 5, 3) := by decide +kernel
theorem dX6_opensBlock_17 : decode cX6_opensBlock 17 = .ok (.iconst 0, 1) := by decide +kernel
theorem dX6_opensBlock_18 : decode cX6_opensBlock 18 = .ok (.ireturn, 1) := by decide +kernel
theorem dX6_opensBlock_19 : decode cX6_opensBlock 19 = .ok (.aload_n 0, 1) := by decide +kernel
theorem dX6_opensBlock_20 : decode cX6_opensBlock 20 = .ok (.dup, 1) := by decide +kernel
theorem dX6_opensBlock_21 : decode cX6_opensBlock 21 = .ok (.getfield 80, 3) := by decide +kernel
theorem dX6_opensBlock_24 : decode cX6_opensBlock 24 = .ok (.iconst 1, 1) := by decide +kernel
theorem dX6_opensBlock_25 : decode cX6_opensBlock 25 = .ok (.iadd, 1) := by decide +kernel
theorem dX6_opensBlock_26 : decode cX6_opensBlock 26 = .ok (.putfield 80, 3) := by decide +kernel
theorem dX6_opensBlock_29 : decode cX6_opensBlock 29 = .ok (.aload_n 0, 1) := by decide +kernel
theorem dX6_opensBlock_30 : decode cX6_opensBlock 30 = .ok (.getfield 15, 3) := by decide +kernel
theorem dX6_opensBlock_33 : decode cX6_opensBlock 33 = .ok (.aload_n 0, 1) := by decide +kernel
theorem dX6_opensBlock_34 : decode cX6_opensBlock 34 = .ok (.getfield 80, 3) := by decide +kernel
theorem dX6_opensBlock_37 : decode cX6_opensBlock 37 = .ok (.iconst (-1), 1) := by decide +kernel
theorem dX6_opensBlock_38 : decode cX6_opensBlock 38 = .ok (.iastore, 1) := by decide +kernel
theorem dX6_opensBlock_39 : decode cX6_opensBlock 39 = .ok (.aload_n 0, 1) := by decide +kernel
theorem dX6_opensBlock_40 : decode cX6_opensBlock 40 = .ok (.getfield 18, 3) := by decide +kernel
theorem dX6_opensBlock_43 : decode cX6_opensBlock 43 = .ok (.aload_n 0, 1) := by decide +kernel
theorem dX6_opensBlock_44 : decode cX6_opensBlock 44 = .ok (.getfield 80, 3) := by decide +kernel
theorem dX6_opensBlock_47 : decode cX6_opensBlock 47 = .ok (.iload_n 1, 1) := by decide +kernel
theorem dX6_opensBlock_48 : decode cX6_opensBlock 48 = .ok (.bastore, 1) := by decide +kernel
theorem dX6_opensBlock_49 : decode cX6_opensBlock 49 = .ok (.aload_n 0, 1) := by decide +kernel
theorem dX6_opensBlock_50 : decode cX6_opensBlock 50 = .ok (.iconst 3, 1) := by decide +kernel
theorem dX6_opensBlock_51 : decode cX6_opensBlock 51 = .ok (.invokevirtual 100, 3) := by decide +kernel
theorem dX6_opensBlock_54 : decode cX6_opensBlock 54 = .ok (.ireturn, 1) := by decide +kernel
theorem dX6_isFlag_0 : decode cX6_isFlag 0 = .ok (.iload_n 0, 1) := by decide +kernel
theorem dX6_isFlag_1 : decode cX6_isFlag 1 = .ok (.bipush 97, 2) := by decide +kernel
theorem dX6_isFlag_3 : decode cX6_isFlag 3 = .ok (.if_icmp .lt 13, 3) := by decide +kernel
theorem dX6_isFlag_6 : decode cX6_isFlag 6 = .ok (.iload_n 0, 1) := by decide +kernel
theorem dX6_isFlag_7 : decode cX6_isFlag 7 = .ok (.bipush 102, 2) := by decide +kernel
theorem dX6_isFlag_9 : decode cX6_isFlag 9 = .ok (.if_icmp .gt 7, 3) := by decide +kernel
theorem dX6_isFlag_12 : decode cX6_isFlag 12 = .ok (.iconst 1, 1) := by decide +kernel
theorem dX6_isFlag_13 : decode cX6_isFlag 13 = .ok (.goto 4, 3) := by decide +kernel
theorem dX6_isFlag_16 : decode cX6_isFlag 16 = .ok (.iconst 0, 1) := by decide +kernel
theorem dX6_isFlag_17 : decode cX6_isFlag 17 = .ok (.ireturn, 1) := by decide +kernel
theorem dX6_takesMeterSign_0 : decode cX6_takesMeterSign 0 = .ok (.iload_n 1, 1) := by decide +kernel
theorem dX6_takesMeterSign_1 : decode cX6_takesMeterSign 1 = .ok (.lookupswitch 59 #[(43, 43), (45, 51), (61, 35)], 35) := by decide +kernel
theorem dX6_takesMeterSign_36 : decode cX6_takesMeterSign 36 = .ok (.aload_n 0, 1) := by decide +kernel
theorem dX6_takesMeterSign_37 : decode cX6_takesMeterSign 37 = .ok (.iconst 3, 1) := by decide +kernel
theorem dX6_takesMeterSign_38 : decode cX6_takesMeterSign 38 = .ok (.bipush 7, 2) := by decide +kernel
theorem dX6_takesMeterSign_40 : decode cX6_takesMeterSign 40 = .ok (.invokevirtual 146, 3) := by decide +kernel
theorem dX6_takesMeterSign_43 : decode cX6_takesMeterSign 43 = .ok (.ireturn, 1) := by decide +kernel
theorem dX6_takesMeterSign_44 : decode cX6_takesMeterSign 44 = .ok (.aload_n 0, 1) := by decide +kernel
theorem dX6_takesMeterSign_45 : decode cX6_takesMeterSign 45 = .ok (.iconst 4, 1) := by decide +kernel
theorem dX6_takesMeterSign_46 : decode cX6_takesMeterSign 46 = .ok (.bipush 7, 2) := by decide +kernel
theorem dX6_takesMeterSign_48 : decode cX6_takesMeterSign 48 = .ok (.invokevirtual 146, 3) := by decide +kernel
theorem dX6_takesMeterSign_51 : decode cX6_takesMeterSign 51 = .ok (.ireturn, 1) := by decide +kernel
theorem dX6_takesMeterSign_52 : decode cX6_takesMeterSign 52 = .ok (.aload_n 0, 1) := by decide +kernel
theorem dX6_takesMeterSign_53 : decode cX6_takesMeterSign 53 = .ok (.iconst 5, 1) := by decide +kernel
theorem dX6_takesMeterSign_54 : decode cX6_takesMeterSign 54 = .ok (.bipush 7, 2) := by decide +kernel
theorem dX6_takesMeterSign_56 : decode cX6_takesMeterSign 56 = .ok (.invokevirtual 146, 3) := by decide +kernel
theorem dX6_takesMeterSign_59 : decode cX6_takesMeterSign 59 = .ok (.ireturn, 1) := by decide +kernel
theorem dX6_takesMeterSign_60 : decode cX6_takesMeterSign 60 = .ok (.iconst 0, 1) := by decide +kernel
theorem dX6_takesMeterSign_61 : decode cX6_takesMeterSign 61 = .ok (.ireturn, 1) := by decide +kernel
theorem dX6_takesLabel_0 : decode cX6_takesLabel 0 = .ok (.iload_n 1, 1) := by decide +kernel
theorem dX6_takesLabel_1 : decode cX6_takesLabel 1 = .ok (.invokestatic 97, 3) := by decide +kernel
theorem dX6_takesLabel_4 : decode cX6_takesLabel 4 = .ok (.ifCond .eq 10, 3) := by decide +kernel
theorem dX6_takesLabel_7 : decode cX6_takesLabel 7 = .ok (.aload_n 0, 1) := by decide +kernel
theorem dX6_takesLabel_8 : decode cX6_takesLabel 8 = .ok (.invokevirtual 168, 3) := by decide +kernel
theorem dX6_takesLabel_11 : decode cX6_takesLabel 11 = .ok (.ifCond .ne 5, 3) := by decide +kernel
theorem dX6_takesLabel_14 : decode cX6_takesLabel 14 = .ok (.iconst 0, 1) := by decide +kernel
theorem dX6_takesLabel_15 : decode cX6_takesLabel 15 = .ok (.ireturn, 1) := by decide +kernel
theorem dX6_takesLabel_16 : decode cX6_takesLabel 16 = .ok (.aload_n 0, 1) := by decide +kernel
theorem dX6_takesLabel_17 : decode cX6_takesLabel 17 = .ok (.getfield 28, 3) := by decide +kernel
theorem dX6_takesLabel_20 : decode cX6_takesLabel 20 = .ok (.getfield 187, 3) := by decide +kernel
theorem dX6_takesLabel_23 : decode cX6_takesLabel 23 = .ok (.aload_n 0, 1) := by decide +kernel
theorem dX6_takesLabel_24 : decode cX6_takesLabel 24 = .ok (.getfield 28, 3) := by decide +kernel
theorem dX6_takesLabel_27 : decode cX6_takesLabel 27 = .ok (.getfield 181, 3) := by decide +kernel
theorem dX6_takesLabel_30 : decode cX6_takesLabel 30 = .ok (.iconst 1, 1) := by decide +kernel
theorem dX6_takesLabel_31 : decode cX6_takesLabel 31 = .ok (.isub, 1) := by decide +kernel
theorem dX6_takesLabel_32 : decode cX6_takesLabel 32 = .ok (.aload_n 0, 1) := by decide +kernel
theorem dX6_takesLabel_33 : decode cX6_takesLabel 33 = .ok (.getfield 91, 3) := by decide +kernel
theorem dX6_takesLabel_36 : decode cX6_takesLabel 36 = .ok (.invokestatic 174, 3) := by decide +kernel
theorem dX6_takesLabel_39 : decode cX6_takesLabel 39 = .ok (.aload_n 0, 1) := by decide +kernel
theorem dX6_takesLabel_40 : decode cX6_takesLabel 40 = .ok (.bipush 14, 2) := by decide +kernel
theorem dX6_takesLabel_42 : decode cX6_takesLabel 42 = .ok (.invokevirtual 100, 3) := by decide +kernel
theorem dX6_takesLabel_45 : decode cX6_takesLabel 45 = .ok (.ireturn, 1) := by decide +kernel
theorem dX6_addGoal_0 : decode cX6_addGoal 0 = .ok (.aload_n 0, 1) := by decide +kernel
theorem dX6_addGoal_1 : decode cX6_addGoal 1 = .ok (.getfield 25, 3) := by decide +kernel
theorem dX6_addGoal_4 : decode cX6_addGoal 4 = .ok (.aload_n 0, 1) := by decide +kernel
theorem dX6_addGoal_5 : decode cX6_addGoal 5 = .ok (.getfield 28, 3) := by decide +kernel
theorem dX6_addGoal_8 : decode cX6_addGoal 8 = .ok (.getfield 171, 3) := by decide +kernel
theorem dX6_addGoal_11 : decode cX6_addGoal 11 = .ok (.aload_n 0, 1) := by decide +kernel
theorem dX6_addGoal_12 : decode cX6_addGoal 12 = .ok (.getfield 42, 3) := by decide +kernel
theorem dX6_addGoal_15 : decode cX6_addGoal 15 = .ok (.invokestatic 174, 3) := by decide +kernel
theorem dX6_addGoal_18 : decode cX6_addGoal 18 = .ok (.aload_n 0, 1) := by decide +kernel
theorem dX6_addGoal_19 : decode cX6_addGoal 19 = .ok (.bipush 8, 2) := by decide +kernel
theorem dX6_addGoal_21 : decode cX6_addGoal 21 = .ok (.iload_n 1, 1) := by decide +kernel
theorem dX6_addGoal_22 : decode cX6_addGoal 22 = .ok (.iconst 0, 1) := by decide +kernel
theorem dX6_addGoal_23 : decode cX6_addGoal 23 = .ok (.invokevirtual 66, 3) := by decide +kernel
theorem dX6_addGoal_26 : decode cX6_addGoal 26 = .ok (.ireturn, 1) := by decide +kernel
theorem dX6_addTerm_0 : decode cX6_addTerm 0 = .ok (.aload_n 0, 1) := by decide +kernel
theorem dX6_addTerm_1 : decode cX6_addTerm 1 = .ok (.getfield 28, 3) := by decide +kernel
theorem dX6_addTerm_4 : decode cX6_addTerm 4 = .ok (.getfield 209, 3) := by decide +kernel
theorem dX6_addTerm_7 : decode cX6_addTerm 7 = .ok (.iload_n 1, 1) := by decide +kernel
theorem dX6_addTerm_8 : decode cX6_addTerm 8 = .ok (.iload_n 2, 1) := by decide +kernel
theorem dX6_addTerm_9 : decode cX6_addTerm 9 = .ok (.iload_n 3, 1) := by decide +kernel
theorem dX6_addTerm_10 : decode cX6_addTerm 10 = .ok (.invokevirtual 213, 3) := by decide +kernel
theorem dX6_addTerm_13 : decode cX6_addTerm 13 = .ok (.aload_n 0, 1) := by decide +kernel
theorem dX6_addTerm_14 : decode cX6_addTerm 14 = .ok (.getfield 28, 3) := by decide +kernel
theorem dX6_addTerm_17 : decode cX6_addTerm 17 = .ok (.getfield 219, 3) := by decide +kernel
theorem dX6_addTerm_20 : decode cX6_addTerm 20 = .ok (.aload_n 0, 1) := by decide +kernel
theorem dX6_addTerm_21 : decode cX6_addTerm 21 = .ok (.getfield 15, 3) := by decide +kernel
theorem dX6_addTerm_24 : decode cX6_addTerm 24 = .ok (.aload_n 0, 1) := by decide +kernel
theorem dX6_addTerm_25 : decode cX6_addTerm 25 = .ok (.getfield 80, 3) := by decide +kernel
theorem dX6_addTerm_28 : decode cX6_addTerm 28 = .ok (.invokestatic 202, 3) := by decide +kernel
theorem dX6_addTerm_31 : decode cX6_addTerm 31 = .ok (.aload_n 0, 1) := by decide +kernel
theorem dX6_addTerm_32 : decode cX6_addTerm 32 = .ok (.getfield 28, 3) := by decide +kernel
theorem dX6_addTerm_35 : decode cX6_addTerm 35 = .ok (.getfield 209, 3) := by decide +kernel
theorem dX6_addTerm_38 : decode cX6_addTerm 38 = .ok (.getfield 222, 3) := by decide +kernel
theorem dX6_addTerm_41 : decode cX6_addTerm 41 = .ok (.invokestatic 174, 3) := by decide +kernel
theorem dX6_addTerm_44 : decode cX6_addTerm 44 = .ok (.aload_n 0, 1) := by decide +kernel
theorem dX6_addTerm_45 : decode cX6_addTerm 45 = .ok (.bipush 12, 2) := by decide +kernel
theorem dX6_addTerm_47 : decode cX6_addTerm 47 = .ok (.invokevirtual 100, 3) := by decide +kernel
theorem dX6_addTerm_50 : decode cX6_addTerm 50 = .ok (.ireturn, 1) := by decide +kernel
theorem dX6_takesTermBegin_0 : decode cX6_takesTermBegin 0 = .ok (.iload_n 1, 1) := by decide +kernel
theorem dX6_takesTermBegin_1 : decode cX6_takesTermBegin 1 = .ok (.bipush 33, 2) := by decide +kernel
theorem dX6_takesTermBegin_3 : decode cX6_takesTermBegin 3 = .ok (.if_icmp .ne 10, 3) := by decide +kernel
theorem dX6_takesTermBegin_6 : decode cX6_takesTermBegin 6 = .ok (.aload_n 0, 1) := by decide +kernel
theorem dX6_takesTermBegin_7 : decode cX6_takesTermBegin 7 = .ok (.bipush 9, 2) := by decide +kernel
theorem dX6_takesTermBegin_9 : decode cX6_takesTermBegin 9 = .ok (.invokevirtual 100, 3) := by decide +kernel
theorem dX6_takesTermBegin_12 : decode cX6_takesTermBegin 12 = .ok (.ireturn, 1) := by decide +kernel
theorem dX6_takesTermBegin_13 : decode cX6_takesTermBegin 13 = .ok (.iload_n 1, 1) := by decide +kernel
theorem dX6_takesTermBegin_14 : decode cX6_takesTermBegin 14 = .ok (.invokestatic 116, 3) := by decide +kernel
theorem dX6_takesTermBegin_17 : decode cX6_takesTermBegin 17 = .ok (.ifCond .eq 14, 3) := by decide +kernel
theorem dX6_takesTermBegin_20 : decode cX6_takesTermBegin 20 = .ok (.aload_n 0, 1) := by decide +kernel
theorem dX6_takesTermBegin_21 : decode cX6_takesTermBegin 21 = .ok (.iconst 0, 1) := by decide +kernel
theorem dX6_takesTermBegin_22 : decode cX6_takesTermBegin 22 = .ok (.iload_n 1, 1) := by decide +kernel
theorem dX6_takesTermBegin_23 : decode cX6_takesTermBegin 23 = .ok (.bipush 97, 2) := by decide +kernel
theorem dX6_takesTermBegin_25 : decode cX6_takesTermBegin 25 = .ok (.isub, 1) := by decide +kernel
theorem dX6_takesTermBegin_26 : decode cX6_takesTermBegin 26 = .ok (.iconst 0, 1) := by decide +kernel
theorem dX6_takesTermBegin_27 : decode cX6_takesTermBegin 27 = .ok (.invokevirtual 193, 3) := by decide +kernel
theorem dX6_takesTermBegin_30 : decode cX6_takesTermBegin 30 = .ok (.ireturn, 1) := by decide +kernel
theorem dX6_takesTermBegin_31 : decode cX6_takesTermBegin 31 = .ok (.aload_n 0, 1) := by decide +kernel
theorem dX6_takesTermBegin_32 : decode cX6_takesTermBegin 32 = .ok (.iload_n 1, 1) := by decide +kernel
theorem dX6_takesTermBegin_33 : decode cX6_takesTermBegin 33 = .ok (.bipush 120, 2) := by decide +kernel
theorem dX6_takesTermBegin_35 : decode cX6_takesTermBegin 35 = .ok (.isub, 1) := by decide +kernel
theorem dX6_takesTermBegin_36 : decode cX6_takesTermBegin 36 = .ok (.putfield 125, 3) := by decide +kernel
theorem dX6_takesTermBegin_39 : decode cX6_takesTermBegin 39 = .ok (.iload_n 1, 1) := by decide +kernel
theorem dX6_takesTermBegin_40 : decode cX6_takesTermBegin 40 = .ok (.invokestatic 159, 3) := by decide +kernel
theorem dX6_takesTermBegin_43 : decode cX6_takesTermBegin 43 = .ok (.ifCond .eq 16, 3) := by decide +kernel
theorem dX6_takesTermBegin_46 : decode cX6_takesTermBegin 46 = .ok (.aload_n 0, 1) := by decide +kernel
theorem dX6_takesTermBegin_47 : decode cX6_takesTermBegin 47 = .ok (.bipush 10, 2) := by decide +kernel
theorem dX6_takesTermBegin_49 : decode cX6_takesTermBegin 49 = .ok (.invokevirtual 100, 3) := by decide +kernel
theorem dX6_takesTermBegin_52 : decode cX6_takesTermBegin 52 = .ok (.ifCond .eq 7, 3) := by decide +kernel
theorem dX6_takesTermBegin_55 : decode cX6_takesTermBegin 55 = .ok (.iconst 1, 1) := by decide +kernel
theorem dX6_takesTermBegin_56 : decode cX6_takesTermBegin 56 = .ok (.goto 4, 3) := by decide +kernel
theorem dX6_takesTermBegin_59 : decode cX6_takesTermBegin 59 = .ok (.iconst 0, 1) := by decide +kernel
theorem dX6_takesTermBegin_60 : decode cX6_takesTermBegin 60 = .ok (.ireturn, 1) := by decide +kernel
theorem dX6_takesTermSign_0 : decode cX6_takesTermSign 0 = .ok (.iload_n 1, 1) := by decide +kernel
theorem dX6_takesTermSign_1 : decode cX6_takesTermSign 1 = .ok (.tableswitch 51 60 62 #[27, 43, 35], 27) := by decide +kernel
theorem dX6_takesTermSign_28 : decode cX6_takesTermSign 28 = .ok (.aload_n 0, 1) := by decide +kernel
theorem dX6_takesTermSign_29 : decode cX6_takesTermSign 29 = .ok (.iconst 2, 1) := by decide +kernel
theorem dX6_takesTermSign_30 : decode cX6_takesTermSign 30 = .ok (.bipush 11, 2) := by decide +kernel
theorem dX6_takesTermSign_32 : decode cX6_takesTermSign 32 = .ok (.invokevirtual 146, 3) := by decide +kernel
theorem dX6_takesTermSign_35 : decode cX6_takesTermSign 35 = .ok (.ireturn, 1) := by decide +kernel
theorem dX6_takesTermSign_36 : decode cX6_takesTermSign 36 = .ok (.aload_n 0, 1) := by decide +kernel
theorem dX6_takesTermSign_37 : decode cX6_takesTermSign 37 = .ok (.iconst 3, 1) := by decide +kernel
theorem dX6_takesTermSign_38 : decode cX6_takesTermSign 38 = .ok (.bipush 11, 2) := by decide +kernel
theorem dX6_takesTermSign_40 : decode cX6_takesTermSign 40 = .ok (.invokevirtual 146, 3) := by decide +kernel
theorem dX6_takesTermSign_43 : decode cX6_takesTermSign 43 = .ok (.ireturn, 1) := by decide +kernel
theorem dX6_takesTermSign_44 : decode cX6_takesTermSign 44 = .ok (.aload_n 0, 1) := by decide +kernel
theorem dX6_takesTermSign_45 : decode cX6_takesTermSign 45 = .ok (.iconst 4, 1) := by decide +kernel
theorem dX6_takesTermSign_46 : decode cX6_takesTermSign 46 = .ok (.bipush 11, 2) := by decide +kernel
theorem dX6_takesTermSign_48 : decode cX6_takesTermSign 48 = .ok (.invokevirtual 146, 3) := by decide +kernel
theorem dX6_takesTermSign_51 : decode cX6_takesTermSign 51 = .ok (.ireturn, 1) := by decide +kernel
theorem dX6_takesTermSign_52 : decode cX6_takesTermSign 52 = .ok (.iconst 0, 1) := by decide +kernel
theorem dX6_takesTermSign_53 : decode cX6_takesTermSign 53 = .ok (.ireturn, 1) := by decide +kernel
theorem dX6_takesTermEnd_0 : decode cX6_takesTermEnd 0 = .ok (.aload_n 0, 1) := by decide +kernel
theorem dX6_takesTermEnd_1 : decode cX6_takesTermEnd 1 = .ok (.getfield 28, 3) := by decide +kernel
theorem dX6_takesTermEnd_4 : decode cX6_takesTermEnd 4 = .ok (.aload_n 0, 1) := by decide +kernel
theorem dX6_takesTermEnd_5 : decode cX6_takesTermEnd 5 = .ok (.getfield 15, 3) := by decide +kernel
theorem dX6_takesTermEnd_8 : decode cX6_takesTermEnd 8 = .ok (.aload_n 0, 1) := by decide +kernel
theorem dX6_takesTermEnd_9 : decode cX6_takesTermEnd 9 = .ok (.getfield 80, 3) := by decide +kernel
theorem dX6_takesTermEnd_12 : decode cX6_takesTermEnd 12 = .ok (.invokestatic 202, 3) := by decide +kernel
theorem dX6_takesTermEnd_15 : decode cX6_takesTermEnd 15 = .ok (.bipush 6, 2) := by decide +kernel
theorem dX6_takesTermEnd_17 : decode cX6_takesTermEnd 17 = .ok (.invokevirtual 206, 3) := by decide +kernel
theorem dX6_takesTermEnd_20 : decode cX6_takesTermEnd 20 = .ok (.istore_n 2, 1) := by decide +kernel
theorem dX6_takesTermEnd_21 : decode cX6_takesTermEnd 21 = .ok (.iload_n 1, 1) := by decide +kernel
theorem dX6_takesTermEnd_22 : decode cX6_takesTermEnd 22 = .ok (.lookupswitch 78 #[(38, 34), (93, 59), (123, 41)], 34) := by decide +kernel
theorem dX6_takesTermEnd_56 : decode cX6_takesTermEnd 56 = .ok (.aload_n 0, 1) := by decide +kernel
theorem dX6_takesTermEnd_57 : decode cX6_takesTermEnd 57 = .ok (.bipush 8, 2) := by decide +kernel
theorem dX6_takesTermEnd_59 : decode cX6_takesTermEnd 59 = .ok (.invokevirtual 100, 3) := by decide +kernel
theorem dX6_takesTermEnd_62 : decode cX6_takesTermEnd 62 = .ok (.ireturn, 1) := by decide +kernel
theorem dX6_takesTermEnd_63 : decode cX6_takesTermEnd 63 = .ok (.iload_n 2, 1) := by decide +kernel
theorem dX6_takesTermEnd_64 : decode cX6_takesTermEnd 64 = .ok (.ifCond .eq 15, 3) := by decide +kernel
theorem dX6_takesTermEnd_67 : decode cX6_takesTermEnd 67 = .ok (.aload_n 0, 1) := by decide +kernel
theorem dX6_takesTermEnd_68 : decode cX6_takesTermEnd 68 = .ok (.iconst 0, 1) := by decide +kernel
theorem dX6_takesTermEnd_69 : decode cX6_takesTermEnd 69 = .ok (.invokevirtual 112, 3) := by decide +kernel
theorem dX6_takesTermEnd_72 : decode cX6_takesTermEnd 72 = .ok (.ifCond .eq 7, 3) := by decide +kernel
theorem dX6_takesTermEnd_75 : decode cX6_takesTermEnd 75 = .ok (.iconst 1, 1) := by decide +kernel
theorem dX6_takesTermEnd_76 : decode cX6_takesTermEnd 76 = .ok (.goto 4, 3) := by decide +kernel
theorem dX6_takesTermEnd_79 : decode cX6_takesTermEnd 79 = .ok (.iconst 0, 1) := by decide +kernel
theorem dX6_takesTermEnd_80 : decode cX6_takesTermEnd 80 = .ok (.ireturn, 1) := by decide +kernel
theorem dX6_takesTermEnd_81 : decode cX6_takesTermEnd 81 = .ok (.iload_n 2, 1) := by decide +kernel
theorem dX6_takesTermEnd_82 : decode cX6_takesTermEnd 82 = .ok (.ifCond .ne 16, 3) := by decide +kernel
theorem dX6_takesTermEnd_85 : decode cX6_takesTermEnd 85 = .ok (.aload_n 0, 1) := by decide +kernel
theorem dX6_takesTermEnd_86 : decode cX6_takesTermEnd 86 = .ok (.bipush 15, 2) := by decide +kernel
theorem dX6_takesTermEnd_88 : decode cX6_takesTermEnd 88 = .ok (.invokevirtual 100, 3) := by decide +kernel
theorem dX6_takesTermEnd_91 : decode cX6_takesTermEnd 91 = .ok (.ifCond .eq 7, 3) := by decide +kernel
theorem dX6_takesTermEnd_94 : decode cX6_takesTermEnd 94 = .ok (.iconst 1, 1) := by decide +kernel
theorem dX6_takesTermEnd_95 : decode cX6_takesTermEnd 95 = .ok (.goto 4, 3) := by decide +kernel
theorem dX6_takesTermEnd_98 : decode cX6_takesTermEnd 98 = .ok (.iconst 0, 1) := by decide +kernel
theorem dX6_takesTermEnd_99 : decode cX6_takesTermEnd 99 = .ok (.ireturn, 1) := by decide +kernel
theorem dX6_takesTermEnd_100 : decode cX6_takesTermEnd 100 = .ok (.iconst 0, 1) := by decide +kernel
theorem dX6_takesTermEnd_101 : decode cX6_takesTermEnd 101 = .ok (.ireturn, 1) := by decide +kernel
theorem dX6_takesInCondition_0 : decode cX6_takesInCondition 0 = .ok (.aload_n 0, 1) := by decide +kernel
theorem dX6_takesInCondition_1 : decode cX6_takesInCondition 1 = .ok (.getfield 77, 3) := by decide +kernel
theorem dX6_takesInCondition_4 : decode cX6_takesInCondition 4 = .ok (.tableswitch 112 8 12 #[36, 42, 68, 74, 106], 36) := by decide +kernel
theorem dX6_takesInCondition_40 : decode cX6_takesInCondition 40 = .ok (.aload_n 0, 1) := by decide +kernel
theorem dX6_takesInCondition_41 : decode cX6_takesInCondition 41 = .ok (.iload_n 1, 1) := by decide +kernel
theorem dX6_takesInCondition_42 : decode cX6_takesInCondition 42 = .ok (.invokevirtual 190, 3) := by decide +kernel
theorem dX6_takesInCondition_45 : decode cX6_takesInCondition 45 = .ok (.ireturn, 1) := by decide +kernel
theorem dX6_takesInCondition_46 : decode cX6_takesInCondition 46 = .ok (.iload_n 1, 1) := by decide +kernel
theorem dX6_takesInCondition_47 : decode cX6_takesInCondition 47 = .ok (.invokestatic 116, 3) := by decide +kernel
theorem dX6_takesInCondition_50 : decode cX6_takesInCondition 50 = .ok (.ifCond .eq 20, 3) := by decide +kernel
theorem dX6_takesInCondition_53 : decode cX6_takesInCondition 53 = .ok (.aload_n 0, 1) := by decide +kernel
theorem dX6_takesInCondition_54 : decode cX6_takesInCondition 54 = .ok (.iconst 1, 1) := by decide +kernel
theorem dX6_takesInCondition_55 : decode cX6_takesInCondition 55 = .ok (.iload_n 1, 1) := by decide +kernel
theorem dX6_takesInCondition_56 : decode cX6_takesInCondition 56 = .ok (.bipush 97, 2) := by decide +kernel
theorem dX6_takesInCondition_58 : decode cX6_takesInCondition 58 = .ok (.isub, 1) := by decide +kernel
theorem dX6_takesInCondition_59 : decode cX6_takesInCondition 59 = .ok (.iconst 0, 1) := by decide +kernel
theorem dX6_takesInCondition_60 : decode cX6_takesInCondition 60 = .ok (.invokevirtual 193, 3) := by decide +kernel
theorem dX6_takesInCondition_63 : decode cX6_takesInCondition 63 = .ok (.ifCond .eq 7, 3) := by decide +kernel
theorem dX6_takesInCondition_66 : decode cX6_takesInCondition 66 = .ok (.iconst 1, 1) := by decide +kernel
theorem dX6_takesInCondition_67 : decode cX6_takesInCondition 67 = .ok (.goto 4, 3) := by decide +kernel
theorem dX6_takesInCondition_70 : decode cX6_takesInCondition 70 = .ok (.iconst 0, 1) := by decide +kernel
theorem dX6_takesInCondition_71 : decode cX6_takesInCondition 71 = .ok (.ireturn, 1) := by decide +kernel
theorem dX6_takesInCondition_72 : decode cX6_takesInCondition 72 = .ok (.aload_n 0, 1) := by decide +kernel
theorem dX6_takesInCondition_73 : decode cX6_takesInCondition 73 = .ok (.iload_n 1, 1) := by decide +kernel
theorem dX6_takesInCondition_74 : decode cX6_takesInCondition 74 = .ok (.invokevirtual 196, 3) := by decide +kernel
theorem dX6_takesInCondition_77 : decode cX6_takesInCondition 77 = .ok (.ireturn, 1) := by decide +kernel
theorem dX6_takesInCondition_78 : decode cX6_takesInCondition 78 = .ok (.iload_n 1, 1) := by decide +kernel
theorem dX6_takesInCondition_79 : decode cX6_takesInCondition 79 = .ok (.invokestatic 97, 3) := by decide +kernel
theorem dX6_takesInCondition_82 : decode cX6_takesInCondition 82 = .ok (.ifCond .eq 26, 3) := by decide +kernel
theorem dX6_takesInCondition_85 : decode cX6_takesInCondition 85 = .ok (.aload_n 0, 1) := by decide +kernel
theorem dX6_takesInCondition_86 : decode cX6_takesInCondition 86 = .ok (.aload_n 0, 1) := by decide +kernel
theorem dX6_takesInCondition_87 : decode cX6_takesInCondition 87 = .ok (.getfield 119, 3) := by decide +kernel
theorem dX6_takesInCondition_90 : decode cX6_takesInCondition 90 = .ok (.aload_n 0, 1) := by decide +kernel
theorem dX6_takesInCondition_91 : decode cX6_takesInCondition 91 = .ok (.getfield 125, 3) := by decide +kernel
theorem dX6_takesInCondition_94 : decode cX6_takesInCondition 94 = .ok (.iload_n 1, 1) := by decide +kernel
theorem dX6_takesInCondition_95 : decode cX6_takesInCondition 95 = .ok (.bipush 48, 2) := by decide +kernel
theorem dX6_takesInCondition_97 : decode cX6_takesInCondition 97 = .ok (.isub, 1) := by decide +kernel
theorem dX6_takesInCondition_98 : decode cX6_takesInCondition 98 = .ok (.invokevirtual 193, 3) := by decide +kernel
theorem dX6_takesInCondition_101 : decode cX6_takesInCondition 101 = .ok (.ifCond .eq 7, 3) := by decide +kernel
theorem dX6_takesInCondition_104 : decode cX6_takesInCondition 104 = .ok (.iconst 1, 1) := by decide +kernel
theorem dX6_takesInCondition_105 : decode cX6_takesInCondition 105 = .ok (.goto 4, 3) := by decide +kernel
theorem dX6_takesInCondition_108 : decode cX6_takesInCondition 108 = .ok (.iconst 0, 1) := by decide +kernel
theorem dX6_takesInCondition_109 : decode cX6_takesInCondition 109 = .ok (.ireturn, 1) := by decide +kernel
theorem dX6_takesInCondition_110 : decode cX6_takesInCondition 110 = .ok (.aload_n 0, 1) := by decide +kernel
theorem dX6_takesInCondition_111 : decode cX6_takesInCondition 111 = .ok (.iload_n 1, 1) := by decide +kernel
theorem dX6_takesInCondition_112 : decode cX6_takesInCondition 112 = .ok (.invokevirtual 199, 3) := by decide +kernel
theorem dX6_takesInCondition_115 : decode cX6_takesInCondition 115 = .ok (.ireturn, 1) := by decide +kernel
theorem dX6_takesInCondition_116 : decode cX6_takesInCondition 116 = .ok (.iconst 0, 1) := by decide +kernel
theorem dX6_takesInCondition_117 : decode cX6_takesInCondition 117 = .ok (.ireturn, 1) := by decide +kernel
theorem dX6_takes_0 : decode cX6_takes 0 = .ok (.aload_n 0, 1) := by decide +kernel
theorem dX6_takes_1 : decode cX6_takes 1 = .ok (.getfield 77, 3) := by decide +kernel
theorem dX6_takes_4 : decode cX6_takes 4 = .ok (.tableswitch 339 0 17 #[88, 108, 114, 133, 139, 159, 188, 194, 339, 339, 339, 339, 339, 226, 232, 268, 288, 312], 88) := by decide +kernel
theorem dX6_takes_92 : decode cX6_takes 92 = .ok (.iload_n 1, 1) := by decide +kernel
theorem dX6_takes_93 : decode cX6_takes 93 = .ok (.bipush 61, 2) := by decide +kernel
theorem dX6_takes_95 : decode cX6_takes 95 = .ok (.if_icmp .ne 15, 3) := by decide +kernel
theorem dX6_takes_98 : decode cX6_takes 98 = .ok (.aload_n 0, 1) := by decide +kernel
theorem dX6_takes_99 : decode cX6_takes 99 = .ok (.iconst 1, 1) := by decide +kernel
theorem dX6_takes_100 : decode cX6_takes 100 = .ok (.invokevirtual 100, 3) := by decide +kernel
theorem dX6_takes_103 : decode cX6_takes 103 = .ok (.ifCond .eq 7, 3) := by decide +kernel
theorem dX6_takes_106 : decode cX6_takes 106 = .ok (.iconst 1, 1) := by decide +kernel
theorem dX6_takes_107 : decode cX6_takes 107 = .ok (.goto 4, 3) := by decide +kernel
theorem dX6_takes_110 : decode cX6_takes 110 = .ok (.iconst 0, 1) := by decide +kernel
theorem dX6_takes_111 : decode cX6_takes 111 = .ok (.ireturn, 1) := by decide +kernel
theorem dX6_takes_112 : decode cX6_takes 112 = .ok (.aload_n 0, 1) := by decide +kernel
theorem dX6_takes_113 : decode cX6_takes 113 = .ok (.iload_n 1, 1) := by decide +kernel
theorem dX6_takes_114 : decode cX6_takes 114 = .ok (.invokevirtual 103, 3) := by decide +kernel
theorem dX6_takes_117 : decode cX6_takes 117 = .ok (.ireturn, 1) := by decide +kernel
theorem dX6_takes_118 : decode cX6_takes 118 = .ok (.iload_n 1, 1) := by decide +kernel
theorem dX6_takes_119 : decode cX6_takes 119 = .ok (.bipush 35, 2) := by decide +kernel
theorem dX6_takes_121 : decode cX6_takes 121 = .ok (.if_icmp .ne 10, 3) := by decide +kernel
theorem dX6_takes_124 : decode cX6_takes 124 = .ok (.aload_n 0, 1) := by decide +kernel
theorem dX6_takes_125 : decode cX6_takes 125 = .ok (.invokevirtual 106, 3) := by decide +kernel
theorem dX6_takes_128 : decode cX6_takes 128 = .ok (.goto 8, 3) := by decide +kernel
theorem dX6_takes_131 : decode cX6_takes 131 = .ok (.aload_n 0, 1) := by decide +kernel
theorem dX6_takes_132 : decode cX6_takes 132 = .ok (.iload_n 1, 1) := by decide +kernel
theorem dX6_takes_133 : decode cX6_takes 133 = .ok (.invokevirtual 109, 3) := by decide +kernel
theorem dX6_takes_136 : decode cX6_takes 136 = .ok (.ireturn, 1) := by decide +kernel
theorem dX6_takes_137 : decode cX6_takes 137 = .ok (.aload_n 0, 1) := by decide +kernel
theorem dX6_takes_138 : decode cX6_takes 138 = .ok (.iload_n 1, 1) := by decide +kernel
theorem dX6_takes_139 : decode cX6_takes 139 = .ok (.invokevirtual 109, 3) := by decide +kernel
theorem dX6_takes_142 : decode cX6_takes 142 = .ok (.ireturn, 1) := by decide +kernel
theorem dX6_takes_143 : decode cX6_takes 143 = .ok (.iload_n 1, 1) := by decide +kernel
theorem dX6_takes_144 : decode cX6_takes 144 = .ok (.bipush 123, 2) := by decide +kernel
theorem dX6_takes_146 : decode cX6_takes 146 = .ok (.if_icmp .ne 11, 3) := by decide +kernel
theorem dX6_takes_149 : decode cX6_takes 149 = .ok (.aload_n 0, 1) := by decide +kernel
theorem dX6_takes_150 : decode cX6_takes 150 = .ok (.iconst 1, 1) := by decide +kernel
theorem dX6_takes_151 : decode cX6_takes 151 = .ok (.invokevirtual 112, 3) := by decide +kernel
theorem dX6_takes_154 : decode cX6_takes 154 = .ok (.goto 8, 3) := by decide +kernel
theorem dX6_takes_157 : decode cX6_takes 157 = .ok (.aload_n 0, 1) := by decide +kernel
theorem dX6_takes_158 : decode cX6_takes 158 = .ok (.iload_n 1, 1) := by decide +kernel
theorem dX6_takes_159 : decode cX6_takes 159 = .ok (.invokevirtual 109, 3) := by decide +kernel
theorem dX6_takes_162 : decode cX6_takes 162 = .ok (.ireturn, 1) := by decide +kernel
theorem dX6_takes_163 : decode cX6_takes 163 = .ok (.iload_n 1, 1) := by decide +kernel
theorem dX6_takes_164 : decode cX6_takes 164 = .ok (.invokestatic 116, 3) := by decide +kernel
theorem dX6_takes_167 : decode cX6_takes 167 = .ok (.ifCond .eq 23, 3) := by decide +kernel
theorem dX6_takes_170 : decode cX6_takes 170 = .ok (.aload_n 0, 1) := by decide +kernel
theorem dX6_takes_171 : decode cX6_takes 171 = .ok (.aload_n 0, 1) := by decide +kernel
theorem dX6_takes_172 : decode cX6_takes 172 = .ok (.getfield 119, 3) := by decide +kernel
theorem dX6_takes_175 : decode cX6_takes 175 = .ok (.iload_n 1, 1) := by decide +kernel
theorem dX6_takes_176 : decode cX6_takes 176 = .ok (.bipush 97, 2) := by decide +kernel
theorem dX6_takes_178 : decode cX6_takes 178 = .ok (.isub, 1) := by decide +kernel
theorem dX6_takes_179 : decode cX6_takes 179 = .ok (.iconst 0, 1) := by decide +kernel
theorem dX6_takes_180 : decode cX6_takes 180 = .ok (.invokevirtual 66, 3) := by decide +kernel
theorem dX6_takes_183 : decode cX6_takes 183 = .ok (.ifCond .eq 7, 3) := by decide +kernel
theorem dX6_takes_186 : decode cX6_takes 186 = .ok (.iconst 1, 1) := by decide +kernel
theorem dX6_takes_187 : decode cX6_takes 187 = .ok (.goto 4, 3) := by decide +kernel
theorem dX6_takes_190 : decode cX6_takes 190 = .ok (.iconst 0, 1) := by decide +kernel
theorem dX6_takes_191 : decode cX6_takes 191 = .ok (.ireturn, 1) := by decide +kernel
theorem dX6_takes_192 : decode cX6_takes 192 = .ok (.aload_n 0, 1) := by decide +kernel
theorem dX6_takes_193 : decode cX6_takes 193 = .ok (.iload_n 1, 1) := by decide +kernel
theorem dX6_takes_194 : decode cX6_takes 194 = .ok (.invokevirtual 122, 3) := by decide +kernel
theorem dX6_takes_197 : decode cX6_takes 197 = .ok (.ireturn, 1) := by decide +kernel
theorem dX6_takes_198 : decode cX6_takes 198 = .ok (.iload_n 1, 1) := by decide +kernel
theorem dX6_takes_199 : decode cX6_takes 199 = .ok (.invokestatic 97, 3) := by decide +kernel
theorem dX6_takes_202 : decode cX6_takes 202 = .ok (.ifCond .eq 26, 3) := by decide +kernel
theorem dX6_takes_205 : decode cX6_takes 205 = .ok (.aload_n 0, 1) := by decide +kernel
theorem dX6_takes_206 : decode cX6_takes 206 = .ok (.aload_n 0, 1) := by decide +kernel
theorem dX6_takes_207 : decode cX6_takes 207 = .ok (.getfield 119, 3) := by decide +kernel
theorem dX6_takes_210 : decode cX6_takes 210 = .ok (.aload_n 0, 1) := by decide +kernel
theorem dX6_takes_211 : decode cX6_takes 211 = .ok (.getfield 125, 3) := by decide +kernel
theorem dX6_takes_214 : decode cX6_takes 214 = .ok (.iload_n 1, 1) := by decide +kernel
theorem dX6_takes_215 : decode cX6_takes 215 = .ok (.bipush 48, 2) := by decide +kernel
theorem dX6_takes_217 : decode cX6_takes 217 = .ok (.isub, 1) := by decide +kernel
theorem dX6_takes_218 : decode cX6_takes 218 = .ok (.invokevirtual 66, 3) := by decide +kernel
theorem dX6_takes_221 : decode cX6_takes 221 = .ok (.ifCond .eq 7, 3) := by decide +kernel
theorem dX6_takes_224 : decode cX6_takes 224 = .ok (.iconst 1, 1) := by decide +kernel
theorem dX6_takes_225 : decode cX6_takes 225 = .ok (.goto 4, 3) := by decide +kernel
theorem dX6_takes_228 : decode cX6_takes 228 = .ok (.iconst 0, 1) := by decide +kernel
theorem dX6_takes_229 : decode cX6_takes 229 = .ok (.ireturn, 1) := by decide +kernel
theorem dX6_takes_230 : decode cX6_takes 230 = .ok (.aload_n 0, 1) := by decide +kernel
theorem dX6_takes_231 : decode cX6_takes 231 = .ok (.iload_n 1, 1) := by decide +kernel
theorem dX6_takes_232 : decode cX6_takes 232 = .ok (.invokevirtual 128, 3) := by decide +kernel
theorem dX6_takes_235 : decode cX6_takes 235 = .ok (.ireturn, 1) := by decide +kernel
theorem dX6_takes_236 : decode cX6_takes 236 = .ok (.iload_n 1, 1) := by decide +kernel
theorem dX6_takes_237 : decode cX6_takes 237 = .ok (.bipush 63, 2) := by decide +kernel
theorem dX6_takes_239 : decode cX6_takes 239 = .ok (.if_icmp .ne 12, 3) := by decide +kernel
theorem dX6_takes_242 : decode cX6_takes 242 = .ok (.aload_n 0, 1) := by decide +kernel
theorem dX6_takes_243 : decode cX6_takes 243 = .ok (.bipush 8, 2) := by decide +kernel
theorem dX6_takes_245 : decode cX6_takes 245 = .ok (.invokevirtual 100, 3) := by decide +kernel
theorem dX6_takes_248 : decode cX6_takes 248 = .ok (.goto 23, 3) := by decide +kernel
theorem dX6_takes_251 : decode cX6_takes 251 = .ok (.iload_n 1, 1) := by decide +kernel
theorem dX6_takes_252 : decode cX6_takes 252 = .ok (.bipush 93, 2) := by decide +kernel
theorem dX6_takes_254 : decode cX6_takes 254 = .ok (.if_icmp .ne 16, 3) := by decide +kernel
theorem dX6_takes_257 : decode cX6_takes 257 = .ok (.aload_n 0, 1) := by decide +kernel
theorem dX6_takes_258 : decode cX6_takes 258 = .ok (.bipush 15, 2) := by decide +kernel
theorem dX6_takes_260 : decode cX6_takes 260 = .ok (.invokevirtual 100, 3) := by decide +kernel
theorem dX6_takes_263 : decode cX6_takes 263 = .ok (.ifCond .eq 7, 3) := by decide +kernel
theorem dX6_takes_266 : decode cX6_takes 266 = .ok (.iconst 1, 1) := by decide +kernel
theorem dX6_takes_267 : decode cX6_takes 267 = .ok (.goto 4, 3) := by decide +kernel
theorem dX6_takes_270 : decode cX6_takes 270 = .ok (.iconst 0, 1) := by decide +kernel
theorem dX6_takes_271 : decode cX6_takes 271 = .ok (.ireturn, 1) := by decide +kernel
theorem dX6_takes_272 : decode cX6_takes 272 = .ok (.iload_n 1, 1) := by decide +kernel
theorem dX6_takes_273 : decode cX6_takes 273 = .ok (.bipush 123, 2) := by decide +kernel
theorem dX6_takes_275 : decode cX6_takes 275 = .ok (.if_icmp .ne 15, 3) := by decide +kernel
theorem dX6_takes_278 : decode cX6_takes 278 = .ok (.aload_n 0, 1) := by decide +kernel
theorem dX6_takes_279 : decode cX6_takes 279 = .ok (.iconst 0, 1) := by decide +kernel
theorem dX6_takes_280 : decode cX6_takes 280 = .ok (.invokevirtual 112, 3) := by decide +kernel
theorem dX6_takes_283 : decode cX6_takes 283 = .ok (.ifCond .eq 7, 3) := by decide +kernel
theorem dX6_takes_286 : decode cX6_takes 286 = .ok (.iconst 1, 1) := by decide +kernel
theorem dX6_takes_287 : decode cX6_takes 287 = .ok (.goto 4, 3) := by decide +kernel
theorem dX6_takes_290 : decode cX6_takes 290 = .ok (.iconst 0, 1) := by decide +kernel
theorem dX6_takes_291 : decode cX6_takes 291 = .ok (.ireturn, 1) := by decide +kernel
theorem dX6_takes_292 : decode cX6_takes 292 = .ok (.iload_n 1, 1) := by decide +kernel
theorem dX6_takes_293 : decode cX6_takes 293 = .ok (.invokestatic 131, 3) := by decide +kernel
theorem dX6_takes_296 : decode cX6_takes 296 = .ok (.ifCond .eq 18, 3) := by decide +kernel
theorem dX6_takes_299 : decode cX6_takes 299 = .ok (.aload_n 0, 1) := by decide +kernel
theorem dX6_takes_300 : decode cX6_takes 300 = .ok (.iload_n 1, 1) := by decide +kernel
theorem dX6_takes_301 : decode cX6_takes 301 = .ok (.bipush 65, 2) := by decide +kernel
theorem dX6_takes_303 : decode cX6_takes 303 = .ok (.isub, 1) := by decide +kernel
theorem dX6_takes_304 : decode cX6_takes 304 = .ok (.invokevirtual 134, 3) := by decide +kernel
theorem dX6_takes_307 : decode cX6_takes 307 = .ok (.ifCond .eq 7, 3) := by decide +kernel
theorem dX6_takes_310 : decode cX6_takes 310 = .ok (.iconst 1, 1) := by decide +kernel
theorem dX6_takes_311 : decode cX6_takes 311 = .ok (.goto 4, 3) := by decide +kernel
theorem dX6_takes_314 : decode cX6_takes 314 = .ok (.iconst 0, 1) := by decide +kernel
theorem dX6_takes_315 : decode cX6_takes 315 = .ok (.ireturn, 1) := by decide +kernel
theorem dX6_takes_316 : decode cX6_takes 316 = .ok (.iload_n 1, 1) := by decide +kernel
theorem dX6_takes_317 : decode cX6_takes 317 = .ok (.invokestatic 97, 3) := by decide +kernel
theorem dX6_takes_320 : decode cX6_takes 320 = .ok (.ifCond .eq 21, 3) := by decide +kernel
theorem dX6_takes_323 : decode cX6_takes 323 = .ok (.aload_n 0, 1) := by decide +kernel
theorem dX6_takes_324 : decode cX6_takes 324 = .ok (.bipush 10, 2) := by decide +kernel
theorem dX6_takes_326 : decode cX6_takes 326 = .ok (.iload_n 1, 1) := by decide +kernel
theorem dX6_takes_327 : decode cX6_takes 327 = .ok (.bipush 48, 2) := by decide +kernel
theorem dX6_takes_329 : decode cX6_takes 329 = .ok (.isub, 1) := by decide +kernel
theorem dX6_takes_330 : decode cX6_takes 330 = .ok (.iconst 0, 1) := by decide +kernel
theorem dX6_takes_331 : decode cX6_takes 331 = .ok (.invokevirtual 66, 3) := by decide +kernel
theorem dX6_takes_334 : decode cX6_takes 334 = .ok (.ifCond .eq 7, 3) := by decide +kernel
theorem dX6_takes_337 : decode cX6_takes 337 = .ok (.iconst 1, 1) := by decide +kernel
theorem dX6_takes_338 : decode cX6_takes 338 = .ok (.goto 4, 3) := by decide +kernel
theorem dX6_takes_341 : decode cX6_takes 341 = .ok (.iconst 0, 1) := by decide +kernel
theorem dX6_takes_342 : decode cX6_takes 342 = .ok (.ireturn, 1) := by decide +kernel
theorem dX6_takes_343 : decode cX6_takes 343 = .ok (.aload_n 0, 1) := by decide +kernel
theorem dX6_takes_344 : decode cX6_takes 344 = .ok (.iload_n 1, 1) := by decide +kernel
theorem dX6_takes_345 : decode cX6_takes 345 = .ok (.invokevirtual 137, 3) := by decide +kernel
theorem dX6_takes_348 : decode cX6_takes 348 = .ok (.ireturn, 1) := by decide +kernel
theorem dX6_canEnd_0 : decode cX6_canEnd 0 = .ok (.aload_n 0, 1) := by decide +kernel
theorem dX6_canEnd_1 : decode cX6_canEnd 1 = .ok (.getfield 80, 3) := by decide +kernel
theorem dX6_canEnd_4 : decode cX6_canEnd 4 = .ok (.iconst 1, 1) := by decide +kernel
theorem dX6_canEnd_5 : decode cX6_canEnd 5 = .ok (.if_icmp .ne 31, 3) := by decide +kernel
theorem dX6_canEnd_8 : decode cX6_canEnd 8 = .ok (.aload_n 0, 1) := by decide +kernel
theorem dX6_canEnd_9 : decode cX6_canEnd 9 = .ok (.getfield 77, 3) := by decide +kernel
theorem dX6_canEnd_12 : decode cX6_canEnd 12 = .ok (.iconst 2, 1) := by decide +kernel
theorem dX6_canEnd_13 : decode cX6_canEnd 13 = .ok (.if_icmp .eq 19, 3) := by decide +kernel
theorem dX6_canEnd_16 : decode cX6_canEnd 16 = .ok (.aload_n 0, 1) := by decide +kernel
theorem dX6_canEnd_17 : decode cX6_canEnd 17 = .ok (.getfield 77, 3) := by decide +kernel
theorem dX6_canEnd_20 : decode cX6_canEnd 20 = .ok (.iconst 3, 1) := by decide +kernel
theorem dX6_canEnd_21 : decode cX6_canEnd 21 = .ok (.if_icmp .eq 11, 3) := by decide +kernel
theorem dX6_canEnd_24 : decode cX6_canEnd 24 = .ok (.aload_n 0, 1) := by decide +kernel
theorem dX6_canEnd_25 : decode cX6_canEnd 25 = .ok (.getfield 77, 3) := by decide +kernel
theorem dX6_canEnd_28 : decode cX6_canEnd 28 = .ok (.iconst 4, 1) := by decide +kernel
theorem dX6_canEnd_29 : decode cX6_canEnd 29 = .ok (.if_icmp .ne 7, 3) := by decide +kernel
theorem dX6_canEnd_32 : decode cX6_canEnd 32 = .ok (.iconst 1, 1) := by decide +kernel
theorem dX6_canEnd_33 : decode cX6_canEnd 33 = .ok (.goto 4, 3) := by decide +kernel
theorem dX6_canEnd_36 : decode cX6_canEnd 36 = .ok (.iconst 0, 1) := by decide +kernel
theorem dX6_canEnd_37 : decode cX6_canEnd 37 = .ok (.ireturn, 1) := by decide +kernel
theorem dX6_linkOne_0 : decode cX6_linkOne 0 = .ok (.aload_n 0, 1) := by decide +kernel
theorem dX6_linkOne_1 : decode cX6_linkOne 1 = .ok (.getfield 28, 3) := by decide +kernel
theorem dX6_linkOne_4 : decode cX6_linkOne 4 = .ok (.getfield 229, 3) := by decide +kernel
theorem dX6_linkOne_7 : decode cX6_linkOne 7 = .ok (.iload_n 1, 1) := by decide +kernel
theorem dX6_linkOne_8 : decode cX6_linkOne 8 = .ok (.iaload, 1) := by decide +kernel
theorem dX6_linkOne_9 : decode cX6_linkOne 9 = .ok (.iconst (-1), 1) := by decide +kernel
theorem dX6_linkOne_10 : decode cX6_linkOne 10 = .ok (.if_icmp .ne 28, 3) := by decide +kernel
theorem dX6_linkOne_13 : decode cX6_linkOne 13 = .ok (.aload_n 0, 1) := by decide +kernel
theorem dX6_linkOne_14 : decode cX6_linkOne 14 = .ok (.getfield 28, 3) := by decide +kernel
theorem dX6_linkOne_17 : decode cX6_linkOne 17 = .ok (.getfield 229, 3) := by decide +kernel
theorem dX6_linkOne_20 : decode cX6_linkOne 20 = .ok (.iload_n 1, 1) := by decide +kernel
theorem dX6_linkOne_21 : decode cX6_linkOne 21 = .ok (.aload_n 0, 1) := by decide +kernel
theorem dX6_linkOne_22 : decode cX6_linkOne 22 = .ok (.getfield 28, 3) := by decide +kernel
theorem dX6_linkOne_25 : decode cX6_linkOne 25 = .ok (.getfield 229, 3) := by decide +kernel
theorem dX6_linkOne_28 : decode cX6_linkOne 28 = .ok (.aload_n 0, 1) := by decide +kernel
theorem dX6_linkOne_29 : decode cX6_linkOne 29 = .ok (.getfield 22, 3) := by decide +kernel
theorem dX6_linkOne_32 : decode cX6_linkOne 32 = .ok (.iload_n 1, 1) := by decide +kernel
theorem dX6_linkOne_33 : decode cX6_linkOne 33 = .ok (.iaload, 1) := by decide +kernel
theorem dX6_linkOne_34 : decode cX6_linkOne 34 = .ok (.invokestatic 202, 3) := by decide +kernel
theorem dX6_linkOne_37 : decode cX6_linkOne 37 = .ok (.iastore, 1) := by decide +kernel
theorem dX6_linkOne_38 : decode cX6_linkOne 38 = .ok (.aload_n 0, 1) := by decide +kernel
theorem dX6_linkOne_39 : decode cX6_linkOne 39 = .ok (.getfield 28, 3) := by decide +kernel
theorem dX6_linkOne_42 : decode cX6_linkOne 42 = .ok (.getfield 241, 3) := by decide +kernel
theorem dX6_linkOne_45 : decode cX6_linkOne 45 = .ok (.iload_n 1, 1) := by decide +kernel
theorem dX6_linkOne_46 : decode cX6_linkOne 46 = .ok (.iaload, 1) := by decide +kernel
theorem dX6_linkOne_47 : decode cX6_linkOne 47 = .ok (.bipush 6, 2) := by decide +kernel
theorem dX6_linkOne_49 : decode cX6_linkOne 49 = .ok (.if_icmp .ne 83, 3) := by decide +kernel
theorem dX6_linkOne_52 : decode cX6_linkOne 52 = .ok (.aload_n 0, 1) := by decide +kernel
theorem dX6_linkOne_53 : decode cX6_linkOne 53 = .ok (.getfield 28, 3) := by decide +kernel
theorem dX6_linkOne_56 : decode cX6_linkOne 56 = .ok (.getfield 229, 3) := by decide +kernel
theorem dX6_linkOne_59 : decode cX6_linkOne 59 = .ok (.iload_n 1, 1) := by decide +kernel
theorem dX6_linkOne_60 : decode cX6_linkOne 60 = .ok (.iaload, 1) := by decide +kernel
theorem dX6_linkOne_61 : decode cX6_linkOne 61 = .ok (.istore_n 2, 1) := by decide +kernel
theorem dX6_linkOne_62 : decode cX6_linkOne 62 = .ok (.aload_n 0, 1) := by decide +kernel
theorem dX6_linkOne_63 : decode cX6_linkOne 63 = .ok (.getfield 28, 3) := by decide +kernel
theorem dX6_linkOne_66 : decode cX6_linkOne 66 = .ok (.getfield 238, 3) := by decide +kernel
theorem dX6_linkOne_69 : decode cX6_linkOne 69 = .ok (.iload_n 1, 1) := by decide +kernel
theorem dX6_linkOne_70 : decode cX6_linkOne 70 = .ok (.aload_n 0, 1) := by decide +kernel
theorem dX6_linkOne_71 : decode cX6_linkOne 71 = .ok (.getfield 28, 3) := by decide +kernel
theorem dX6_linkOne_74 : decode cX6_linkOne 74 = .ok (.getfield 238, 3) := by decide +kernel
theorem dX6_linkOne_77 : decode cX6_linkOne 77 = .ok (.iload_n 1, 1) := by decide +kernel
theorem dX6_linkOne_78 : decode cX6_linkOne 78 = .ok (.iaload, 1) := by decide +kernel
theorem dX6_linkOne_79 : decode cX6_linkOne 79 = .ok (.iconst (-1), 1) := by decide +kernel
theorem dX6_linkOne_80 : decode cX6_linkOne 80 = .ok (.if_icmp .ne 7, 3) := by decide +kernel
theorem dX6_linkOne_83 : decode cX6_linkOne 83 = .ok (.iload_n 2, 1) := by decide +kernel
theorem dX6_linkOne_84 : decode cX6_linkOne 84 = .ok (.goto 12, 3) := by decide +kernel
theorem dX6_linkOne_87 : decode cX6_linkOne 87 = .ok (.aload_n 0, 1) := by decide +kernel
theorem dX6_linkOne_88 : decode cX6_linkOne 88 = .ok (.getfield 28, 3) := by decide +kernel
theorem dX6_linkOne_91 : decode cX6_linkOne 91 = .ok (.getfield 238, 3) := by decide +kernel
theorem dX6_linkOne_94 : decode cX6_linkOne 94 = .ok (.iload_n 1, 1) := by decide +kernel
theorem dX6_linkOne_95 : decode cX6_linkOne 95 = .ok (.iaload, 1) := by decide +kernel
theorem dX6_linkOne_96 : decode cX6_linkOne 96 = .ok (.iastore, 1) := by decide +kernel
theorem dX6_linkOne_97 : decode cX6_linkOne 97 = .ok (.aload_n 0, 1) := by decide +kernel
theorem dX6_linkOne_98 : decode cX6_linkOne 98 = .ok (.getfield 28, 3) := by decide +kernel
theorem dX6_linkOne_101 : decode cX6_linkOne 101 = .ok (.getfield 235, 3) := by decide +kernel
theorem dX6_linkOne_104 : decode cX6_linkOne 104 = .ok (.iload_n 1, 1) := by decide +kernel
theorem dX6_linkOne_105 : decode cX6_linkOne 105 = .ok (.aload_n 0, 1) := by decide +kernel
theorem dX6_linkOne_106 : decode cX6_linkOne 106 = .ok (.getfield 28, 3) := by decide +kernel
theorem dX6_linkOne_109 : decode cX6_linkOne 109 = .ok (.getfield 235, 3) := by decide +kernel
theorem dX6_linkOne_112 : decode cX6_linkOne 112 = .ok (.iload_n 1, 1) := by decide +kernel
theorem dX6_linkOne_113 : decode cX6_linkOne 113 = .ok (.iaload, 1) := by decide +kernel
theorem dX6_linkOne_114 : decode cX6_linkOne 114 = .ok (.iconst (-1), 1) := by decide +kernel
theorem dX6_linkOne_115 : decode cX6_linkOne 115 = .ok (.if_icmp .ne 7, 3) := by decide +kernel
theorem dX6_linkOne_118 : decode cX6_linkOne 118 = .ok (.iload_n 2, 1) := by decide +kernel
theorem dX6_linkOne_119 : decode cX6_linkOne 119 = .ok (.goto 12, 3) := by decide +kernel
theorem dX6_linkOne_122 : decode cX6_linkOne 122 = .ok (.aload_n 0, 1) := by decide +kernel
theorem dX6_linkOne_123 : decode cX6_linkOne 123 = .ok (.getfield 28, 3) := by decide +kernel
theorem dX6_linkOne_126 : decode cX6_linkOne 126 = .ok (.getfield 235, 3) := by decide +kernel
theorem dX6_linkOne_129 : decode cX6_linkOne 129 = .ok (.iload_n 1, 1) := by decide +kernel
theorem dX6_linkOne_130 : decode cX6_linkOne 130 = .ok (.iaload, 1) := by decide +kernel
theorem dX6_linkOne_131 : decode cX6_linkOne 131 = .ok (.iastore, 1) := by decide +kernel
theorem dX6_linkOne_132 : decode cX6_linkOne 132 = .ok (.aload_n 0, 1) := by decide +kernel
theorem dX6_linkOne_133 : decode cX6_linkOne 133 = .ok (.getfield 28, 3) := by decide +kernel
theorem dX6_linkOne_136 : decode cX6_linkOne 136 = .ok (.getfield 241, 3) := by decide +kernel
theorem dX6_linkOne_139 : decode cX6_linkOne 139 = .ok (.iload_n 1, 1) := by decide +kernel
theorem dX6_linkOne_140 : decode cX6_linkOne 140 = .ok (.iaload, 1) := by decide +kernel
theorem dX6_linkOne_141 : decode cX6_linkOne 141 = .ok (.bipush 7, 2) := by decide +kernel
theorem dX6_linkOne_143 : decode cX6_linkOne 143 = .ok (.if_icmp .ne 31, 3) := by decide +kernel
theorem dX6_linkOne_146 : decode cX6_linkOne 146 = .ok (.aload_n 0, 1) := by decide +kernel
theorem dX6_linkOne_147 : decode cX6_linkOne 147 = .ok (.getfield 28, 3) := by decide +kernel
theorem dX6_linkOne_150 : decode cX6_linkOne 150 = .ok (.getfield 247, 3) := by decide +kernel
theorem dX6_linkOne_153 : decode cX6_linkOne 153 = .ok (.aload_n 0, 1) := by decide +kernel
theorem dX6_linkOne_154 : decode cX6_linkOne 154 = .ok (.getfield 28, 3) := by decide +kernel
theorem dX6_linkOne_157 : decode cX6_linkOne 157 = .ok (.getfield 223, 3) := by decide +kernel
theorem dX6_linkOne_160 : decode cX6_linkOne 160 = .ok (.iload_n 1, 1) := by decide +kernel
theorem dX6_linkOne_161 : decode cX6_linkOne 161 = .ok (.iaload, 1) := by decide +kernel
theorem dX6_linkOne_162 : decode cX6_linkOne 162 = .ok (.aload_n 0, 1) := by decide +kernel
theorem dX6_linkOne_163 : decode cX6_linkOne 163 = .ok (.getfield 28, 3) := by decide +kernel
theorem dX6_linkOne_166 : decode cX6_linkOne 166 = .ok (.getfield 238, 3) := by decide +kernel
theorem dX6_linkOne_169 : decode cX6_linkOne 169 = .ok (.iload_n 1, 1) := by decide +kernel
theorem dX6_linkOne_170 : decode cX6_linkOne 170 = .ok (.iaload, 1) := by decide +kernel
theorem dX6_linkOne_171 : decode cX6_linkOne 171 = .ok (.invokestatic 174, 3) := by decide +kernel
theorem dX6_linkOne_174 : decode cX6_linkOne 174 = .ok (.return_, 1) := by decide +kernel
theorem wt_1 : (Jvm.Cond.initialized "BranchingStory") ∈ lw_tbl := in_tb 1 (by decide +kernel)
theorem wt_44 : (Jvm.Cond.fieldLinkNest "BranchingStory$Reader" (222 : Nat) "BranchingStory$Terms" "size" "I" "BranchingStory") ∈ lw_tbl := in_tb 44 (by decide +kernel)
theorem wt_60 : (Jvm.Cond.fieldLinkNest "BranchingStory$Reader" (171 : Nat) "BranchingStory$Story" "size" "I" "BranchingStory") ∈ lw_tbl := in_tb 60 (by decide +kernel)
theorem wt_64 : (Jvm.Cond.fieldLinkNest "BranchingStory$Reader" (241 : Nat) "BranchingStory$Story" "sort" "[I" "BranchingStory") ∈ lw_tbl := in_tb 64 (by decide +kernel)
theorem wt_68 : (Jvm.Cond.fieldLinkNest "BranchingStory$Reader" (223 : Nat) "BranchingStory$Story" "who" "[I" "BranchingStory") ∈ lw_tbl := in_tb 68 (by decide +kernel)
theorem wt_75 : (Jvm.Cond.fieldLinkNest "BranchingStory$Reader" (229 : Nat) "BranchingStory$Story" "next" "[I" "BranchingStory") ∈ lw_tbl := in_tb 75 (by decide +kernel)
theorem wt_79 : (Jvm.Cond.fieldLinkNest "BranchingStory$Reader" (238 : Nat) "BranchingStory$Story" "first" "[I" "BranchingStory") ∈ lw_tbl := in_tb 79 (by decide +kernel)
theorem wt_83 : (Jvm.Cond.fieldLinkNest "BranchingStory$Reader" (235 : Nat) "BranchingStory$Story" "second" "[I" "BranchingStory") ∈ lw_tbl := in_tb 83 (by decide +kernel)
theorem wt_90 : (Jvm.Cond.fieldLinkNest "BranchingStory$Reader" (219 : Nat) "BranchingStory$Story" "termsTo" "[I" "BranchingStory") ∈ lw_tbl := in_tb 90 (by decide +kernel)
theorem wt_94 : (Jvm.Cond.fieldLinkNest "BranchingStory$Reader" (209 : Nat) "BranchingStory$Story" "terms" "LBranchingStory$Terms;" "BranchingStory") ∈ lw_tbl := in_tb 94 (by decide +kernel)
theorem wt_96 : (Jvm.Cond.fieldLinkNest "BranchingStory$Reader" (61 : Nat) "BranchingStory$Story" "nodes" "I" "BranchingStory") ∈ lw_tbl := in_tb 96 (by decide +kernel)
theorem wt_101 : (Jvm.Cond.fieldLinkNest "BranchingStory$Reader" (140 : Nat) "BranchingStory$Story" "nodeName" "[I" "BranchingStory") ∈ lw_tbl := in_tb 101 (by decide +kernel)
theorem wt_105 : (Jvm.Cond.fieldLinkNest "BranchingStory$Reader" (232 : Nat) "BranchingStory$Story" "nodeFirst" "[I" "BranchingStory") ∈ lw_tbl := in_tb 105 (by decide +kernel)
theorem wt_107 : (Jvm.Cond.fieldLinkNest "BranchingStory$Reader" (143 : Nat) "BranchingStory$Story" "hubNodes" "I" "BranchingStory") ∈ lw_tbl := in_tb 107 (by decide +kernel)
theorem wt_111 : (Jvm.Cond.fieldLinkNest "BranchingStory$Reader" (181 : Nat) "BranchingStory$Story" "choices" "I" "BranchingStory") ∈ lw_tbl := in_tb 111 (by decide +kernel)
theorem wt_114 : (Jvm.Cond.fieldLinkNest "BranchingStory$Reader" (187 : Nat) "BranchingStory$Story" "choiceLabel" "[I" "BranchingStory") ∈ lw_tbl := in_tb 114 (by decide +kernel)
theorem wt_118 : (Jvm.Cond.fieldLinkNest "BranchingStory$Reader" (184 : Nat) "BranchingStory$Story" "choiceNode" "[I" "BranchingStory") ∈ lw_tbl := in_tb 118 (by decide +kernel)
theorem wt_122 : (Jvm.Cond.fieldLinkNest "BranchingStory$Reader" (247 : Nat) "BranchingStory$Story" "choiceFirst" "[I" "BranchingStory") ∈ lw_tbl := in_tb 122 (by decide +kernel)
theorem wt_125 : (Jvm.Cond.fieldLinkNest "BranchingStory$Reader" (178 : Nat) "BranchingStory$Story" "tests" "I" "BranchingStory") ∈ lw_tbl := in_tb 125 (by decide +kernel)
theorem wt_175 : (Jvm.Cond.fieldLink "BranchingStory$Reader" (46 : Nat) "BranchingStory$Reader" "width" "I") ∈ lw_tbl := in_tb 175 (by decide +kernel)
theorem wt_178 : (Jvm.Cond.fieldLink "BranchingStory$Reader" (119 : Nat) "BranchingStory$Reader" "sort" "I") ∈ lw_tbl := in_tb 178 (by decide +kernel)
theorem wt_179 : (Jvm.Cond.fieldLink "BranchingStory$Reader" (125 : Nat) "BranchingStory$Reader" "subject" "I") ∈ lw_tbl := in_tb 179 (by decide +kernel)
theorem wt_181 : (Jvm.Cond.fieldLink "BranchingStory$Reader" (15 : Nat) "BranchingStory$Reader" "latest" "[I") ∈ lw_tbl := in_tb 181 (by decide +kernel)
theorem wt_182 : (Jvm.Cond.fieldLink "BranchingStory$Reader" (18 : Nat) "BranchingStory$Reader" "isSecond" "[Z") ∈ lw_tbl := in_tb 182 (by decide +kernel)
theorem wt_183 : (Jvm.Cond.fieldLink "BranchingStory$Reader" (22 : Nat) "BranchingStory$Reader" "outerTest" "[I") ∈ lw_tbl := in_tb 183 (by decide +kernel)
theorem wt_184 : (Jvm.Cond.fieldLink "BranchingStory$Reader" (25 : Nat) "BranchingStory$Reader" "goalAt" "[I") ∈ lw_tbl := in_tb 184 (by decide +kernel)
theorem wt_467 : (Jvm.Cond.methodLink "BranchingStory$Reader" (36 : Nat) ({ cls := "java/lang/Math", name := "min", desc := "(II)I" } : Jvm.MethodName)) ∈ lw_tbl := in_tb 467 (by decide +kernel)
theorem wt_484 : (Jvm.Cond.methodLink "BranchingStory$Reader" (100 : Nat) ({ cls := "BranchingStory$Reader", name := "await", desc := "(I)Z" } : Jvm.MethodName)) ∈ lw_tbl := in_tb 484 (by decide +kernel)
theorem wt_486 : (Jvm.Cond.instanceMethod ({ cls := "BranchingStory$Reader", name := "await", desc := "(I)Z" } : Jvm.MethodName)) ∈ lw_tbl := in_tb 486 (by decide +kernel)
theorem wt_487 : (Jvm.Cond.code ({ cls := "BranchingStory$Reader", name := "await", desc := "(I)Z" } : Jvm.MethodName) prog_8_method_7_code (2 : Nat) (Option.some Jvm.ClassFile.FieldType.boolean)) ∈ lw_tbl := in_tb 487 (by decide +kernel)
theorem wt_488 : (Jvm.Cond.methodLink "BranchingStory$Reader" (103 : Nat) ({ cls := "BranchingStory$Reader", name := "takesNodeName", desc := "(I)Z" } : Jvm.MethodName)) ∈ lw_tbl := in_tb 488 (by decide +kernel)
theorem wt_490 : (Jvm.Cond.instanceMethod ({ cls := "BranchingStory$Reader", name := "takesNodeName", desc := "(I)Z" } : Jvm.MethodName)) ∈ lw_tbl := in_tb 490 (by decide +kernel)
theorem wt_491 : (Jvm.Cond.code ({ cls := "BranchingStory$Reader", name := "takesNodeName", desc := "(I)Z" } : Jvm.MethodName) prog_8_method_8_code (3 : Nat) (Option.some Jvm.ClassFile.FieldType.boolean)) ∈ lw_tbl := in_tb 491 (by decide +kernel)
theorem wt_492 : (Jvm.Cond.methodLink "BranchingStory$Reader" (131 : Nat) ({ cls := "BranchingStory$Reader", name := "isName", desc := "(I)Z" } : Jvm.MethodName)) ∈ lw_tbl := in_tb 492 (by decide +kernel)
theorem wt_493 : (Jvm.Cond.static ({ cls := "BranchingStory$Reader", name := "isName", desc := "(I)Z" } : Jvm.MethodName)) ∈ lw_tbl := in_tb 493 (by decide +kernel)
theorem wt_494 : (Jvm.Cond.code ({ cls := "BranchingStory$Reader", name := "isName", desc := "(I)Z" } : Jvm.MethodName) prog_8_method_31_code (1 : Nat) (Option.some Jvm.ClassFile.FieldType.boolean)) ∈ lw_tbl := in_tb 494 (by decide +kernel)
theorem wt_495 : (Jvm.Cond.methodLink "BranchingStory$Reader" (106 : Nat) ({ cls := "BranchingStory$Reader", name := "takesHubSign", desc := "()Z" } : Jvm.MethodName)) ∈ lw_tbl := in_tb 495 (by decide +kernel)
theorem wt_497 : (Jvm.Cond.instanceMethod ({ cls := "BranchingStory$Reader", name := "takesHubSign", desc := "()Z" } : Jvm.MethodName)) ∈ lw_tbl := in_tb 497 (by decide +kernel)
theorem wt_498 : (Jvm.Cond.code ({ cls := "BranchingStory$Reader", name := "takesHubSign", desc := "()Z" } : Jvm.MethodName) prog_8_method_9_code (1 : Nat) (Option.some Jvm.ClassFile.FieldType.boolean)) ∈ lw_tbl := in_tb 498 (by decide +kernel)
theorem wt_499 : (Jvm.Cond.methodLink "BranchingStory$Reader" (109 : Nat) ({ cls := "BranchingStory$Reader", name := "takesInBlock", desc := "(I)Z" } : Jvm.MethodName)) ∈ lw_tbl := in_tb 499 (by decide +kernel)
theorem wt_501 : (Jvm.Cond.instanceMethod ({ cls := "BranchingStory$Reader", name := "takesInBlock", desc := "(I)Z" } : Jvm.MethodName)) ∈ lw_tbl := in_tb 501 (by decide +kernel)
theorem wt_502 : (Jvm.Cond.code ({ cls := "BranchingStory$Reader", name := "takesInBlock", desc := "(I)Z" } : Jvm.MethodName) prog_8_method_10_code (2 : Nat) (Option.some Jvm.ClassFile.FieldType.boolean)) ∈ lw_tbl := in_tb 502 (by decide +kernel)
theorem wt_503 : (Jvm.Cond.methodLink "BranchingStory$Reader" (146 : Nat) ({ cls := "BranchingStory$Reader", name := "beginsStatement", desc := "(II)Z" } : Jvm.MethodName)) ∈ lw_tbl := in_tb 503 (by decide +kernel)
theorem wt_505 : (Jvm.Cond.instanceMethod ({ cls := "BranchingStory$Reader", name := "beginsStatement", desc := "(II)Z" } : Jvm.MethodName)) ∈ lw_tbl := in_tb 505 (by decide +kernel)
theorem wt_506 : (Jvm.Cond.code ({ cls := "BranchingStory$Reader", name := "beginsStatement", desc := "(II)Z" } : Jvm.MethodName) prog_8_method_11_code (3 : Nat) (Option.some Jvm.ClassFile.FieldType.boolean)) ∈ lw_tbl := in_tb 506 (by decide +kernel)
theorem wt_507 : (Jvm.Cond.methodLink "BranchingStory$Reader" (150 : Nat) ({ cls := "BranchingStory$Reader", name := "beginsTest", desc := "()Z" } : Jvm.MethodName)) ∈ lw_tbl := in_tb 507 (by decide +kernel)
theorem wt_509 : (Jvm.Cond.instanceMethod ({ cls := "BranchingStory$Reader", name := "beginsTest", desc := "()Z" } : Jvm.MethodName)) ∈ lw_tbl := in_tb 509 (by decide +kernel)
theorem wt_510 : (Jvm.Cond.code ({ cls := "BranchingStory$Reader", name := "beginsTest", desc := "()Z" } : Jvm.MethodName) prog_8_method_17_code (1 : Nat) (Option.some Jvm.ClassFile.FieldType.boolean)) ∈ lw_tbl := in_tb 510 (by decide +kernel)
theorem wt_511 : (Jvm.Cond.methodLink "BranchingStory$Reader" (66 : Nat) ({ cls := "BranchingStory$Reader", name := "add", desc := "(III)Z" } : Jvm.MethodName)) ∈ lw_tbl := in_tb 511 (by decide +kernel)
theorem wt_513 : (Jvm.Cond.instanceMethod ({ cls := "BranchingStory$Reader", name := "add", desc := "(III)Z" } : Jvm.MethodName)) ∈ lw_tbl := in_tb 513 (by decide +kernel)
theorem wt_514 : (Jvm.Cond.code ({ cls := "BranchingStory$Reader", name := "add", desc := "(III)Z" } : Jvm.MethodName) prog_8_method_27_code (7 : Nat) (Option.some Jvm.ClassFile.FieldType.boolean)) ∈ lw_tbl := in_tb 514 (by decide +kernel)
theorem wt_515 : (Jvm.Cond.methodLinkNest "BranchingStory$Reader" (226 : Nat) ({ cls := "BranchingStory$Story", name := "append", desc := "(III)I" } : Jvm.MethodName) "BranchingStory") ∈ lw_tbl := in_tb 515 (by decide +kernel)
theorem wt_517 : (Jvm.Cond.instanceMethod ({ cls := "BranchingStory$Story", name := "append", desc := "(III)I" } : Jvm.MethodName)) ∈ lw_tbl := in_tb 517 (by decide +kernel)
theorem wt_518 : (Jvm.Cond.code ({ cls := "BranchingStory$Story", name := "append", desc := "(III)I" } : Jvm.MethodName) prog_9_method_3_code (5 : Nat) (Option.some Jvm.ClassFile.FieldType.int)) ∈ lw_tbl := in_tb 518 (by decide +kernel)
theorem wt_519 : (Jvm.Cond.methodLinkNest "BranchingStory$Reader" (202 : Nat) ({ cls := "BranchingStory", name := "entryOf", desc := "([II)I" } : Jvm.MethodName) "BranchingStory") ∈ lw_tbl := in_tb 519 (by decide +kernel)
theorem wt_520 : (Jvm.Cond.static ({ cls := "BranchingStory", name := "entryOf", desc := "([II)I" } : Jvm.MethodName)) ∈ lw_tbl := in_tb 520 (by decide +kernel)
theorem wt_521 : (Jvm.Cond.code ({ cls := "BranchingStory", name := "entryOf", desc := "([II)I" } : Jvm.MethodName) prog_1_method_50_code (2 : Nat) (Option.some Jvm.ClassFile.FieldType.int)) ∈ lw_tbl := in_tb 521 (by decide +kernel)
theorem wt_522 : (Jvm.Cond.methodLinkNest "BranchingStory$Reader" (206 : Nat) ({ cls := "BranchingStory$Story", name := "isOfSort", desc := "(II)Z" } : Jvm.MethodName) "BranchingStory") ∈ lw_tbl := in_tb 522 (by decide +kernel)
theorem wt_524 : (Jvm.Cond.instanceMethod ({ cls := "BranchingStory$Story", name := "isOfSort", desc := "(II)Z" } : Jvm.MethodName)) ∈ lw_tbl := in_tb 524 (by decide +kernel)
theorem wt_525 : (Jvm.Cond.code ({ cls := "BranchingStory$Story", name := "isOfSort", desc := "(II)Z" } : Jvm.MethodName) prog_9_method_5_code (3 : Nat) (Option.some Jvm.ClassFile.FieldType.boolean)) ∈ lw_tbl := in_tb 525 (by decide +kernel)
theorem wt_530 : (Jvm.Cond.methodLinkNest "BranchingStory$Reader" (174 : Nat) ({ cls := "BranchingStory", name := "putEntry", desc := "([III)V" } : Jvm.MethodName) "BranchingStory") ∈ lw_tbl := in_tb 530 (by decide +kernel)
theorem wt_531 : (Jvm.Cond.static ({ cls := "BranchingStory", name := "putEntry", desc := "([III)V" } : Jvm.MethodName)) ∈ lw_tbl := in_tb 531 (by decide +kernel)
theorem wt_532 : (Jvm.Cond.code ({ cls := "BranchingStory", name := "putEntry", desc := "([III)V" } : Jvm.MethodName) prog_1_method_51_code (3 : Nat) (Option.none : Option Jvm.ClassFile.FieldType)) ∈ lw_tbl := in_tb 532 (by decide +kernel)
theorem wt_533 : (Jvm.Cond.methodLink "BranchingStory$Reader" (153 : Nat) ({ cls := "BranchingStory$Reader", name := "beginsChoice", desc := "()Z" } : Jvm.MethodName)) ∈ lw_tbl := in_tb 533 (by decide +kernel)
theorem wt_535 : (Jvm.Cond.instanceMethod ({ cls := "BranchingStory$Reader", name := "beginsChoice", desc := "()Z" } : Jvm.MethodName)) ∈ lw_tbl := in_tb 535 (by decide +kernel)
theorem wt_536 : (Jvm.Cond.code ({ cls := "BranchingStory$Reader", name := "beginsChoice", desc := "()Z" } : Jvm.MethodName) prog_8_method_18_code (2 : Nat) (Option.some Jvm.ClassFile.FieldType.boolean)) ∈ lw_tbl := in_tb 536 (by decide +kernel)
theorem wt_537 : (Jvm.Cond.methodLink "BranchingStory$Reader" (156 : Nat) ({ cls := "BranchingStory$Reader", name := "closesBlock", desc := "()Z" } : Jvm.MethodName)) ∈ lw_tbl := in_tb 537 (by decide +kernel)
theorem wt_539 : (Jvm.Cond.instanceMethod ({ cls := "BranchingStory$Reader", name := "closesBlock", desc := "()Z" } : Jvm.MethodName)) ∈ lw_tbl := in_tb 539 (by decide +kernel)
theorem wt_540 : (Jvm.Cond.code ({ cls := "BranchingStory$Reader", name := "closesBlock", desc := "()Z" } : Jvm.MethodName) prog_8_method_26_code (3 : Nat) (Option.some Jvm.ClassFile.FieldType.boolean)) ∈ lw_tbl := in_tb 540 (by decide +kernel)
theorem wt_541 : (Jvm.Cond.methodLink "BranchingStory$Reader" (159 : Nat) ({ cls := "BranchingStory$Reader", name := "isMeter", desc := "(I)Z" } : Jvm.MethodName)) ∈ lw_tbl := in_tb 541 (by decide +kernel)
theorem wt_542 : (Jvm.Cond.static ({ cls := "BranchingStory$Reader", name := "isMeter", desc := "(I)Z" } : Jvm.MethodName)) ∈ lw_tbl := in_tb 542 (by decide +kernel)
theorem wt_543 : (Jvm.Cond.code ({ cls := "BranchingStory$Reader", name := "isMeter", desc := "(I)Z" } : Jvm.MethodName) prog_8_method_33_code (1 : Nat) (Option.some Jvm.ClassFile.FieldType.boolean)) ∈ lw_tbl := in_tb 543 (by decide +kernel)
theorem wt_544 : (Jvm.Cond.methodLink "BranchingStory$Reader" (162 : Nat) ({ cls := "BranchingStory$Reader", name := "beginsMeter", desc := "(I)Z" } : Jvm.MethodName)) ∈ lw_tbl := in_tb 544 (by decide +kernel)
theorem wt_546 : (Jvm.Cond.instanceMethod ({ cls := "BranchingStory$Reader", name := "beginsMeter", desc := "(I)Z" } : Jvm.MethodName)) ∈ lw_tbl := in_tb 546 (by decide +kernel)
theorem wt_547 : (Jvm.Cond.code ({ cls := "BranchingStory$Reader", name := "beginsMeter", desc := "(I)Z" } : Jvm.MethodName) prog_8_method_12_code (2 : Nat) (Option.some Jvm.ClassFile.FieldType.boolean)) ∈ lw_tbl := in_tb 547 (by decide +kernel)
theorem wt_548 : (Jvm.Cond.methodLink "BranchingStory$Reader" (165 : Nat) ({ cls := "BranchingStory$Reader", name := "takesLine", desc := "()Z" } : Jvm.MethodName)) ∈ lw_tbl := in_tb 548 (by decide +kernel)
theorem wt_550 : (Jvm.Cond.instanceMethod ({ cls := "BranchingStory$Reader", name := "takesLine", desc := "()Z" } : Jvm.MethodName)) ∈ lw_tbl := in_tb 550 (by decide +kernel)
theorem wt_551 : (Jvm.Cond.code ({ cls := "BranchingStory$Reader", name := "takesLine", desc := "()Z" } : Jvm.MethodName) prog_8_method_14_code (1 : Nat) (Option.some Jvm.ClassFile.FieldType.boolean)) ∈ lw_tbl := in_tb 551 (by decide +kernel)
theorem wt_552 : (Jvm.Cond.methodLink "BranchingStory$Reader" (168 : Nat) ({ cls := "BranchingStory$Reader", name := "takesNumber", desc := "()Z" } : Jvm.MethodName)) ∈ lw_tbl := in_tb 552 (by decide +kernel)
theorem wt_554 : (Jvm.Cond.instanceMethod ({ cls := "BranchingStory$Reader", name := "takesNumber", desc := "()Z" } : Jvm.MethodName)) ∈ lw_tbl := in_tb 554 (by decide +kernel)
theorem wt_555 : (Jvm.Cond.code ({ cls := "BranchingStory$Reader", name := "takesNumber", desc := "()Z" } : Jvm.MethodName) prog_8_method_15_code (1 : Nat) (Option.some Jvm.ClassFile.FieldType.boolean)) ∈ lw_tbl := in_tb 555 (by decide +kernel)
theorem wt_556 : (Jvm.Cond.methodLink "BranchingStory$Reader" (112 : Nat) ({ cls := "BranchingStory$Reader", name := "opensBlock", desc := "(Z)Z" } : Jvm.MethodName)) ∈ lw_tbl := in_tb 556 (by decide +kernel)
theorem wt_558 : (Jvm.Cond.instanceMethod ({ cls := "BranchingStory$Reader", name := "opensBlock", desc := "(Z)Z" } : Jvm.MethodName)) ∈ lw_tbl := in_tb 558 (by decide +kernel)
theorem wt_559 : (Jvm.Cond.code ({ cls := "BranchingStory$Reader", name := "opensBlock", desc := "(Z)Z" } : Jvm.MethodName) prog_8_method_25_code (2 : Nat) (Option.some Jvm.ClassFile.FieldType.boolean)) ∈ lw_tbl := in_tb 559 (by decide +kernel)
theorem wt_560 : (Jvm.Cond.methodLink "BranchingStory$Reader" (116 : Nat) ({ cls := "BranchingStory$Reader", name := "isFlag", desc := "(I)Z" } : Jvm.MethodName)) ∈ lw_tbl := in_tb 560 (by decide +kernel)
theorem wt_561 : (Jvm.Cond.static ({ cls := "BranchingStory$Reader", name := "isFlag", desc := "(I)Z" } : Jvm.MethodName)) ∈ lw_tbl := in_tb 561 (by decide +kernel)
theorem wt_562 : (Jvm.Cond.code ({ cls := "BranchingStory$Reader", name := "isFlag", desc := "(I)Z" } : Jvm.MethodName) prog_8_method_32_code (1 : Nat) (Option.some Jvm.ClassFile.FieldType.boolean)) ∈ lw_tbl := in_tb 562 (by decide +kernel)
theorem wt_563 : (Jvm.Cond.methodLink "BranchingStory$Reader" (122 : Nat) ({ cls := "BranchingStory$Reader", name := "takesMeterSign", desc := "(I)Z" } : Jvm.MethodName)) ∈ lw_tbl := in_tb 563 (by decide +kernel)
theorem wt_565 : (Jvm.Cond.instanceMethod ({ cls := "BranchingStory$Reader", name := "takesMeterSign", desc := "(I)Z" } : Jvm.MethodName)) ∈ lw_tbl := in_tb 565 (by decide +kernel)
theorem wt_566 : (Jvm.Cond.code ({ cls := "BranchingStory$Reader", name := "takesMeterSign", desc := "(I)Z" } : Jvm.MethodName) prog_8_method_13_code (2 : Nat) (Option.some Jvm.ClassFile.FieldType.boolean)) ∈ lw_tbl := in_tb 566 (by decide +kernel)
theorem wt_567 : (Jvm.Cond.methodLink "BranchingStory$Reader" (128 : Nat) ({ cls := "BranchingStory$Reader", name := "takesLabel", desc := "(I)Z" } : Jvm.MethodName)) ∈ lw_tbl := in_tb 567 (by decide +kernel)
theorem wt_569 : (Jvm.Cond.instanceMethod ({ cls := "BranchingStory$Reader", name := "takesLabel", desc := "(I)Z" } : Jvm.MethodName)) ∈ lw_tbl := in_tb 569 (by decide +kernel)
theorem wt_570 : (Jvm.Cond.code ({ cls := "BranchingStory$Reader", name := "takesLabel", desc := "(I)Z" } : Jvm.MethodName) prog_8_method_19_code (2 : Nat) (Option.some Jvm.ClassFile.FieldType.boolean)) ∈ lw_tbl := in_tb 570 (by decide +kernel)
theorem wt_571 : (Jvm.Cond.methodLink "BranchingStory$Reader" (134 : Nat) ({ cls := "BranchingStory$Reader", name := "addGoal", desc := "(I)Z" } : Jvm.MethodName)) ∈ lw_tbl := in_tb 571 (by decide +kernel)
theorem wt_573 : (Jvm.Cond.instanceMethod ({ cls := "BranchingStory$Reader", name := "addGoal", desc := "(I)Z" } : Jvm.MethodName)) ∈ lw_tbl := in_tb 573 (by decide +kernel)
theorem wt_574 : (Jvm.Cond.code ({ cls := "BranchingStory$Reader", name := "addGoal", desc := "(I)Z" } : Jvm.MethodName) prog_8_method_16_code (2 : Nat) (Option.some Jvm.ClassFile.FieldType.boolean)) ∈ lw_tbl := in_tb 574 (by decide +kernel)
theorem wt_575 : (Jvm.Cond.methodLink "BranchingStory$Reader" (137 : Nat) ({ cls := "BranchingStory$Reader", name := "takesInCondition", desc := "(I)Z" } : Jvm.MethodName)) ∈ lw_tbl := in_tb 575 (by decide +kernel)
theorem wt_577 : (Jvm.Cond.instanceMethod ({ cls := "BranchingStory$Reader", name := "takesInCondition", desc := "(I)Z" } : Jvm.MethodName)) ∈ lw_tbl := in_tb 577 (by decide +kernel)
theorem wt_578 : (Jvm.Cond.code ({ cls := "BranchingStory$Reader", name := "takesInCondition", desc := "(I)Z" } : Jvm.MethodName) prog_8_method_20_code (2 : Nat) (Option.some Jvm.ClassFile.FieldType.boolean)) ∈ lw_tbl := in_tb 578 (by decide +kernel)
theorem wt_579 : (Jvm.Cond.methodLink "BranchingStory$Reader" (190 : Nat) ({ cls := "BranchingStory$Reader", name := "takesTermBegin", desc := "(I)Z" } : Jvm.MethodName)) ∈ lw_tbl := in_tb 579 (by decide +kernel)
theorem wt_581 : (Jvm.Cond.instanceMethod ({ cls := "BranchingStory$Reader", name := "takesTermBegin", desc := "(I)Z" } : Jvm.MethodName)) ∈ lw_tbl := in_tb 581 (by decide +kernel)
theorem wt_582 : (Jvm.Cond.code ({ cls := "BranchingStory$Reader", name := "takesTermBegin", desc := "(I)Z" } : Jvm.MethodName) prog_8_method_21_code (2 : Nat) (Option.some Jvm.ClassFile.FieldType.boolean)) ∈ lw_tbl := in_tb 582 (by decide +kernel)
theorem wt_583 : (Jvm.Cond.methodLink "BranchingStory$Reader" (193 : Nat) ({ cls := "BranchingStory$Reader", name := "addTerm", desc := "(III)Z" } : Jvm.MethodName)) ∈ lw_tbl := in_tb 583 (by decide +kernel)
theorem wt_585 : (Jvm.Cond.instanceMethod ({ cls := "BranchingStory$Reader", name := "addTerm", desc := "(III)Z" } : Jvm.MethodName)) ∈ lw_tbl := in_tb 585 (by decide +kernel)
theorem wt_586 : (Jvm.Cond.code ({ cls := "BranchingStory$Reader", name := "addTerm", desc := "(III)Z" } : Jvm.MethodName) prog_8_method_24_code (4 : Nat) (Option.some Jvm.ClassFile.FieldType.boolean)) ∈ lw_tbl := in_tb 586 (by decide +kernel)
theorem wt_587 : (Jvm.Cond.methodLinkNest "BranchingStory$Reader" (213 : Nat) ({ cls := "BranchingStory$Terms", name := "append", desc := "(III)V" } : Jvm.MethodName) "BranchingStory") ∈ lw_tbl := in_tb 587 (by decide +kernel)
theorem wt_589 : (Jvm.Cond.instanceMethod ({ cls := "BranchingStory$Terms", name := "append", desc := "(III)V" } : Jvm.MethodName)) ∈ lw_tbl := in_tb 589 (by decide +kernel)
theorem wt_590 : (Jvm.Cond.code ({ cls := "BranchingStory$Terms", name := "append", desc := "(III)V" } : Jvm.MethodName) prog_10_method_2_code (4 : Nat) (Option.none : Option Jvm.ClassFile.FieldType)) ∈ lw_tbl := in_tb 590 (by decide +kernel)
theorem wt_591 : (Jvm.Cond.methodLink "BranchingStory$Reader" (196 : Nat) ({ cls := "BranchingStory$Reader", name := "takesTermSign", desc := "(I)Z" } : Jvm.MethodName)) ∈ lw_tbl := in_tb 591 (by decide +kernel)
theorem wt_593 : (Jvm.Cond.instanceMethod ({ cls := "BranchingStory$Reader", name := "takesTermSign", desc := "(I)Z" } : Jvm.MethodName)) ∈ lw_tbl := in_tb 593 (by decide +kernel)
theorem wt_594 : (Jvm.Cond.code ({ cls := "BranchingStory$Reader", name := "takesTermSign", desc := "(I)Z" } : Jvm.MethodName) prog_8_method_22_code (2 : Nat) (Option.some Jvm.ClassFile.FieldType.boolean)) ∈ lw_tbl := in_tb 594 (by decide +kernel)
theorem wt_595 : (Jvm.Cond.methodLink "BranchingStory$Reader" (199 : Nat) ({ cls := "BranchingStory$Reader", name := "takesTermEnd", desc := "(I)Z" } : Jvm.MethodName)) ∈ lw_tbl := in_tb 595 (by decide +kernel)
theorem wt_597 : (Jvm.Cond.instanceMethod ({ cls := "BranchingStory$Reader", name := "takesTermEnd", desc := "(I)Z" } : Jvm.MethodName)) ∈ lw_tbl := in_tb 597 (by decide +kernel)
theorem wt_598 : (Jvm.Cond.code ({ cls := "BranchingStory$Reader", name := "takesTermEnd", desc := "(I)Z" } : Jvm.MethodName) prog_8_method_23_code (3 : Nat) (Option.some Jvm.ClassFile.FieldType.boolean)) ∈ lw_tbl := in_tb 598 (by decide +kernel)
theorem fl_X6_15 : FL RX6 15 5 10 := ⟨RX6, TX6, 14, rfl, by decide, inX6, Or.inl wt_181⟩
theorem fl_X6_18 : FL RX6 18 5 11 := ⟨RX6, TX6, 14, rfl, by decide, inX6, Or.inl wt_182⟩
theorem fl_X6_22 : FL RX6 22 5 12 := ⟨RX6, TX6, 14, rfl, by decide, inX6, Or.inl wt_183⟩
theorem fl_X6_25 : FL RX6 25 5 13 := ⟨RX6, TX6, 14, rfl, by decide, inX6, Or.inl wt_184⟩
theorem fl_X6_46 : FL RX6 46 5 4 := ⟨RX6, TX6, 14, rfl, by decide, inX6, Or.inl wt_175⟩
theorem fl_X6_61 : FL RX6 61 6 10 := ⟨RX7, TX7, 19, rfl, by decide, inX7, Or.inr ⟨_, wt_96⟩⟩
theorem fl_X6_119 : FL RX6 119 5 7 := ⟨RX6, TX6, 14, rfl, by decide, inX6, Or.inl wt_178⟩
theorem fl_X6_125 : FL RX6 125 5 8 := ⟨RX6, TX6, 14, rfl, by decide, inX6, Or.inl wt_179⟩
theorem fl_X6_140 : FL RX6 140 6 11 := ⟨RX7, TX7, 19, rfl, by decide, inX7, Or.inr ⟨_, wt_101⟩⟩
theorem fl_X6_143 : FL RX6 143 6 13 := ⟨RX7, TX7, 19, rfl, by decide, inX7, Or.inr ⟨_, wt_107⟩⟩
theorem fl_X6_171 : FL RX6 171 6 0 := ⟨RX7, TX7, 19, rfl, by decide, inX7, Or.inr ⟨_, wt_60⟩⟩
theorem fl_X6_178 : FL RX6 178 6 18 := ⟨RX7, TX7, 19, rfl, by decide, inX7, Or.inr ⟨_, wt_125⟩⟩
theorem fl_X6_181 : FL RX6 181 6 14 := ⟨RX7, TX7, 19, rfl, by decide, inX7, Or.inr ⟨_, wt_111⟩⟩
theorem fl_X6_184 : FL RX6 184 6 16 := ⟨RX7, TX7, 19, rfl, by decide, inX7, Or.inr ⟨_, wt_118⟩⟩
theorem fl_X6_187 : FL RX6 187 6 15 := ⟨RX7, TX7, 19, rfl, by decide, inX7, Or.inr ⟨_, wt_114⟩⟩
theorem fl_X6_209 : FL RX6 209 6 9 := ⟨RX7, TX7, 19, rfl, by decide, inX7, Or.inr ⟨_, wt_94⟩⟩
theorem fl_X6_219 : FL RX6 219 6 8 := ⟨RX7, TX7, 19, rfl, by decide, inX7, Or.inr ⟨_, wt_90⟩⟩
theorem fl_X6_222 : FL RX6 222 7 0 := ⟨RX8, TX8, 4, rfl, by decide, inX8, Or.inr ⟨_, wt_44⟩⟩
theorem fl_X6_223 : FL RX6 223 6 2 := ⟨RX7, TX7, 19, rfl, by decide, inX7, Or.inr ⟨_, wt_68⟩⟩
theorem fl_X6_229 : FL RX6 229 6 4 := ⟨RX7, TX7, 19, rfl, by decide, inX7, Or.inr ⟨_, wt_75⟩⟩
theorem fl_X6_232 : FL RX6 232 6 12 := ⟨RX7, TX7, 19, rfl, by decide, inX7, Or.inr ⟨_, wt_105⟩⟩
theorem fl_X6_235 : FL RX6 235 6 6 := ⟨RX7, TX7, 19, rfl, by decide, inX7, Or.inr ⟨_, wt_83⟩⟩
theorem fl_X6_238 : FL RX6 238 6 5 := ⟨RX7, TX7, 19, rfl, by decide, inX7, Or.inr ⟨_, wt_79⟩⟩
theorem fl_X6_241 : FL RX6 241 6 1 := ⟨RX7, TX7, 19, rfl, by decide, inX7, Or.inr ⟨_, wt_64⟩⟩
theorem fl_X6_247 : FL RX6 247 6 17 := ⟨RX7, TX7, 19, rfl, by decide, inX7, Or.inr ⟨_, wt_122⟩⟩
theorem fp_X6_46 : FP RX6 46 5 4 .int := ⟨RX6, TX6, 14, tyX6, rfl, by decide, inX6, tyX6_ok, nmX6, rfl, by decide +kernel, Or.inl wt_175⟩
theorem fp_X6_61 : FP RX6 61 6 10 .int := ⟨RX7, TX7, 19, tyX7, rfl, by decide, inX7, tyX7_ok, nmX7, rfl, by decide +kernel, Or.inr ⟨_, wt_96⟩⟩
theorem fp_X6_119 : FP RX6 119 5 7 .int := ⟨RX6, TX6, 14, tyX6, rfl, by decide, inX6, tyX6_ok, nmX6, rfl, by decide +kernel, Or.inl wt_178⟩
theorem fp_X6_125 : FP RX6 125 5 8 .int := ⟨RX6, TX6, 14, tyX6, rfl, by decide, inX6, tyX6_ok, nmX6, rfl, by decide +kernel, Or.inl wt_179⟩
theorem fp_X6_143 : FP RX6 143 6 13 .int := ⟨RX7, TX7, 19, tyX7, rfl, by decide, inX7, tyX7_ok, nmX7, rfl, by decide +kernel, Or.inr ⟨_, wt_107⟩⟩
theorem fp_X6_178 : FP RX6 178 6 18 .int := ⟨RX7, TX7, 19, tyX7, rfl, by decide, inX7, tyX7_ok, nmX7, rfl, by decide +kernel, Or.inr ⟨_, wt_125⟩⟩
theorem fp_X6_181 : FP RX6 181 6 14 .int := ⟨RX7, TX7, 19, tyX7, rfl, by decide, inX7, tyX7_ok, nmX7, rfl, by decide +kernel, Or.inr ⟨_, wt_111⟩⟩
theorem cs_X6_36 : CSw RX6 36 yJM_min cJM_min 2 (some .int) 2 := ⟨Or.inl wt_467, wt_468, wt_17, wt_469, by decide, by decide, by decide +kernel⟩
theorem cs_X6_66 : CVw RX6 66 yX6_add cX6_add 7 (some .boolean) 3 := ⟨Or.inl wt_511, wt_513, in_sl (n := 14) 11 (by decide +kernel), wt_4, wt_514, by decide, by decide, by decide +kernel⟩
theorem cs_X6_100 : CVw RX6 100 yX6_await cX6_await 2 (some .boolean) 1 := ⟨Or.inl wt_484, wt_486, in_sl (n := 14) 5 (by decide +kernel), wt_4, wt_487, by decide, by decide, by decide +kernel⟩
theorem cs_X6_103 : CVw RX6 103 yX6_takesNodeName cX6_takesNodeName 3 (some .boolean) 1 := ⟨Or.inl wt_488, wt_490, in_sl (n := 14) 6 (by decide +kernel), wt_4, wt_491, by decide, by decide, by decide +kernel⟩
theorem cs_X6_106 : CVw RX6 106 yX6_takesHubSign cX6_takesHubSign 1 (some .boolean) 0 := ⟨Or.inl wt_495, wt_497, in_sl (n := 14) 7 (by decide +kernel), wt_4, wt_498, by decide, by decide, by decide +kernel⟩
theorem cs_X6_109 : CVw RX6 109 yX6_takesInBlock cX6_takesInBlock 2 (some .boolean) 1 := ⟨Or.inl wt_499, wt_501, in_sl (n := 14) 8 (by decide +kernel), wt_4, wt_502, by decide, by decide, by decide +kernel⟩
theorem cs_X6_112 : CVw RX6 112 yX6_opensBlock cX6_opensBlock 2 (some .boolean) 1 := ⟨Or.inl wt_556, wt_558, in_sl (n := 14) 20 (by decide +kernel), wt_4, wt_559, by decide, by decide, by decide +kernel⟩
theorem cs_X6_116 : CSw RX6 116 yX6_isFlag cX6_isFlag 1 (some .boolean) 1 := ⟨Or.inl wt_560, wt_561, wt_4, wt_562, by decide, by decide, by decide +kernel⟩
theorem cs_X6_122 : CVw RX6 122 yX6_takesMeterSign cX6_takesMeterSign 2 (some .boolean) 1 := ⟨Or.inl wt_563, wt_565, in_sl (n := 14) 21 (by decide +kernel), wt_4, wt_566, by decide, by decide, by decide +kernel⟩
theorem cs_X6_128 : CVw RX6 128 yX6_takesLabel cX6_takesLabel 2 (some .boolean) 1 := ⟨Or.inl wt_567, wt_569, in_sl (n := 14) 22 (by decide +kernel), wt_4, wt_570, by decide, by decide, by decide +kernel⟩
theorem cs_X6_131 : CSw RX6 131 yX6_isName cX6_isName 1 (some .boolean) 1 := ⟨Or.inl wt_492, wt_493, wt_4, wt_494, by decide, by decide, by decide +kernel⟩
theorem cs_X6_134 : CVw RX6 134 yX6_addGoal cX6_addGoal 2 (some .boolean) 1 := ⟨Or.inl wt_571, wt_573, in_sl (n := 14) 23 (by decide +kernel), wt_4, wt_574, by decide, by decide, by decide +kernel⟩
theorem cs_X6_137 : CVw RX6 137 yX6_takesInCondition cX6_takesInCondition 2 (some .boolean) 1 := ⟨Or.inl wt_575, wt_577, in_sl (n := 14) 24 (by decide +kernel), wt_4, wt_578, by decide, by decide, by decide +kernel⟩
theorem cs_X6_146 : CVw RX6 146 yX6_beginsStatement cX6_beginsStatement 3 (some .boolean) 2 := ⟨Or.inl wt_503, wt_505, in_sl (n := 14) 9 (by decide +kernel), wt_4, wt_506, by decide, by decide, by decide +kernel⟩
theorem cs_X6_150 : CVw RX6 150 yX6_beginsTest cX6_beginsTest 1 (some .boolean) 0 := ⟨Or.inl wt_507, wt_509, in_sl (n := 14) 10 (by decide +kernel), wt_4, wt_510, by decide, by decide, by decide +kernel⟩
theorem cs_X6_153 : CVw RX6 153 yX6_beginsChoice cX6_beginsChoice 2 (some .boolean) 0 := ⟨Or.inl wt_533, wt_535, in_sl (n := 14) 15 (by decide +kernel), wt_4, wt_536, by decide, by decide, by decide +kernel⟩
theorem cs_X6_156 : CVw RX6 156 yX6_closesBlock cX6_closesBlock 3 (some .boolean) 0 := ⟨Or.inl wt_537, wt_539, in_sl (n := 14) 16 (by decide +kernel), wt_4, wt_540, by decide, by decide, by decide +kernel⟩
theorem cs_X6_159 : CSw RX6 159 yX6_isMeter cX6_isMeter 1 (some .boolean) 1 := ⟨Or.inl wt_541, wt_542, wt_4, wt_543, by decide, by decide, by decide +kernel⟩
theorem cs_X6_162 : CVw RX6 162 yX6_beginsMeter cX6_beginsMeter 2 (some .boolean) 1 := ⟨Or.inl wt_544, wt_546, in_sl (n := 14) 17 (by decide +kernel), wt_4, wt_547, by decide, by decide, by decide +kernel⟩
theorem cs_X6_165 : CVw RX6 165 yX6_takesLine cX6_takesLine 1 (some .boolean) 0 := ⟨Or.inl wt_548, wt_550, in_sl (n := 14) 18 (by decide +kernel), wt_4, wt_551, by decide, by decide, by decide +kernel⟩
theorem cs_X6_168 : CVw RX6 168 yX6_takesNumber cX6_takesNumber 1 (some .boolean) 0 := ⟨Or.inl wt_552, wt_554, in_sl (n := 14) 19 (by decide +kernel), wt_4, wt_555, by decide, by decide, by decide +kernel⟩
theorem cs_X6_174 : CSw RX6 174 yX9_putEntry cX9_putEntry 3 none 3 := ⟨Or.inr ⟨_, wt_530⟩, wt_531, wt_1, wt_532, by decide, by decide, by decide +kernel⟩
theorem cs_X6_190 : CVw RX6 190 yX6_takesTermBegin cX6_takesTermBegin 2 (some .boolean) 1 := ⟨Or.inl wt_579, wt_581, in_sl (n := 14) 25 (by decide +kernel), wt_4, wt_582, by decide, by decide, by decide +kernel⟩
theorem cs_X6_193 : CVw RX6 193 yX6_addTerm cX6_addTerm 4 (some .boolean) 3 := ⟨Or.inl wt_583, wt_585, in_sl (n := 14) 26 (by decide +kernel), wt_4, wt_586, by decide, by decide, by decide +kernel⟩
theorem cs_X6_196 : CVw RX6 196 yX6_takesTermSign cX6_takesTermSign 2 (some .boolean) 1 := ⟨Or.inl wt_591, wt_593, in_sl (n := 14) 28 (by decide +kernel), wt_4, wt_594, by decide, by decide, by decide +kernel⟩
theorem cs_X6_199 : CVw RX6 199 yX6_takesTermEnd cX6_takesTermEnd 3 (some .boolean) 1 := ⟨Or.inl wt_595, wt_597, in_sl (n := 14) 29 (by decide +kernel), wt_4, wt_598, by decide, by decide, by decide +kernel⟩
theorem cs_X6_202 : CSw RX6 202 yX9_entryOf cX9_entryOf 2 (some .int) 2 := ⟨Or.inr ⟨_, wt_519⟩, wt_520, wt_1, wt_521, by decide, by decide, by decide +kernel⟩
theorem cs_X6_206 : CVw RX6 206 yX7_isOfSort cX7_isOfSort 3 (some .boolean) 2 := ⟨Or.inr ⟨_, wt_522⟩, wt_524, in_sl (n := 19) 13 (by decide +kernel), wt_2, wt_525, by decide, by decide, by decide +kernel⟩
theorem cs_X6_213 : CVw RX6 213 yX8_append cX8_append 4 none 3 := ⟨Or.inr ⟨_, wt_587⟩, wt_589, in_sl (n := 4) 27 (by decide +kernel), wt_3, wt_590, by decide, by decide, by decide +kernel⟩
theorem cs_X6_226 : CVw RX6 226 yX7_append cX7_append 5 (some .int) 3 := ⟨Or.inr ⟨_, wt_515⟩, wt_517, in_sl (n := 19) 12 (by decide +kernel), wt_2, wt_518, by decide, by decide, by decide +kernel⟩
/-! BranchingStory$Reader.await(I)Z -/
def f_X6_await (a0 : Int) (σ : St) (Q : St → Int → Prop) : Prop :=
  ∀ σ1 : St, σ1 = sset σ 38 1 a0 → Q σ1 1
set_option maxRecDepth 100000 in
set_option maxHeartbeats 4000000 in
theorem c_X6_await (l : Launch) (Y : Cy) (hD : ∀ σ, va_D Y.2.2.2 (wsOf KC Y.2.1 Y.2.2.1 σ)) {a0 : Int} {σ : St} {Q : St → Int → Prop} (h : f_X6_await a0 σ Q) : ConI l yX6_await cX6_await 2 .boolean (rm0q 0 0) Y KC σ [.inr (.inr 38), .inl a0] Q := con_of (lv := [(0, .inr (.inr 38)), (1, .inl a0)]) (by decide) hD (Nat.le_of_ble_eq_true rfl) rfl (fun X _ ok => by
  have ok : Ok X Y KC cX6_await 2 RX6 (rm0q 0 0) (some .boolean) := ok
  unfold f_X6_await at h
  refine q_aload_n ok dX6_await_0 0 rfl ?_
  refine q_iload_n ok dX6_await_1 1 rfl ?_
  refine q_putI ok fp_X6_77 kC_38 fC_38_1 dX6_await_2 (wq_s (fun σ1 eσ1 => ?_))
  have h := h σ1 eσ1
  refine q_iconst ok dX6_await_5 ?_
  exact q_zret ok dX6_await_6 (by decide) h)
/-! BranchingStory$Reader.isName(I)Z -/
def f_X6_isName (a0 : Int) (σ : St) (Q : St → Int → Prop) : Prop :=
  inR a0 ∧ ((a0 < 65 → Q σ 0) ∧ (¬ a0 < 65 → inR a0 ∧ ((76 < a0 → Q σ 0) ∧ (¬ 76 < a0 → Q σ 1))))
set_option maxRecDepth 100000 in
set_option maxHeartbeats 4000000 in
theorem c_X6_isName (l : Launch) (Y : Cy) (hD : ∀ σ, va_D Y.2.2.2 (wsOf KC Y.2.1 Y.2.2.1 σ)) {a0 : Int} {σ : St} {Q : St → Int → Prop} (h : f_X6_isName a0 σ Q) : ConI l yX6_isName cX6_isName 1 .boolean (rm0q 0 0) Y KC σ [.inl a0] Q := con_of (lv := [(0, .inl a0)]) (by decide) hD (Nat.le_of_ble_eq_true rfl) rfl (fun X _ ok => by
  have ok : Ok X Y KC cX6_isName 1 RX6 (rm0q 0 0) (some .boolean) := ok
  unfold f_X6_isName at h
  refine q_iload_n ok dX6_isName_0 0 rfl ?_
  refine q_bipush ok dX6_isName_1 rfl ?_
  obtain ⟨g1, hT2a, hT2b⟩ := h
  refine q_icmp_lt (tgt := 16) ok dX6_isName_3 (by decide) g1 (by unfold inR; decide) (fun c2 => ?_) (fun c2 => ?_)
  · have h := hT2a c2
    refine q_iconst ok dX6_isName_16 ?_
    exact q_zret ok dX6_isName_17 (by decide) h
  · have h := hT2b c2
    refine q_iload_n ok dX6_isName_6 0 rfl ?_
    refine q_bipush ok dX6_isName_7 rfl ?_
    obtain ⟨g2, hT1a, hT1b⟩ := h
    refine q_icmp_gt (tgt := 16) ok dX6_isName_9 (by decide) g2 (by unfold inR; decide) (fun c1 => ?_) (fun c1 => ?_)
    · have h := hT1a c1
      refine q_iconst ok dX6_isName_16 ?_
      exact q_zret ok dX6_isName_17 (by decide) h
    · have h := hT1b c1
      refine q_iconst ok dX6_isName_12 ?_
      refine q_goto (tgt := 17) ok dX6_isName_13 (by decide) ?_
      exact q_zret ok dX6_isName_17 (by decide) h)
/-! BranchingStory$Reader.takesNodeName(I)Z -/
def f_X6_takesNodeName (a0 : Int) (σ : St) (Q : St → Int → Prop) : Prop :=
  f_X6_isName a0 σ (fun σ1 r1 => inR r1 ∧ ((r1 = 0 → Q σ1 0) ∧ (¬ r1 = 0 → 0 ≤ (a0 - 65) ∧ (a0 - 65) < 12 ∧ inR (σ1 39 (a0 - 65).toNat) ∧ (((σ1 39 (a0 - 65).toNat) = (-1) → isS ((σ1 38 0).toNat) ∧ ∀ x1 : Int, x1 = (σ1 ((σ1 38 0).toNat) 10) → inR x1 ∧ ((x1 < 0 → Q σ1 0) ∧ (¬ x1 < 0 → inR x1 ∧ ((x1 < 12 → 0 ≤ (a0 - 65) ∧ (a0 - 65) < 12 ∧ ∀ σ2 : St, σ2 = sset σ1 39 (a0 - 65).toNat x1 → isS ((σ2 38 0).toNat) ∧ 0 ≤ x1 ∧ x1 < 12 ∧ ∀ σ3 : St, σ3 = sset σ2 ((σ2 38 0).toNat + 13) x1.toNat a0 → isS ((σ3 38 0).toNat) ∧ ∀ σ4 : St, σ4 = sset σ3 ((σ3 38 0).toNat) 10 ((σ3 ((σ3 38 0).toNat) 10) + 1) → ∀ σ5 : St, σ5 = sset σ4 38 2 1 → ∀ σ6 : St, σ6 = sset σ5 40 1 (-1) → f_X6_await 2 σ6 (fun σ7 r2 => (r2 = 0 ∨ r2 = 1) ∧ Q σ7 r2)) ∧ (¬ x1 < 12 → Q σ1 0))))) ∧ (¬ (σ1 39 (a0 - 65).toNat) = (-1) → Q σ1 0)))))
set_option maxRecDepth 100000 in
set_option maxHeartbeats 4000000 in
theorem c_X6_takesNodeName (l : Launch) (Y : Cy) (hD : ∀ σ, va_D Y.2.2.2 (wsOf KC Y.2.1 Y.2.2.1 σ)) {a0 : Int} {σ : St} {Q : St → Int → Prop} (h : f_X6_takesNodeName a0 σ Q) : ConI l yX6_takesNodeName cX6_takesNodeName 3 .boolean (rm0q 1 21) Y KC σ [.inr (.inr 38), .inl a0] Q := con_of (lv := [(0, .inr (.inr 38)), (1, .inl a0)]) (by decide) hD (Nat.le_of_ble_eq_true rfl) rfl (fun X _ ok => by
  have ok : Ok X Y KC cX6_takesNodeName 3 RX6 (rm0q 1 21) (some .boolean) := ok
  unfold f_X6_takesNodeName at h
  refine q_iload_n ok dX6_takesNodeName_0 1 rfl ?_
  refine q_callSI (st := []) ok cs_X6_131 (c_X6_isName X.2.1 Y ok.2.2.2.2.2.2.2.2 h) ⟨rfl, rfl, Nat.le_of_ble_eq_true rfl, Nat.le_of_ble_eq_true rfl⟩ rfl rfl (Nat.le_of_ble_eq_true rfl) dX6_takesNodeName_1 (fun σ1 r1 h => ?_)
  obtain ⟨g1, hT4a, hT4b⟩ := h
  refine q_if_eq (tgt := 20) ok dX6_takesNodeName_4 (by decide) g1 (fun c4 => ?_) (fun c4 => ?_)
  · have h := hT4a c4
    refine q_iconst ok dX6_takesNodeName_20 ?_
    exact q_zret ok dX6_takesNodeName_21 (by decide) h
  · have h := hT4b c4
    refine q_aload_n ok dX6_takesNodeName_7 0 rfl ?_
    refine q_getC ok fl_X6_9 kC_38 fC_38_9 dX6_takesNodeName_8 ?_
    refine q_iload_n ok dX6_takesNodeName_11 1 rfl ?_
    refine q_bipush ok dX6_takesNodeName_12 rfl ?_
    refine q_isub ok dX6_takesNodeName_14 ?_
    obtain ⟨g2, g3, h⟩ := h
    refine q_iald ok kC_ok kC_39 g2 g3 dX6_takesNodeName_15 ?_
    refine q_iconst ok dX6_takesNodeName_16 ?_
    obtain ⟨g4, hT3a, hT3b⟩ := h
    refine q_icmp_eq (tgt := 22) ok dX6_takesNodeName_17 (by decide) g4 (by unfold inR; decide) (fun c3 => ?_) (fun c3 => ?_)
    · have h := hT3a c3
      refine q_aload_n ok dX6_takesNodeName_22 0 rfl ?_
      refine q_getR ok fl_X6_28 kC_38 fC_38_0 dX6_takesNodeName_23 ?_
      obtain ⟨g5, h⟩ := h
      refine q_getI ok fl_X6_61 (kX7_0 g5) (fIX7_10 ((σ1 38 0).toNat)) dX6_takesNodeName_26 ?_
      refine wq_i (fun x1 ex1 => ?_)
      have h := h x1 ex1
      refine q_istore_n (lv' := [(2, .inl x1), (0, .inr (.inr 38)), (1, .inl a0)]) ok dX6_takesNodeName_29 (by decide) rfl ?_
      refine q_iload_n ok dX6_takesNodeName_30 0 rfl ?_
      obtain ⟨g6, hT2a, hT2b⟩ := h
      refine q_if_lt (tgt := 40) ok dX6_takesNodeName_31 (by decide) g6 (fun c2 => ?_) (fun c2 => ?_)
      · have h := hT2a c2
        refine q_iconst ok dX6_takesNodeName_40 ?_
        exact q_zret ok dX6_takesNodeName_41 (by decide) h
      · have h := hT2b c2
        refine q_iload_n ok dX6_takesNodeName_34 0 rfl ?_
        refine q_bipush ok dX6_takesNodeName_35 rfl ?_
        obtain ⟨g7, hT1a, hT1b⟩ := h
        refine q_icmp_lt (tgt := 42) ok dX6_takesNodeName_37 (by decide) g7 (by unfold inR; decide) (fun c1 => ?_) (fun c1 => ?_)
        · have h := hT1a c1
          refine q_aload_n ok dX6_takesNodeName_42 1 rfl ?_
          refine q_getC ok fl_X6_9 kC_38 fC_38_9 dX6_takesNodeName_43 ?_
          refine q_iload_n ok dX6_takesNodeName_46 2 rfl ?_
          refine q_bipush ok dX6_takesNodeName_47 rfl ?_
          refine q_isub ok dX6_takesNodeName_49 ?_
          refine q_iload_n ok dX6_takesNodeName_50 0 rfl ?_
          obtain ⟨g8, g9, h⟩ := h
          refine q_iast ok kC_ok kC_39 g8 g9 dX6_takesNodeName_51 (wq_s (fun σ2 eσ2 => ?_))
          have h := h σ2 eσ2
          refine q_aload_n ok dX6_takesNodeName_52 1 rfl ?_
          refine q_getR ok fl_X6_28 kC_38 fC_38_0 dX6_takesNodeName_53 ?_
          obtain ⟨g10, h⟩ := h
          refine q_getC ok fl_X6_140 (kX7_0 g10) (fIX7_11 ((σ2 38 0).toNat)) dX6_takesNodeName_56 ?_
          refine q_iload_n ok dX6_takesNodeName_59 0 rfl ?_
          refine q_iload_n ok dX6_takesNodeName_60 2 rfl ?_
          obtain ⟨g11, g12, h⟩ := h
          refine q_iast ok kC_ok (kX7_13 g10) g11 g12 dX6_takesNodeName_61 (wq_s (fun σ3 eσ3 => ?_))
          have h := h σ3 eσ3
          refine q_aload_n ok dX6_takesNodeName_62 1 rfl ?_
          refine q_getR ok fl_X6_28 kC_38 fC_38_0 dX6_takesNodeName_63 ?_
          refine q_dup ok dX6_takesNodeName_66 rfl ?_
          obtain ⟨g13, h⟩ := h
          refine q_getI ok fl_X6_61 (kX7_0 g13) (fIX7_10 ((σ3 38 0).toNat)) dX6_takesNodeName_67 ?_
          refine q_iconst ok dX6_takesNodeName_70 ?_
          refine q_iadd ok dX6_takesNodeName_71 ?_
          refine q_putI ok fp_X6_61 (kX7_0 g13) (fIX7_10 ((σ3 38 0).toNat)) dX6_takesNodeName_72 (wq_s (fun σ4 eσ4 => ?_))
          have h := h σ4 eσ4
          refine q_aload_n ok dX6_takesNodeName_75 1 rfl ?_
          refine q_iconst ok dX6_takesNodeName_76 ?_
          refine q_putI ok fp_X6_80 kC_38 fC_38_2 dX6_takesNodeName_77 (wq_s (fun σ5 eσ5 => ?_))
          have h := h σ5 eσ5
          refine q_aload_n ok dX6_takesNodeName_80 1 rfl ?_
          refine q_getC ok fl_X6_15 kC_38 fC_38_10 dX6_takesNodeName_81 ?_
          refine q_iconst ok dX6_takesNodeName_84 ?_
          refine q_iconst ok dX6_takesNodeName_85 ?_
          refine q_iast ok kC_ok kC_40 (by decide) (by decide) dX6_takesNodeName_86 (wq_s (fun σ6 eσ6 => ?_))
          have h := h σ6 eσ6
          refine q_aload_n ok dX6_takesNodeName_87 1 rfl ?_
          refine q_iconst ok dX6_takesNodeName_88 ?_
          refine q_callVI (st := []) ok cs_X6_100 kC_38 rfl (c_X6_await X.2.1 Y ok.2.2.2.2.2.2.2.2 h) ⟨rfl, rfl, Nat.le_of_ble_eq_true rfl, Nat.le_of_ble_eq_true rfl⟩ rfl rfl (Nat.le_of_ble_eq_true rfl) dX6_takesNodeName_89 (fun σ7 r2 h => ?_)
          exact q_zret ok dX6_takesNodeName_92 h.1 h.2
        · have h := hT1b c1
          refine q_iconst ok dX6_takesNodeName_40 ?_
          exact q_zret ok dX6_takesNodeName_41 (by decide) h
    · have h := hT3b c3
      refine q_iconst ok dX6_takesNodeName_20 ?_
      exact q_zret ok dX6_takesNodeName_21 (by decide) h)
/-! BranchingStory$Reader.takesHubSign()Z -/
def f_X6_takesHubSign (σ : St) (Q : St → Int → Prop) : Prop :=
  isS ((σ 38 0).toNat) ∧ ∀ σ1 : St, σ1 = sset σ ((σ 38 0).toNat) 13 (ior32 (σ ((σ 38 0).toNat) 13) (ishl32 1 ((σ ((σ 38 0).toNat) 10) - 1))) → f_X6_await 3 σ1 (fun σ2 r1 => (r1 = 0 ∨ r1 = 1) ∧ Q σ2 r1)
set_option maxRecDepth 100000 in
set_option maxHeartbeats 4000000 in
theorem c_X6_takesHubSign (l : Launch) (Y : Cy) (hD : ∀ σ, va_D Y.2.2.2 (wsOf KC Y.2.1 Y.2.2.1 σ)) {σ : St} {Q : St → Int → Prop} (h : f_X6_takesHubSign  σ Q) : ConI l yX6_takesHubSign cX6_takesHubSign 1 .boolean (rm0q 1 21) Y KC σ [.inr (.inr 38)] Q := con_of (lv := [(0, .inr (.inr 38))]) (by decide) hD (Nat.le_of_ble_eq_true rfl) rfl (fun X _ ok => by
  have ok : Ok X Y KC cX6_takesHubSign 1 RX6 (rm0q 1 21) (some .boolean) := ok
  unfold f_X6_takesHubSign at h
  refine q_aload_n ok dX6_takesHubSign_0 0 rfl ?_
  refine q_getR ok fl_X6_28 kC_38 fC_38_0 dX6_takesHubSign_1 ?_
  refine q_dup ok dX6_takesHubSign_4 rfl ?_
  obtain ⟨g1, h⟩ := h
  refine q_getI ok fl_X6_143 (kX7_0 g1) (fIX7_13 ((σ 38 0).toNat)) dX6_takesHubSign_5 ?_
  refine q_iconst ok dX6_takesHubSign_8 ?_
  refine q_aload_n ok dX6_takesHubSign_9 0 rfl ?_
  refine q_getR ok fl_X6_28 kC_38 fC_38_0 dX6_takesHubSign_10 ?_
  refine q_getI ok fl_X6_61 (kX7_0 g1) (fIX7_10 ((σ 38 0).toNat)) dX6_takesHubSign_13 ?_
  refine q_iconst ok dX6_takesHubSign_16 ?_
  refine q_isub ok dX6_takesHubSign_17 ?_
  refine q_ishl ok dX6_takesHubSign_18 ?_
  refine q_ior ok dX6_takesHubSign_19 ?_
  refine q_putI ok fp_X6_143 (kX7_0 g1) (fIX7_13 ((σ 38 0).toNat)) dX6_takesHubSign_20 (wq_s (fun σ1 eσ1 => ?_))
  have h := h σ1 eσ1
  refine q_aload_n ok dX6_takesHubSign_23 0 rfl ?_
  refine q_iconst ok dX6_takesHubSign_24 ?_
  refine q_callVI (st := []) ok cs_X6_100 kC_38 rfl (c_X6_await X.2.1 Y ok.2.2.2.2.2.2.2.2 h) ⟨rfl, rfl, Nat.le_of_ble_eq_true rfl, Nat.le_of_ble_eq_true rfl⟩ rfl rfl (Nat.le_of_ble_eq_true rfl) dX6_takesHubSign_25 (fun σ2 r1 h => ?_)
  exact q_zret ok dX6_takesHubSign_28 h.1 h.2)
/-! BranchingStory$Reader.beginsStatement(II)Z -/
def f_X6_beginsStatement (a0 : Int) (a1 : Int) (σ : St) (Q : St → Int → Prop) : Prop :=
  ∀ σ1 : St, σ1 = sset σ 38 7 a0 → f_X6_await a1 σ1 (fun σ2 r1 => (r1 = 0 ∨ r1 = 1) ∧ Q σ2 r1)
set_option maxRecDepth 100000 in
set_option maxHeartbeats 4000000 in
theorem c_X6_beginsStatement (l : Launch) (Y : Cy) (hD : ∀ σ, va_D Y.2.2.2 (wsOf KC Y.2.1 Y.2.2.1 σ)) {a0 : Int} {a1 : Int} {σ : St} {Q : St → Int → Prop} (h : f_X6_beginsStatement a0 a1 σ Q) : ConI l yX6_beginsStatement cX6_beginsStatement 3 .boolean (rm0q 1 21) Y KC σ [.inr (.inr 38), .inl a0, .inl a1] Q := con_of (lv := [(0, .inr (.inr 38)), (1, .inl a0), (2, .inl a1)]) (by decide) hD (Nat.le_of_ble_eq_true rfl) rfl (fun X _ ok => by
  have ok : Ok X Y KC cX6_beginsStatement 3 RX6 (rm0q 1 21) (some .boolean) := ok
  unfold f_X6_beginsStatement at h
  refine q_aload_n ok dX6_beginsStatement_0 0 rfl ?_
  refine q_iload_n ok dX6_beginsStatement_1 1 rfl ?_
  refine q_putI ok fp_X6_119 kC_38 fC_38_7 dX6_beginsStatement_2 (wq_s (fun σ1 eσ1 => ?_))
  have h := h σ1 eσ1
  refine q_aload_n ok dX6_beginsStatement_5 0 rfl ?_
  refine q_iload_n ok dX6_beginsStatement_6 2 rfl ?_
  refine q_callVI (st := []) ok cs_X6_100 kC_38 rfl (c_X6_await X.2.1 Y ok.2.2.2.2.2.2.2.2 h) ⟨rfl, rfl, Nat.le_of_ble_eq_true rfl, Nat.le_of_ble_eq_true rfl⟩ rfl rfl (Nat.le_of_ble_eq_true rfl) dX6_beginsStatement_7 (fun σ2 r1 h => ?_)
  exact q_zret ok dX6_beginsStatement_10 h.1 h.2)
/-! BranchingStory$Reader.add(III)Z -/
def f_X6_add_J182 (Q : St → Int → Prop) (σ : St) (v4 : Int) : Prop :=
  f_X9_putEntry 40 (σ 38 2) v4 σ (fun σ1 => f_X6_await 3 σ1 (fun σ2 r1 => (r1 = 0 ∨ r1 = 1) ∧ Q σ2 r1))
def f_X6_add_J78 (Q : St → Int → Prop) (σ : St) (v4 : Int) (v5 : Int) (v6 : Int) (s1 : Int) (s2 : Int) : Prop :=
  f_X9_putEntry 42 s1 s2 σ (fun σ1 => inR v6 ∧ ((v6 = (-1) → inR v5 ∧ ((¬ v5 = (-1) → f_JM_min (σ1 38 2) 6 σ1 (fun σ2 r1 => 0 ≤ r1 ∧ r1 < 7 ∧ inR (σ2 41 r1.toNat) ∧ (((σ2 41 r1.toNat) = 0 → isS ((σ2 38 0).toNat) ∧ f_X9_putEntry ((σ2 38 0).toNat + 5) v5 v4 σ2 (fun σ3 => f_X6_add_J182 Q σ3 v4)) ∧ (¬ (σ2 41 r1.toNat) = 0 → isS ((σ2 38 0).toNat) ∧ f_X9_putEntry ((σ2 38 0).toNat + 6) v5 v4 σ2 (fun σ4 => f_X6_add_J182 Q σ4 v4))))) ∧ (v5 = (-1) → isS ((σ1 38 0).toNat) ∧ f_X9_putEntry ((σ1 38 0).toNat + 14) ((σ1 ((σ1 38 0).toNat) 10) - 1) v4 σ1 (fun σ5 => f_X6_add_J182 Q σ5 v4)))) ∧ (¬ v6 = (-1) → isS ((σ1 38 0).toNat) ∧ f_X9_putEntry ((σ1 38 0).toNat + 4) v6 v4 σ1 (fun σ6 => f_X6_add_J182 Q σ6 v4))))
def f_X6_add_J37 (Q : St → Int → Prop) (σ : St) (v4 : Int) (s0 : Int) : Prop :=
  f_X9_entryOf 40 (σ 38 2) σ (fun σ1 r1 => isS ((σ1 38 0).toNat) ∧ f_X7_isOfSort ((σ1 38 0).toNat) s0 6 σ1 (fun σ2 r2 => inR r2 ∧ ((r2 = 0 → f_X6_add_J78 Q σ2 v4 s0 r1 v4 (-1)) ∧ (¬ r2 = 0 → f_X6_add_J78 Q σ2 v4 s0 r1 v4 s0))))
def f_X6_add (a0 : Int) (a1 : Int) (a2 : Int) (σ : St) (Q : St → Int → Prop) : Prop :=
  isS ((σ 38 0).toNat) ∧ f_X7_append ((σ 38 0).toNat) a0 a1 a2 σ (fun σ1 r1 => inR (σ1 38 2) ∧ (((σ1 38 2) ≤ 1 → f_X6_add_J37 Q σ1 r1 (-1)) ∧ (¬ (σ1 38 2) ≤ 1 → f_X9_entryOf 40 ((σ1 38 2) - 1) σ1 (fun σ2 r2 => f_X6_add_J37 Q σ2 r1 r2))))
set_option maxRecDepth 100000 in
set_option maxHeartbeats 4000000 in
theorem w_X6_add_J182 {X : Cx} {Y : Cy} {Q : St → Int → Prop} (ok : Ok X Y KC cX6_add 7 RX6 (rm0q 2 43) (some .boolean)) (σ : St) (v4 : Int) (h : f_X6_add_J182 Q σ v4) : Wq X Y KC 7 (QF X Y (Qiq Y KC Q)) σ 182 [(0, .inr (.inr 38)), (4, .inl v4)] [] := by
  unfold f_X6_add_J182 at h
  refine q_aload_n ok dX6_add_182 0 rfl ?_
  refine q_getC ok fl_X6_15 kC_38 fC_38_10 dX6_add_183 ?_
  refine q_aload_n ok dX6_add_186 0 rfl ?_
  refine q_getI ok fl_X6_80 kC_38 fC_38_2 dX6_add_187 ?_
  refine q_iload ok dX6_add_190 1 rfl ?_
  refine q_callSV (st := []) ok cs_X6_174 (c_X9_putEntry X.2.1 Y ok.2.2.2.2.2.2.2.2 h) ⟨rfl, rfl, Nat.le_of_ble_eq_true rfl, Nat.le_of_ble_eq_true rfl⟩ rfl rfl (Nat.le_of_ble_eq_true rfl) dX6_add_192 (fun σ1 h => ?_)
  refine q_aload_n ok dX6_add_195 0 rfl ?_
  refine q_iconst ok dX6_add_196 ?_
  refine q_callVI (st := []) ok cs_X6_100 kC_38 rfl (c_X6_await X.2.1 Y ok.2.2.2.2.2.2.2.2 h) ⟨rfl, rfl, Nat.le_of_ble_eq_true rfl, Nat.le_of_ble_eq_true rfl⟩ rfl rfl (Nat.le_of_ble_eq_true rfl) dX6_add_197 (fun σ2 r1 h => ?_)
  exact q_zret ok dX6_add_200 h.1 h.2
set_option maxRecDepth 100000 in
set_option maxHeartbeats 4000000 in
theorem w_X6_add_J78 {X : Cx} {Y : Cy} {Q : St → Int → Prop} (ok : Ok X Y KC cX6_add 7 RX6 (rm0q 2 43) (some .boolean)) (σ : St) (v4 : Int) (v5 : Int) (v6 : Int) (s1 : Int) (s2 : Int) (h : f_X6_add_J78 Q σ v4 v5 v6 s1 s2) : Wq X Y KC 7 (QF X Y (Qiq Y KC Q)) σ 78 [(0, .inr (.inr 38)), (4, .inl v4), (5, .inl v5), (6, .inl v6)] [.inl s2, .inl s1, .inr (.inr 42)] := by
  unfold f_X6_add_J78 at h
  refine q_callSV (st := []) ok cs_X6_174 (c_X9_putEntry X.2.1 Y ok.2.2.2.2.2.2.2.2 h) ⟨rfl, rfl, Nat.le_of_ble_eq_true rfl, Nat.le_of_ble_eq_true rfl⟩ rfl rfl (Nat.le_of_ble_eq_true rfl) dX6_add_78 (fun σ1 h => ?_)
  refine q_iload ok dX6_add_81 3 rfl ?_
  refine q_iconst ok dX6_add_83 ?_
  obtain ⟨g1, hT3a, hT3b⟩ := h
  refine q_icmp_eq (tgt := 104) ok dX6_add_84 (by decide) g1 (by unfold inR; decide) (fun c3 => ?_) (fun c3 => ?_)
  · have h := hT3a c3
    refine q_iload ok dX6_add_104 2 rfl ?_
    refine q_iconst ok dX6_add_106 ?_
    obtain ⟨g2, hT2a, hT2b⟩ := h
    refine q_icmp_ne (tgt := 134) ok dX6_add_107 (by decide) g2 (by unfold inR; decide) (fun c2 => ?_) (fun c2 => ?_)
    · have h := hT2a c2
      refine q_aload_n ok dX6_add_134 0 rfl ?_
      refine q_getC ok fl_X6_18 kC_38 fC_38_11 dX6_add_135 ?_
      refine q_aload_n ok dX6_add_138 0 rfl ?_
      refine q_getI ok fl_X6_80 kC_38 fC_38_2 dX6_add_139 ?_
      refine q_bipush ok dX6_add_142 rfl ?_
      refine q_callSI (st := [.inr (.inr 41)]) ok cs_X6_36 (c_JM_min X.2.1 Y ok.2.2.2.2.2.2.2.2 h) ⟨rfl, rfl, Nat.le_of_ble_eq_true rfl, Nat.le_of_ble_eq_true rfl⟩ rfl rfl (Nat.le_of_ble_eq_true rfl) dX6_add_144 (fun σ2 r1 h => ?_)
      obtain ⟨g3, g4, h⟩ := h
      refine q_zald ok kC_ok kC_41 g3 g4 dX6_add_147 ?_
      obtain ⟨g5, hT1a, hT1b⟩ := h
      refine q_if_eq (tgt := 168) ok dX6_add_148 (by decide) g5 (fun c1 => ?_) (fun c1 => ?_)
      · have h := hT1a c1
        refine q_aload_n ok dX6_add_168 0 rfl ?_
        refine q_getR ok fl_X6_28 kC_38 fC_38_0 dX6_add_169 ?_
        obtain ⟨g6, h⟩ := h
        refine q_getC ok fl_X6_238 (kX7_0 g6) (fIX7_5 ((σ2 38 0).toNat)) dX6_add_172 ?_
        refine q_iload ok dX6_add_175 2 rfl ?_
        refine q_iload ok dX6_add_177 1 rfl ?_
        refine q_callSV (st := []) ok cs_X6_174 (c_X9_putEntry X.2.1 Y ok.2.2.2.2.2.2.2.2 h) ⟨rfl, rfl, Nat.le_of_ble_eq_true rfl, Nat.le_of_ble_eq_true rfl⟩ rfl rfl (Nat.le_of_ble_eq_true rfl) dX6_add_179 (fun σ3 h => ?_)
        refine q_sub [0, 1] rfl ?_
        exact w_X6_add_J182 ok σ3 v4 h
      · have h := hT1b c1
        refine q_aload_n ok dX6_add_151 0 rfl ?_
        refine q_getR ok fl_X6_28 kC_38 fC_38_0 dX6_add_152 ?_
        obtain ⟨g7, h⟩ := h
        refine q_getC ok fl_X6_235 (kX7_0 g7) (fIX7_6 ((σ2 38 0).toNat)) dX6_add_155 ?_
        refine q_iload ok dX6_add_158 2 rfl ?_
        refine q_iload ok dX6_add_160 1 rfl ?_
        refine q_callSV (st := []) ok cs_X6_174 (c_X9_putEntry X.2.1 Y ok.2.2.2.2.2.2.2.2 h) ⟨rfl, rfl, Nat.le_of_ble_eq_true rfl, Nat.le_of_ble_eq_true rfl⟩ rfl rfl (Nat.le_of_ble_eq_true rfl) dX6_add_162 (fun σ4 h => ?_)
        refine q_goto (tgt := 182) ok dX6_add_165 (by decide) ?_
        refine q_sub [0, 1] rfl ?_
        exact w_X6_add_J182 ok σ4 v4 h
    · have h := hT2b c2
      refine q_aload_n ok dX6_add_110 0 rfl ?_
      refine q_getR ok fl_X6_28 kC_38 fC_38_0 dX6_add_111 ?_
      obtain ⟨g8, h⟩ := h
      refine q_getC ok fl_X6_232 (kX7_0 g8) (fIX7_12 ((σ1 38 0).toNat)) dX6_add_114 ?_
      refine q_aload_n ok dX6_add_117 0 rfl ?_
      refine q_getR ok fl_X6_28 kC_38 fC_38_0 dX6_add_118 ?_
      refine q_getI ok fl_X6_61 (kX7_0 g8) (fIX7_10 ((σ1 38 0).toNat)) dX6_add_121 ?_
      refine q_iconst ok dX6_add_124 ?_
      refine q_isub ok dX6_add_125 ?_
      refine q_iload ok dX6_add_126 1 rfl ?_
      refine q_callSV (st := []) ok cs_X6_174 (c_X9_putEntry X.2.1 Y ok.2.2.2.2.2.2.2.2 h) ⟨rfl, rfl, Nat.le_of_ble_eq_true rfl, Nat.le_of_ble_eq_true rfl⟩ rfl rfl (Nat.le_of_ble_eq_true rfl) dX6_add_128 (fun σ5 h => ?_)
      refine q_goto (tgt := 182) ok dX6_add_131 (by decide) ?_
      refine q_sub [0, 1] rfl ?_
      exact w_X6_add_J182 ok σ5 v4 h
  · have h := hT3b c3
    refine q_aload_n ok dX6_add_87 0 rfl ?_
    refine q_getR ok fl_X6_28 kC_38 fC_38_0 dX6_add_88 ?_
    obtain ⟨g9, h⟩ := h
    refine q_getC ok fl_X6_229 (kX7_0 g9) (fIX7_4 ((σ1 38 0).toNat)) dX6_add_91 ?_
    refine q_iload ok dX6_add_94 3 rfl ?_
    refine q_iload ok dX6_add_96 1 rfl ?_
    refine q_callSV (st := []) ok cs_X6_174 (c_X9_putEntry X.2.1 Y ok.2.2.2.2.2.2.2.2 h) ⟨rfl, rfl, Nat.le_of_ble_eq_true rfl, Nat.le_of_ble_eq_true rfl⟩ rfl rfl (Nat.le_of_ble_eq_true rfl) dX6_add_98 (fun σ6 h => ?_)
    refine q_goto (tgt := 182) ok dX6_add_101 (by decide) ?_
    refine q_sub [0, 1] rfl ?_
    exact w_X6_add_J182 ok σ6 v4 h
set_option maxRecDepth 100000 in
set_option maxHeartbeats 4000000 in
theorem w_X6_add_J37 {X : Cx} {Y : Cy} {Q : St → Int → Prop} (ok : Ok X Y KC cX6_add 7 RX6 (rm0q 2 43) (some .boolean)) (σ : St) (v4 : Int) (s0 : Int) (h : f_X6_add_J37 Q σ v4 s0) : Wq X Y KC 7 (QF X Y (Qiq Y KC Q)) σ 37 [(0, .inr (.inr 38)), (4, .inl v4)] [.inl s0] := by
  unfold f_X6_add_J37 at h
  refine q_istore (lv' := [(5, .inl s0), (0, .inr (.inr 38)), (4, .inl v4)]) ok dX6_add_37 (by decide) rfl ?_
  refine q_aload_n ok dX6_add_39 1 rfl ?_
  refine q_getC ok fl_X6_15 kC_38 fC_38_10 dX6_add_40 ?_
  refine q_aload_n ok dX6_add_43 1 rfl ?_
  refine q_getI ok fl_X6_80 kC_38 fC_38_2 dX6_add_44 ?_
  refine q_callSI (st := []) ok cs_X6_202 (c_X9_entryOf X.2.1 Y ok.2.2.2.2.2.2.2.2 h) ⟨rfl, rfl, Nat.le_of_ble_eq_true rfl, Nat.le_of_ble_eq_true rfl⟩ rfl rfl (Nat.le_of_ble_eq_true rfl) dX6_add_47 (fun σ1 r1 h => ?_)
  refine q_istore (lv' := [(6, .inl r1), (5, .inl s0), (0, .inr (.inr 38)), (4, .inl v4)]) ok dX6_add_50 (by decide) rfl ?_
  refine q_aload_n ok dX6_add_52 2 rfl ?_
  refine q_getC ok fl_X6_22 kC_38 fC_38_12 dX6_add_53 ?_
  refine q_iload ok dX6_add_56 3 rfl ?_
  refine q_aload_n ok dX6_add_58 2 rfl ?_
  refine q_getR ok fl_X6_28 kC_38 fC_38_0 dX6_add_59 ?_
  refine q_iload ok dX6_add_62 1 rfl ?_
  refine q_bipush ok dX6_add_64 rfl ?_
  obtain ⟨g1, h⟩ := h
  refine q_callVI (st := [.inl v4, .inr (.inr 42)]) ok cs_X6_206 (kX7_0 g1) rfl (c_X7_isOfSort X.2.1 Y ok.2.2.2.2.2.2.2.2 h) ⟨rfl, rfl, Nat.le_of_ble_eq_true rfl, Nat.le_of_ble_eq_true rfl⟩ rfl rfl (Nat.le_of_ble_eq_true rfl) dX6_add_66 (fun σ2 r2 h => ?_)
  obtain ⟨g2, hT1a, hT1b⟩ := h
  refine q_if_eq (tgt := 77) ok dX6_add_69 (by decide) g2 (fun c1 => ?_) (fun c1 => ?_)
  · have h := hT1a c1
    refine q_iconst ok dX6_add_77 ?_
    refine q_sub [2, 3, 1, 0] rfl ?_
    exact w_X6_add_J78 ok σ2 v4 s0 r1 v4 (-1) h
  · have h := hT1b c1
    refine q_iload ok dX6_add_72 1 rfl ?_
    refine q_goto (tgt := 78) ok dX6_add_74 (by decide) ?_
    refine q_sub [2, 3, 1, 0] rfl ?_
    exact w_X6_add_J78 ok σ2 v4 s0 r1 v4 s0 h
set_option maxRecDepth 100000 in
set_option maxHeartbeats 4000000 in
theorem c_X6_add (l : Launch) (Y : Cy) (hD : ∀ σ, va_D Y.2.2.2 (wsOf KC Y.2.1 Y.2.2.1 σ)) {a0 : Int} {a1 : Int} {a2 : Int} {σ : St} {Q : St → Int → Prop} (h : f_X6_add a0 a1 a2 σ Q) : ConI l yX6_add cX6_add 7 .boolean (rm0q 2 43) Y KC σ [.inr (.inr 38), .inl a0, .inl a1, .inl a2] Q := con_of (lv := [(0, .inr (.inr 38)), (1, .inl a0), (2, .inl a1), (3, .inl a2)]) (by decide) hD (Nat.le_of_ble_eq_true rfl) rfl (fun X _ ok => by
  have ok : Ok X Y KC cX6_add 7 RX6 (rm0q 2 43) (some .boolean) := ok
  unfold f_X6_add at h
  refine q_aload_n ok dX6_add_0 0 rfl ?_
  refine q_getR ok fl_X6_28 kC_38 fC_38_0 dX6_add_1 ?_
  refine q_iload_n ok dX6_add_4 1 rfl ?_
  refine q_iload_n ok dX6_add_5 2 rfl ?_
  refine q_iload_n ok dX6_add_6 3 rfl ?_
  obtain ⟨g1, h⟩ := h
  refine q_callVI (st := []) ok cs_X6_226 (kX7_0 g1) rfl (c_X7_append X.2.1 Y ok.2.2.2.2.2.2.2.2 h) ⟨rfl, rfl, Nat.le_of_ble_eq_true rfl, Nat.le_of_ble_eq_true rfl⟩ rfl rfl (Nat.le_of_ble_eq_true rfl) dX6_add_7 (fun σ1 r1 h => ?_)
  refine q_istore (lv' := [(4, .inl r1), (0, .inr (.inr 38)), (1, .inl a0), (2, .inl a1), (3, .inl a2)]) ok dX6_add_10 (by decide) rfl ?_
  refine q_aload_n ok dX6_add_12 1 rfl ?_
  refine q_getI ok fl_X6_80 kC_38 fC_38_2 dX6_add_13 ?_
  refine q_iconst ok dX6_add_16 ?_
  obtain ⟨g2, hT1a, hT1b⟩ := h
  refine q_icmp_le (tgt := 36) ok dX6_add_17 (by decide) g2 (by unfold inR; decide) (fun c1 => ?_) (fun c1 => ?_)
  · have h := hT1a c1
    refine q_iconst ok dX6_add_36 ?_
    refine q_sub [1, 0] rfl ?_
    exact w_X6_add_J37 ok σ1 r1 (-1) h
  · have h := hT1b c1
    refine q_aload_n ok dX6_add_20 1 rfl ?_
    refine q_getC ok fl_X6_15 kC_38 fC_38_10 dX6_add_21 ?_
    refine q_aload_n ok dX6_add_24 1 rfl ?_
    refine q_getI ok fl_X6_80 kC_38 fC_38_2 dX6_add_25 ?_
    refine q_iconst ok dX6_add_28 ?_
    refine q_isub ok dX6_add_29 ?_
    refine q_callSI (st := []) ok cs_X6_202 (c_X9_entryOf X.2.1 Y ok.2.2.2.2.2.2.2.2 h) ⟨rfl, rfl, Nat.le_of_ble_eq_true rfl, Nat.le_of_ble_eq_true rfl⟩ rfl rfl (Nat.le_of_ble_eq_true rfl) dX6_add_30 (fun σ2 r2 h => ?_)
    refine q_goto (tgt := 37) ok dX6_add_33 (by decide) ?_
    refine q_sub [1, 0] rfl ?_
    exact w_X6_add_J37 ok σ2 r1 r2 h)
/-! BranchingStory$Reader.beginsTest()Z -/
def f_X6_beginsTest (σ : St) (Q : St → Int → Prop) : Prop :=
  isS ((σ 38 0).toNat) ∧ inR (σ ((σ 38 0).toNat) 18) ∧ (((σ ((σ 38 0).toNat) 18) < 16 → f_X6_add 6 (σ ((σ 38 0).toNat) 18) 0 σ (fun σ1 r1 => isS ((σ1 38 0).toNat) ∧ ∀ σ2 : St, σ2 = sset σ1 ((σ1 38 0).toNat) 18 ((σ1 ((σ1 38 0).toNat) 18) + 1) → f_X6_await 8 σ2 (fun σ3 r2 => (r2 = 0 ∨ r2 = 1) ∧ Q σ3 r2))) ∧ (¬ (σ ((σ 38 0).toNat) 18) < 16 → Q σ 0))
set_option maxRecDepth 100000 in
set_option maxHeartbeats 4000000 in
theorem c_X6_beginsTest (l : Launch) (Y : Cy) (hD : ∀ σ, va_D Y.2.2.2 (wsOf KC Y.2.1 Y.2.2.1 σ)) {σ : St} {Q : St → Int → Prop} (h : f_X6_beginsTest  σ Q) : ConI l yX6_beginsTest cX6_beginsTest 1 .boolean (rm0q 3 69) Y KC σ [.inr (.inr 38)] Q := con_of (lv := [(0, .inr (.inr 38))]) (by decide) hD (Nat.le_of_ble_eq_true rfl) rfl (fun X _ ok => by
  have ok : Ok X Y KC cX6_beginsTest 1 RX6 (rm0q 3 69) (some .boolean) := ok
  unfold f_X6_beginsTest at h
  refine q_aload_n ok dX6_beginsTest_0 0 rfl ?_
  refine q_getR ok fl_X6_28 kC_38 fC_38_0 dX6_beginsTest_1 ?_
  obtain ⟨g1, h⟩ := h
  refine q_getI ok fl_X6_178 (kX7_0 g1) (fIX7_18 ((σ 38 0).toNat)) dX6_beginsTest_4 ?_
  refine q_bipush ok dX6_beginsTest_7 rfl ?_
  obtain ⟨g2, hT1a, hT1b⟩ := h
  refine q_icmp_lt (tgt := 14) ok dX6_beginsTest_9 (by decide) g2 (by unfold inR; decide) (fun c1 => ?_) (fun c1 => ?_)
  · have h := hT1a c1
    refine q_aload_n ok dX6_beginsTest_14 0 rfl ?_
    refine q_bipush ok dX6_beginsTest_15 rfl ?_
    refine q_aload_n ok dX6_beginsTest_17 0 rfl ?_
    refine q_getR ok fl_X6_28 kC_38 fC_38_0 dX6_beginsTest_18 ?_
    refine q_getI ok fl_X6_178 (kX7_0 g1) (fIX7_18 ((σ 38 0).toNat)) dX6_beginsTest_21 ?_
    refine q_iconst ok dX6_beginsTest_24 ?_
    refine q_callVI (st := []) ok cs_X6_66 kC_38 rfl (c_X6_add X.2.1 Y ok.2.2.2.2.2.2.2.2 h) ⟨rfl, rfl, Nat.le_of_ble_eq_true rfl, Nat.le_of_ble_eq_true rfl⟩ rfl rfl (Nat.le_of_ble_eq_true rfl) dX6_beginsTest_25 (fun σ1 r1 h => ?_)
    refine q_pop ok dX6_beginsTest_28 rfl ?_
    refine q_aload_n ok dX6_beginsTest_29 0 rfl ?_
    refine q_getR ok fl_X6_28 kC_38 fC_38_0 dX6_beginsTest_30 ?_
    refine q_dup ok dX6_beginsTest_33 rfl ?_
    obtain ⟨g3, h⟩ := h
    refine q_getI ok fl_X6_178 (kX7_0 g3) (fIX7_18 ((σ1 38 0).toNat)) dX6_beginsTest_34 ?_
    refine q_iconst ok dX6_beginsTest_37 ?_
    refine q_iadd ok dX6_beginsTest_38 ?_
    refine q_putI ok fp_X6_178 (kX7_0 g3) (fIX7_18 ((σ1 38 0).toNat)) dX6_beginsTest_39 (wq_s (fun σ2 eσ2 => ?_))
    have h := h σ2 eσ2
    refine q_aload_n ok dX6_beginsTest_42 0 rfl ?_
    refine q_bipush ok dX6_beginsTest_43 rfl ?_
    refine q_callVI (st := []) ok cs_X6_100 kC_38 rfl (c_X6_await X.2.1 Y ok.2.2.2.2.2.2.2.2 h) ⟨rfl, rfl, Nat.le_of_ble_eq_true rfl, Nat.le_of_ble_eq_true rfl⟩ rfl rfl (Nat.le_of_ble_eq_true rfl) dX6_beginsTest_45 (fun σ3 r2 h => ?_)
    exact q_zret ok dX6_beginsTest_48 h.1 h.2
  · have h := hT1b c1
    refine q_iconst ok dX6_beginsTest_12 ?_
    exact q_zret ok dX6_beginsTest_13 (by decide) h)
/-! BranchingStory$Reader.beginsChoice()Z -/
def f_X6_beginsChoice (σ : St) (Q : St → Int → Prop) : Prop :=
  isS ((σ 38 0).toNat) ∧ ∀ x1 : Int, x1 = (σ ((σ 38 0).toNat) 14) → inR x1 ∧ ((x1 < 0 → Q σ 0) ∧ (¬ x1 < 0 → inR x1 ∧ ((x1 < 16 → f_X6_add 7 x1 0 σ (fun σ1 r1 => isS ((σ1 38 0).toNat) ∧ 0 ≤ x1 ∧ x1 < 16 ∧ ∀ σ2 : St, σ2 = sset σ1 ((σ1 38 0).toNat + 16) x1.toNat ((σ1 ((σ1 38 0).toNat) 10) - 1) → isS ((σ2 38 0).toNat) ∧ ∀ σ3 : St, σ3 = sset σ2 ((σ2 38 0).toNat) 14 ((σ2 ((σ2 38 0).toNat) 14) + 1) → f_X6_await 13 σ3 (fun σ4 r2 => (r2 = 0 ∨ r2 = 1) ∧ Q σ4 r2))) ∧ (¬ x1 < 16 → Q σ 0))))
set_option maxRecDepth 100000 in
set_option maxHeartbeats 4000000 in
theorem c_X6_beginsChoice (l : Launch) (Y : Cy) (hD : ∀ σ, va_D Y.2.2.2 (wsOf KC Y.2.1 Y.2.2.1 σ)) {σ : St} {Q : St → Int → Prop} (h : f_X6_beginsChoice  σ Q) : ConI l yX6_beginsChoice cX6_beginsChoice 2 .boolean (rm0q 3 69) Y KC σ [.inr (.inr 38)] Q := con_of (lv := [(0, .inr (.inr 38))]) (by decide) hD (Nat.le_of_ble_eq_true rfl) rfl (fun X _ ok => by
  have ok : Ok X Y KC cX6_beginsChoice 2 RX6 (rm0q 3 69) (some .boolean) := ok
  unfold f_X6_beginsChoice at h
  refine q_aload_n ok dX6_beginsChoice_0 0 rfl ?_
  refine q_getR ok fl_X6_28 kC_38 fC_38_0 dX6_beginsChoice_1 ?_
  obtain ⟨g1, h⟩ := h
  refine q_getI ok fl_X6_181 (kX7_0 g1) (fIX7_14 ((σ 38 0).toNat)) dX6_beginsChoice_4 ?_
  refine wq_i (fun x1 ex1 => ?_)
  have h := h x1 ex1
  refine q_istore_n (lv' := [(1, .inl x1), (0, .inr (.inr 38))]) ok dX6_beginsChoice_7 (by decide) rfl ?_
  refine q_iload_n ok dX6_beginsChoice_8 0 rfl ?_
  obtain ⟨g2, hT2a, hT2b⟩ := h
  refine q_if_lt (tgt := 18) ok dX6_beginsChoice_9 (by decide) g2 (fun c2 => ?_) (fun c2 => ?_)
  · have h := hT2a c2
    refine q_iconst ok dX6_beginsChoice_18 ?_
    exact q_zret ok dX6_beginsChoice_19 (by decide) h
  · have h := hT2b c2
    refine q_iload_n ok dX6_beginsChoice_12 0 rfl ?_
    refine q_bipush ok dX6_beginsChoice_13 rfl ?_
    obtain ⟨g3, hT1a, hT1b⟩ := h
    refine q_icmp_lt (tgt := 20) ok dX6_beginsChoice_15 (by decide) g3 (by unfold inR; decide) (fun c1 => ?_) (fun c1 => ?_)
    · have h := hT1a c1
      refine q_aload_n ok dX6_beginsChoice_20 1 rfl ?_
      refine q_bipush ok dX6_beginsChoice_21 rfl ?_
      refine q_iload_n ok dX6_beginsChoice_23 0 rfl ?_
      refine q_iconst ok dX6_beginsChoice_24 ?_
      refine q_callVI (st := []) ok cs_X6_66 kC_38 rfl (c_X6_add X.2.1 Y ok.2.2.2.2.2.2.2.2 h) ⟨rfl, rfl, Nat.le_of_ble_eq_true rfl, Nat.le_of_ble_eq_true rfl⟩ rfl rfl (Nat.le_of_ble_eq_true rfl) dX6_beginsChoice_25 (fun σ1 r1 h => ?_)
      refine q_pop ok dX6_beginsChoice_28 rfl ?_
      refine q_aload_n ok dX6_beginsChoice_29 1 rfl ?_
      refine q_getR ok fl_X6_28 kC_38 fC_38_0 dX6_beginsChoice_30 ?_
      obtain ⟨g4, h⟩ := h
      refine q_getC ok fl_X6_184 (kX7_0 g4) (fIX7_16 ((σ1 38 0).toNat)) dX6_beginsChoice_33 ?_
      refine q_iload_n ok dX6_beginsChoice_36 0 rfl ?_
      refine q_aload_n ok dX6_beginsChoice_37 1 rfl ?_
      refine q_getR ok fl_X6_28 kC_38 fC_38_0 dX6_beginsChoice_38 ?_
      refine q_getI ok fl_X6_61 (kX7_0 g4) (fIX7_10 ((σ1 38 0).toNat)) dX6_beginsChoice_41 ?_
      refine q_iconst ok dX6_beginsChoice_44 ?_
      refine q_isub ok dX6_beginsChoice_45 ?_
      obtain ⟨g5, g6, h⟩ := h
      refine q_iast ok kC_ok (kX7_16 g4) g5 g6 dX6_beginsChoice_46 (wq_s (fun σ2 eσ2 => ?_))
      have h := h σ2 eσ2
      refine q_aload_n ok dX6_beginsChoice_47 1 rfl ?_
      refine q_getR ok fl_X6_28 kC_38 fC_38_0 dX6_beginsChoice_48 ?_
      refine q_dup ok dX6_beginsChoice_51 rfl ?_
      obtain ⟨g7, h⟩ := h
      refine q_getI ok fl_X6_181 (kX7_0 g7) (fIX7_14 ((σ2 38 0).toNat)) dX6_beginsChoice_52 ?_
      refine q_iconst ok dX6_beginsChoice_55 ?_
      refine q_iadd ok dX6_beginsChoice_56 ?_
      refine q_putI ok fp_X6_181 (kX7_0 g7) (fIX7_14 ((σ2 38 0).toNat)) dX6_beginsChoice_57 (wq_s (fun σ3 eσ3 => ?_))
      have h := h σ3 eσ3
      refine q_aload_n ok dX6_beginsChoice_60 1 rfl ?_
      refine q_bipush ok dX6_beginsChoice_61 rfl ?_
      refine q_callVI (st := []) ok cs_X6_100 kC_38 rfl (c_X6_await X.2.1 Y ok.2.2.2.2.2.2.2.2 h) ⟨rfl, rfl, Nat.le_of_ble_eq_true rfl, Nat.le_of_ble_eq_true rfl⟩ rfl rfl (Nat.le_of_ble_eq_true rfl) dX6_beginsChoice_63 (fun σ4 r2 h => ?_)
      exact q_zret ok dX6_beginsChoice_66 h.1 h.2
    · have h := hT1b c1
      refine q_iconst ok dX6_beginsChoice_18 ?_
      exact q_zret ok dX6_beginsChoice_19 (by decide) h)
/-! BranchingStory$Reader.closesBlock()Z -/
def f_X6_closesBlock_J107 (Q : St → Int → Prop) (σ : St) (s1 : Int) : Prop :=
  f_X6_await s1 σ (fun σ1 r1 => (r1 = 0 ∨ r1 = 1) ∧ Q σ1 r1)
def f_X6_closesBlock (σ : St) (Q : St → Int → Prop) : Prop :=
  inR (σ 38 2) ∧ (((σ 38 2) ≤ 1 → Q σ 0) ∧ (¬ (σ 38 2) ≤ 1 → inR (σ 38 2) ∧ (((σ 38 2) ≤ 6 → 0 ≤ ((σ 38 2) - 1) ∧ ((σ 38 2) - 1) < 7 ∧ ∀ x1 : Int, x1 = (σ 40 ((σ 38 2) - 1).toNat) → isS ((σ 38 0).toNat) ∧ f_X7_isOfSort ((σ 38 0).toNat) x1 7 σ (fun σ1 r1 => inR r1 ∧ ((r1 = 0 → 0 ≤ (σ1 38 2) ∧ (σ1 38 2) < 7 ∧ ∀ x2 : Int, x2 = (σ1 41 (σ1 38 2).toNat) → ∀ σ2 : St, σ2 = sset σ1 38 2 ((σ1 38 2) - 1) → inR x2 ∧ ((x2 = 0 → f_X6_closesBlock_J107 Q σ2 4) ∧ (¬ x2 = 0 → f_X6_closesBlock_J107 Q σ2 3))) ∧ (¬ r1 = 0 → isS ((σ1 38 0).toNat) ∧ 0 ≤ x1 ∧ x1 < 400 ∧ f_X6_add 12 (σ1 ((σ1 38 0).toNat + 2) x1.toNat) 0 σ1 (fun σ3 r2 => ∀ σ4 : St, σ4 = sset σ3 38 2 ((σ3 38 2) - 1) → f_X6_await 3 σ4 (fun σ5 r3 => (r3 = 0 ∨ r3 = 1) ∧ Q σ5 r3)))))) ∧ (¬ (σ 38 2) ≤ 6 → Q σ 0))))
set_option maxRecDepth 100000 in
set_option maxHeartbeats 4000000 in
theorem w_X6_closesBlock_J107 {X : Cx} {Y : Cy} {Q : St → Int → Prop} (ok : Ok X Y KC cX6_closesBlock 3 RX6 (rm0q 3 69) (some .boolean)) (σ : St) (s1 : Int) (h : f_X6_closesBlock_J107 Q σ s1) : Wq X Y KC 3 (QF X Y (Qiq Y KC Q)) σ 107 [] [.inl s1, .inr (.inr 38)] := by
  unfold f_X6_closesBlock_J107 at h
  refine q_callVI (st := []) ok cs_X6_100 kC_38 rfl (c_X6_await X.2.1 Y ok.2.2.2.2.2.2.2.2 h) ⟨rfl, rfl, Nat.le_of_ble_eq_true rfl, Nat.le_of_ble_eq_true rfl⟩ rfl rfl (Nat.le_of_ble_eq_true rfl) dX6_closesBlock_107 (fun σ1 r1 h => ?_)
  exact q_zret ok dX6_closesBlock_110 h.1 h.2
set_option maxRecDepth 100000 in
set_option maxHeartbeats 4000000 in
theorem c_X6_closesBlock (l : Launch) (Y : Cy) (hD : ∀ σ, va_D Y.2.2.2 (wsOf KC Y.2.1 Y.2.2.1 σ)) {σ : St} {Q : St → Int → Prop} (h : f_X6_closesBlock  σ Q) : ConI l yX6_closesBlock cX6_closesBlock 3 .boolean (rm0q 3 69) Y KC σ [.inr (.inr 38)] Q := con_of (lv := [(0, .inr (.inr 38))]) (by decide) hD (Nat.le_of_ble_eq_true rfl) rfl (fun X _ ok => by
  have ok : Ok X Y KC cX6_closesBlock 3 RX6 (rm0q 3 69) (some .boolean) := ok
  unfold f_X6_closesBlock at h
  refine q_aload_n ok dX6_closesBlock_0 0 rfl ?_
  refine q_getI ok fl_X6_80 kC_38 fC_38_2 dX6_closesBlock_1 ?_
  refine q_iconst ok dX6_closesBlock_4 ?_
  obtain ⟨g1, hT4a, hT4b⟩ := h
  refine q_icmp_le (tgt := 17) ok dX6_closesBlock_5 (by decide) g1 (by unfold inR; decide) (fun c4 => ?_) (fun c4 => ?_)
  · have h := hT4a c4
    refine q_iconst ok dX6_closesBlock_17 ?_
    exact q_zret ok dX6_closesBlock_18 (by decide) h
  · have h := hT4b c4
    refine q_aload_n ok dX6_closesBlock_8 0 rfl ?_
    refine q_getI ok fl_X6_80 kC_38 fC_38_2 dX6_closesBlock_9 ?_
    refine q_bipush ok dX6_closesBlock_12 rfl ?_
    obtain ⟨g2, hT3a, hT3b⟩ := h
    refine q_icmp_le (tgt := 19) ok dX6_closesBlock_14 (by decide) g2 (by unfold inR; decide) (fun c3 => ?_) (fun c3 => ?_)
    · have h := hT3a c3
      refine q_aload_n ok dX6_closesBlock_19 0 rfl ?_
      refine q_getC ok fl_X6_15 kC_38 fC_38_10 dX6_closesBlock_20 ?_
      refine q_aload_n ok dX6_closesBlock_23 0 rfl ?_
      refine q_getI ok fl_X6_80 kC_38 fC_38_2 dX6_closesBlock_24 ?_
      refine q_iconst ok dX6_closesBlock_27 ?_
      refine q_isub ok dX6_closesBlock_28 ?_
      obtain ⟨g3, g4, h⟩ := h
      refine q_iald ok kC_ok kC_40 g3 g4 dX6_closesBlock_29 ?_
      refine wq_i (fun x1 ex1 => ?_)
      have h := h x1 ex1
      refine q_istore_n (lv' := [(1, .inl x1), (0, .inr (.inr 38))]) ok dX6_closesBlock_30 (by decide) rfl ?_
      refine q_aload_n ok dX6_closesBlock_31 1 rfl ?_
      refine q_getR ok fl_X6_28 kC_38 fC_38_0 dX6_closesBlock_32 ?_
      refine q_iload_n ok dX6_closesBlock_35 0 rfl ?_
      refine q_bipush ok dX6_closesBlock_36 rfl ?_
      obtain ⟨g5, h⟩ := h
      refine q_callVI (st := []) ok cs_X6_206 (kX7_0 g5) rfl (c_X7_isOfSort X.2.1 Y ok.2.2.2.2.2.2.2.2 h) ⟨rfl, rfl, Nat.le_of_ble_eq_true rfl, Nat.le_of_ble_eq_true rfl⟩ rfl rfl (Nat.le_of_ble_eq_true rfl) dX6_closesBlock_38 (fun σ1 r1 h => ?_)
      obtain ⟨g6, hT2a, hT2b⟩ := h
      refine q_if_eq (tgt := 77) ok dX6_closesBlock_41 (by decide) g6 (fun c2 => ?_) (fun c2 => ?_)
      · have h := hT2a c2
        refine q_aload_n ok dX6_closesBlock_77 1 rfl ?_
        refine q_getC ok fl_X6_18 kC_38 fC_38_11 dX6_closesBlock_78 ?_
        refine q_aload_n ok dX6_closesBlock_81 1 rfl ?_
        refine q_getI ok fl_X6_80 kC_38 fC_38_2 dX6_closesBlock_82 ?_
        obtain ⟨g7, g8, h⟩ := h
        refine q_zald ok kC_ok kC_41 g7 g8 dX6_closesBlock_85 ?_
        refine wq_i (fun x2 ex2 => ?_)
        have h := h x2 ex2
        refine q_istore_n (lv' := [(2, .inl x2), (1, .inl x1), (0, .inr (.inr 38))]) ok dX6_closesBlock_86 (by decide) rfl ?_
        refine q_aload_n ok dX6_closesBlock_87 2 rfl ?_
        refine q_dup ok dX6_closesBlock_88 rfl ?_
        refine q_getI ok fl_X6_80 kC_38 fC_38_2 dX6_closesBlock_89 ?_
        refine q_iconst ok dX6_closesBlock_92 ?_
        refine q_isub ok dX6_closesBlock_93 ?_
        refine q_putI ok fp_X6_80 kC_38 fC_38_2 dX6_closesBlock_94 (wq_s (fun σ2 eσ2 => ?_))
        have h := h σ2 eσ2
        refine q_aload_n ok dX6_closesBlock_97 2 rfl ?_
        refine q_iload_n ok dX6_closesBlock_98 0 rfl ?_
        obtain ⟨g9, hT1a, hT1b⟩ := h
        refine q_if_eq (tgt := 106) ok dX6_closesBlock_99 (by decide) g9 (fun c1 => ?_) (fun c1 => ?_)
        · have h := hT1a c1
          refine q_iconst ok dX6_closesBlock_106 ?_
          refine q_sub [] rfl ?_
          exact w_X6_closesBlock_J107 ok σ2 4 h
        · have h := hT1b c1
          refine q_iconst ok dX6_closesBlock_102 ?_
          refine q_goto (tgt := 107) ok dX6_closesBlock_103 (by decide) ?_
          refine q_sub [] rfl ?_
          exact w_X6_closesBlock_J107 ok σ2 3 h
      · have h := hT2b c2
        refine q_aload_n ok dX6_closesBlock_44 1 rfl ?_
        refine q_bipush ok dX6_closesBlock_45 rfl ?_
        refine q_aload_n ok dX6_closesBlock_47 1 rfl ?_
        refine q_getR ok fl_X6_28 kC_38 fC_38_0 dX6_closesBlock_48 ?_
        obtain ⟨g10, h⟩ := h
        refine q_getC ok fl_X6_223 (kX7_0 g10) (fIX7_2 ((σ1 38 0).toNat)) dX6_closesBlock_51 ?_
        refine q_iload_n ok dX6_closesBlock_54 0 rfl ?_
        obtain ⟨g11, g12, h⟩ := h
        refine q_iald ok kC_ok (kX7_2 g10) g11 g12 dX6_closesBlock_55 ?_
        refine q_iconst ok dX6_closesBlock_56 ?_
        refine q_callVI (st := []) ok cs_X6_66 kC_38 rfl (c_X6_add X.2.1 Y ok.2.2.2.2.2.2.2.2 h) ⟨rfl, rfl, Nat.le_of_ble_eq_true rfl, Nat.le_of_ble_eq_true rfl⟩ rfl rfl (Nat.le_of_ble_eq_true rfl) dX6_closesBlock_57 (fun σ3 r2 h => ?_)
        refine q_pop ok dX6_closesBlock_60 rfl ?_
        refine q_aload_n ok dX6_closesBlock_61 1 rfl ?_
        refine q_dup ok dX6_closesBlock_62 rfl ?_
        refine q_getI ok fl_X6_80 kC_38 fC_38_2 dX6_closesBlock_63 ?_
        refine q_iconst ok dX6_closesBlock_66 ?_
        refine q_isub ok dX6_closesBlock_67 ?_
        refine q_putI ok fp_X6_80 kC_38 fC_38_2 dX6_closesBlock_68 (wq_s (fun σ4 eσ4 => ?_))
        have h := h σ4 eσ4
        refine q_aload_n ok dX6_closesBlock_71 1 rfl ?_
        refine q_iconst ok dX6_closesBlock_72 ?_
        refine q_callVI (st := []) ok cs_X6_100 kC_38 rfl (c_X6_await X.2.1 Y ok.2.2.2.2.2.2.2.2 h) ⟨rfl, rfl, Nat.le_of_ble_eq_true rfl, Nat.le_of_ble_eq_true rfl⟩ rfl rfl (Nat.le_of_ble_eq_true rfl) dX6_closesBlock_73 (fun σ5 r3 h => ?_)
        exact q_zret ok dX6_closesBlock_76 h.1 h.2
    · have h := hT3b c3
      refine q_iconst ok dX6_closesBlock_17 ?_
      exact q_zret ok dX6_closesBlock_18 (by decide) h)
/-! BranchingStory$Reader.isMeter(I)Z -/
def f_X6_isMeter (a0 : Int) (σ : St) (Q : St → Int → Prop) : Prop :=
  inR a0 ∧ ((a0 < 120 → Q σ 0) ∧ (¬ a0 < 120 → inR a0 ∧ ((122 < a0 → Q σ 0) ∧ (¬ 122 < a0 → Q σ 1))))
set_option maxRecDepth 100000 in
set_option maxHeartbeats 4000000 in
theorem c_X6_isMeter (l : Launch) (Y : Cy) (hD : ∀ σ, va_D Y.2.2.2 (wsOf KC Y.2.1 Y.2.2.1 σ)) {a0 : Int} {σ : St} {Q : St → Int → Prop} (h : f_X6_isMeter a0 σ Q) : ConI l yX6_isMeter cX6_isMeter 1 .boolean (rm0q 0 0) Y KC σ [.inl a0] Q := con_of (lv := [(0, .inl a0)]) (by decide) hD (Nat.le_of_ble_eq_true rfl) rfl (fun X _ ok => by
  have ok : Ok X Y KC cX6_isMeter 1 RX6 (rm0q 0 0) (some .boolean) := ok
  unfold f_X6_isMeter at h
  refine q_iload_n ok dX6_isMeter_0 0 rfl ?_
  refine q_bipush ok dX6_isMeter_1 rfl ?_
  obtain ⟨g1, hT2a, hT2b⟩ := h
  refine q_icmp_lt (tgt := 16) ok dX6_isMeter_3 (by decide) g1 (by unfold inR; decide) (fun c2 => ?_) (fun c2 => ?_)
  · have h := hT2a c2
    refine q_iconst ok dX6_isMeter_16 ?_
    exact q_zret ok dX6_isMeter_17 (by decide) h
  · have h := hT2b c2
    refine q_iload_n ok dX6_isMeter_6 0 rfl ?_
    refine q_bipush ok dX6_isMeter_7 rfl ?_
    obtain ⟨g2, hT1a, hT1b⟩ := h
    refine q_icmp_gt (tgt := 16) ok dX6_isMeter_9 (by decide) g2 (by unfold inR; decide) (fun c1 => ?_) (fun c1 => ?_)
    · have h := hT1a c1
      refine q_iconst ok dX6_isMeter_16 ?_
      exact q_zret ok dX6_isMeter_17 (by decide) h
    · have h := hT1b c1
      refine q_iconst ok dX6_isMeter_12 ?_
      refine q_goto (tgt := 17) ok dX6_isMeter_13 (by decide) ?_
      exact q_zret ok dX6_isMeter_17 (by decide) h)
/-! BranchingStory$Reader.beginsMeter(I)Z -/
def f_X6_beginsMeter (a0 : Int) (σ : St) (Q : St → Int → Prop) : Prop :=
  ∀ σ1 : St, σ1 = sset σ 38 8 (a0 - 120) → f_X6_await 6 σ1 (fun σ2 r1 => (r1 = 0 ∨ r1 = 1) ∧ Q σ2 r1)
set_option maxRecDepth 100000 in
set_option maxHeartbeats 4000000 in
theorem c_X6_beginsMeter (l : Launch) (Y : Cy) (hD : ∀ σ, va_D Y.2.2.2 (wsOf KC Y.2.1 Y.2.2.1 σ)) {a0 : Int} {σ : St} {Q : St → Int → Prop} (h : f_X6_beginsMeter a0 σ Q) : ConI l yX6_beginsMeter cX6_beginsMeter 2 .boolean (rm0q 1 21) Y KC σ [.inr (.inr 38), .inl a0] Q := con_of (lv := [(0, .inr (.inr 38)), (1, .inl a0)]) (by decide) hD (Nat.le_of_ble_eq_true rfl) rfl (fun X _ ok => by
  have ok : Ok X Y KC cX6_beginsMeter 2 RX6 (rm0q 1 21) (some .boolean) := ok
  unfold f_X6_beginsMeter at h
  refine q_aload_n ok dX6_beginsMeter_0 0 rfl ?_
  refine q_iload_n ok dX6_beginsMeter_1 1 rfl ?_
  refine q_bipush ok dX6_beginsMeter_2 rfl ?_
  refine q_isub ok dX6_beginsMeter_4 ?_
  refine q_putI ok fp_X6_125 kC_38 fC_38_8 dX6_beginsMeter_5 (wq_s (fun σ1 eσ1 => ?_))
  have h := h σ1 eσ1
  refine q_aload_n ok dX6_beginsMeter_8 0 rfl ?_
  refine q_bipush ok dX6_beginsMeter_9 rfl ?_
  refine q_callVI (st := []) ok cs_X6_100 kC_38 rfl (c_X6_await X.2.1 Y ok.2.2.2.2.2.2.2.2 h) ⟨rfl, rfl, Nat.le_of_ble_eq_true rfl, Nat.le_of_ble_eq_true rfl⟩ rfl rfl (Nat.le_of_ble_eq_true rfl) dX6_beginsMeter_11 (fun σ2 r1 h => ?_)
  exact q_zret ok dX6_beginsMeter_14 h.1 h.2)
/-! BranchingStory$Reader.takesNumber()Z -/
def f_X6_takesNumber (σ : St) (Q : St → Int → Prop) : Prop :=
  ∀ σ1 : St, σ1 = sset σ 38 4 (σ 38 5) → inR (σ1 38 5) ∧ (((σ1 38 5) = 1 → Q σ1 1) ∧ (¬ (σ1 38 5) = 1 → inR (σ1 38 5) ∧ ((¬ (σ1 38 5) = 2 → Q σ1 0) ∧ ((σ1 38 5) = 2 → Q σ1 1))))
set_option maxRecDepth 100000 in
set_option maxHeartbeats 4000000 in
theorem c_X6_takesNumber (l : Launch) (Y : Cy) (hD : ∀ σ, va_D Y.2.2.2 (wsOf KC Y.2.1 Y.2.2.1 σ)) {σ : St} {Q : St → Int → Prop} (h : f_X6_takesNumber  σ Q) : ConI l yX6_takesNumber cX6_takesNumber 1 .boolean (rm0q 0 0) Y KC σ [.inr (.inr 38)] Q := con_of (lv := [(0, .inr (.inr 38))]) (by decide) hD (Nat.le_of_ble_eq_true rfl) rfl (fun X _ ok => by
  have ok : Ok X Y KC cX6_takesNumber 1 RX6 (rm0q 0 0) (some .boolean) := ok
  unfold f_X6_takesNumber at h
  refine q_aload_n ok dX6_takesNumber_0 0 rfl ?_
  refine q_aload_n ok dX6_takesNumber_1 0 rfl ?_
  refine q_getI ok fl_X6_88 kC_38 fC_38_5 dX6_takesNumber_2 ?_
  refine q_putI ok fp_X6_46 kC_38 fC_38_4 dX6_takesNumber_5 (wq_s (fun σ1 eσ1 => ?_))
  have h := h σ1 eσ1
  refine q_aload_n ok dX6_takesNumber_8 0 rfl ?_
  refine q_getI ok fl_X6_88 kC_38 fC_38_5 dX6_takesNumber_9 ?_
  refine q_iconst ok dX6_takesNumber_12 ?_
  obtain ⟨g1, hT2a, hT2b⟩ := h
  refine q_icmp_eq (tgt := 24) ok dX6_takesNumber_13 (by decide) g1 (by unfold inR; decide) (fun c2 => ?_) (fun c2 => ?_)
  · have h := hT2a c2
    refine q_iconst ok dX6_takesNumber_24 ?_
    refine q_goto (tgt := 29) ok dX6_takesNumber_25 (by decide) ?_
    exact q_zret ok dX6_takesNumber_29 (by decide) h
  · have h := hT2b c2
    refine q_aload_n ok dX6_takesNumber_16 0 rfl ?_
    refine q_getI ok fl_X6_88 kC_38 fC_38_5 dX6_takesNumber_17 ?_
    refine q_iconst ok dX6_takesNumber_20 ?_
    obtain ⟨g2, hT1a, hT1b⟩ := h
    refine q_icmp_ne (tgt := 28) ok dX6_takesNumber_21 (by decide) g2 (by unfold inR; decide) (fun c1 => ?_) (fun c1 => ?_)
    · have h := hT1a c1
      refine q_iconst ok dX6_takesNumber_28 ?_
      exact q_zret ok dX6_takesNumber_29 (by decide) h
    · have h := hT1b c1
      refine q_iconst ok dX6_takesNumber_24 ?_
      refine q_goto (tgt := 29) ok dX6_takesNumber_25 (by decide) ?_
      exact q_zret ok dX6_takesNumber_29 (by decide) h)
/-! BranchingStory$Reader.takesLine()Z -/
def f_X6_takesLine (σ : St) (Q : St → Int → Prop) : Prop :=
  f_X6_takesNumber σ (fun σ1 r1 => inR r1 ∧ ((r1 = 0 → Q σ1 0) ∧ (¬ r1 = 0 → f_X6_add 0 (σ1 38 6) 0 σ1 (fun σ2 r2 => inR r2 ∧ ((r2 = 0 → Q σ2 0) ∧ (¬ r2 = 0 → Q σ2 1))))))
set_option maxRecDepth 100000 in
set_option maxHeartbeats 4000000 in
theorem c_X6_takesLine (l : Launch) (Y : Cy) (hD : ∀ σ, va_D Y.2.2.2 (wsOf KC Y.2.1 Y.2.2.1 σ)) {σ : St} {Q : St → Int → Prop} (h : f_X6_takesLine  σ Q) : ConI l yX6_takesLine cX6_takesLine 1 .boolean (rm0q 3 69) Y KC σ [.inr (.inr 38)] Q := con_of (lv := [(0, .inr (.inr 38))]) (by decide) hD (Nat.le_of_ble_eq_true rfl) rfl (fun X _ ok => by
  have ok : Ok X Y KC cX6_takesLine 1 RX6 (rm0q 3 69) (some .boolean) := ok
  unfold f_X6_takesLine at h
  refine q_aload_n ok dX6_takesLine_0 0 rfl ?_
  refine q_callVI (st := []) ok cs_X6_168 kC_38 rfl (c_X6_takesNumber X.2.1 Y ok.2.2.2.2.2.2.2.2 h) ⟨rfl, rfl, Nat.le_of_ble_eq_true rfl, Nat.le_of_ble_eq_true rfl⟩ rfl rfl (Nat.le_of_ble_eq_true rfl) dX6_takesLine_1 (fun σ1 r1 h => ?_)
  obtain ⟨g1, hT2a, hT2b⟩ := h
  refine q_if_eq (tgt := 24) ok dX6_takesLine_4 (by decide) g1 (fun c2 => ?_) (fun c2 => ?_)
  · have h := hT2a c2
    refine q_iconst ok dX6_takesLine_24 ?_
    exact q_zret ok dX6_takesLine_25 (by decide) h
  · have h := hT2b c2
    refine q_aload_n ok dX6_takesLine_7 0 rfl ?_
    refine q_iconst ok dX6_takesLine_8 ?_
    refine q_aload_n ok dX6_takesLine_9 0 rfl ?_
    refine q_getI ok fl_X6_91 kC_38 fC_38_6 dX6_takesLine_10 ?_
    refine q_iconst ok dX6_takesLine_13 ?_
    refine q_callVI (st := []) ok cs_X6_66 kC_38 rfl (c_X6_add X.2.1 Y ok.2.2.2.2.2.2.2.2 h) ⟨rfl, rfl, Nat.le_of_ble_eq_true rfl, Nat.le_of_ble_eq_true rfl⟩ rfl rfl (Nat.le_of_ble_eq_true rfl) dX6_takesLine_14 (fun σ2 r2 h => ?_)
    obtain ⟨g2, hT1a, hT1b⟩ := h
    refine q_if_eq (tgt := 24) ok dX6_takesLine_17 (by decide) g2 (fun c1 => ?_) (fun c1 => ?_)
    · have h := hT1a c1
      refine q_iconst ok dX6_takesLine_24 ?_
      exact q_zret ok dX6_takesLine_25 (by decide) h
    · have h := hT1b c1
      refine q_iconst ok dX6_takesLine_20 ?_
      refine q_goto (tgt := 25) ok dX6_takesLine_21 (by decide) ?_
      exact q_zret ok dX6_takesLine_25 (by decide) h)
/-! BranchingStory$Reader.takesInBlock(I)Z -/
def f_X6_takesInBlock (a0 : Int) (σ : St) (Q : St → Int → Prop) : Prop :=
  inR a0 ∧ ((a0 = 43 → f_X6_beginsStatement 1 5 σ (fun σ1 r1 => (r1 = 0 ∨ r1 = 1) ∧ Q σ1 r1)) ∧ (a0 = 45 → f_X6_beginsStatement 2 5 σ (fun σ2 r2 => (r2 = 0 ∨ r2 = 1) ∧ Q σ2 r2)) ∧ (a0 = 46 → f_X6_await 17 σ (fun σ3 r3 => (r3 = 0 ∨ r3 = 1) ∧ Q σ3 r3)) ∧ (a0 = 60 → isS ((σ 38 0).toNat) ∧ f_X6_add 9 ((σ ((σ 38 0).toNat) 10) - 1) 0 σ (fun σ4 r4 => (r4 = 0 ∨ r4 = 1) ∧ Q σ4 r4)) ∧ (a0 = 61 → inR (σ 38 2) ∧ ((¬ (σ 38 2) = 1 → Q σ 0) ∧ ((σ 38 2) = 1 → isS ((σ 38 0).toNat) ∧ f_X6_add 11 ((σ ((σ 38 0).toNat) 10) - 1) 0 σ (fun σ5 r5 => inR r5 ∧ ((r5 = 0 → Q σ5 0) ∧ (¬ r5 = 0 → f_X6_await 1 σ5 (fun σ6 r6 => inR r6 ∧ ((r6 = 0 → Q σ6 0) ∧ (¬ r6 = 0 → Q σ6 1))))))))) ∧ (a0 = 62 → f_X6_await 16 σ (fun σ7 r7 => (r7 = 0 ∨ r7 = 1) ∧ Q σ7 r7)) ∧ (a0 = 63 → f_X6_beginsTest σ (fun σ8 r8 => (r8 = 0 ∨ r8 = 1) ∧ Q σ8 r8)) ∧ (a0 = 91 → f_X6_beginsChoice σ (fun σ9 r9 => (r9 = 0 ∨ r9 = 1) ∧ Q σ9 r9)) ∧ (a0 = 125 → f_X6_closesBlock σ (fun σ10 r10 => (r10 = 0 ∨ r10 = 1) ∧ Q σ10 r10)) ∧ (¬ a0 = 43 → ¬ a0 = 45 → ¬ a0 = 46 → ¬ a0 = 60 → ¬ a0 = 61 → ¬ a0 = 62 → ¬ a0 = 63 → ¬ a0 = 91 → ¬ a0 = 125 → f_X6_isMeter a0 σ (fun σ11 r11 => inR r11 ∧ ((r11 = 0 → f_X6_isDigit a0 σ11 (fun σ12 r12 => inR r12 ∧ ((r12 = 0 → Q σ12 0) ∧ (¬ r12 = 0 → f_X6_takesLine σ12 (fun σ13 r13 => inR r13 ∧ ((r13 = 0 → Q σ13 0) ∧ (¬ r13 = 0 → Q σ13 1))))))) ∧ (¬ r11 = 0 → f_X6_beginsMeter a0 σ11 (fun σ14 r14 => (r14 = 0 ∨ r14 = 1) ∧ Q σ14 r14))))))
set_option maxRecDepth 100000 in
set_option maxHeartbeats 4000000 in
theorem c_X6_takesInBlock (l : Launch) (Y : Cy) (hD : ∀ σ, va_D Y.2.2.2 (wsOf KC Y.2.1 Y.2.2.1 σ)) {a0 : Int} {σ : St} {Q : St → Int → Prop} (h : f_X6_takesInBlock a0 σ Q) : ConI l yX6_takesInBlock cX6_takesInBlock 2 .boolean (rm0q 4 91) Y KC σ [.inr (.inr 38), .inl a0] Q := con_of (lv := [(0, .inr (.inr 38)), (1, .inl a0)]) (by decide) hD (Nat.le_of_ble_eq_true rfl) rfl (fun X _ ok => by
  have ok : Ok X Y KC cX6_takesInBlock 2 RX6 (rm0q 4 91) (some .boolean) := ok
  unfold f_X6_takesInBlock at h
  refine q_iload_n ok dX6_takesInBlock_0 1 rfl ?_
  obtain ⟨g1, hs1, hs2, hs3, hs4, hs5, hs6, hs7, hs8, hs9, hs10⟩ := h
  by_cases c1 : a0 = 43
  · have h := hs1 c1
    refine q_lsw (off := 83) (tgt := 84) ok dX6_takesInBlock_1 rfl g1 (by rw [c1]; first | done | rfl) (by decide) ?_
    refine q_aload_n ok dX6_takesInBlock_84 0 rfl ?_
    refine q_iconst ok dX6_takesInBlock_85 ?_
    refine q_iconst ok dX6_takesInBlock_86 ?_
    refine q_callVI (st := []) ok cs_X6_146 kC_38 rfl (c_X6_beginsStatement X.2.1 Y ok.2.2.2.2.2.2.2.2 h) ⟨rfl, rfl, Nat.le_of_ble_eq_true rfl, Nat.le_of_ble_eq_true rfl⟩ rfl rfl (Nat.le_of_ble_eq_true rfl) dX6_takesInBlock_87 (fun σ1 r1 h => ?_)
    exact q_zret ok dX6_takesInBlock_90 h.1 h.2
  by_cases c2 : a0 = 45
  · have h := hs2 c2
    refine q_lsw (off := 90) (tgt := 91) ok dX6_takesInBlock_1 rfl g1 (by rw [c2]; first | done | rfl) (by decide) ?_
    refine q_aload_n ok dX6_takesInBlock_91 0 rfl ?_
    refine q_iconst ok dX6_takesInBlock_92 ?_
    refine q_iconst ok dX6_takesInBlock_93 ?_
    refine q_callVI (st := []) ok cs_X6_146 kC_38 rfl (c_X6_beginsStatement X.2.1 Y ok.2.2.2.2.2.2.2.2 h) ⟨rfl, rfl, Nat.le_of_ble_eq_true rfl, Nat.le_of_ble_eq_true rfl⟩ rfl rfl (Nat.le_of_ble_eq_true rfl) dX6_takesInBlock_94 (fun σ2 r2 h => ?_)
    exact q_zret ok dX6_takesInBlock_97 h.1 h.2
  by_cases c3 : a0 = 46
  · have h := hs3 c3
    refine q_lsw (off := 131) (tgt := 132) ok dX6_takesInBlock_1 rfl g1 (by rw [c3]; first | done | rfl) (by decide) ?_
    refine q_aload_n ok dX6_takesInBlock_132 0 rfl ?_
    refine q_bipush ok dX6_takesInBlock_133 rfl ?_
    refine q_callVI (st := []) ok cs_X6_100 kC_38 rfl (c_X6_await X.2.1 Y ok.2.2.2.2.2.2.2.2 h) ⟨rfl, rfl, Nat.le_of_ble_eq_true rfl, Nat.le_of_ble_eq_true rfl⟩ rfl rfl (Nat.le_of_ble_eq_true rfl) dX6_takesInBlock_135 (fun σ3 r3 h => ?_)
    exact q_zret ok dX6_takesInBlock_138 h.1 h.2
  by_cases c4 : a0 = 60
  · have h := hs4 c4
    refine q_lsw (off := 114) (tgt := 115) ok dX6_takesInBlock_1 rfl g1 (by rw [c4]; first | done | rfl) (by decide) ?_
    refine q_aload_n ok dX6_takesInBlock_115 0 rfl ?_
    refine q_bipush ok dX6_takesInBlock_116 rfl ?_
    refine q_aload_n ok dX6_takesInBlock_118 0 rfl ?_
    refine q_getR ok fl_X6_28 kC_38 fC_38_0 dX6_takesInBlock_119 ?_
    obtain ⟨g2, h⟩ := h
    refine q_getI ok fl_X6_61 (kX7_0 g2) (fIX7_10 ((σ 38 0).toNat)) dX6_takesInBlock_122 ?_
    refine q_iconst ok dX6_takesInBlock_125 ?_
    refine q_isub ok dX6_takesInBlock_126 ?_
    refine q_iconst ok dX6_takesInBlock_127 ?_
    refine q_callVI (st := []) ok cs_X6_66 kC_38 rfl (c_X6_add X.2.1 Y ok.2.2.2.2.2.2.2.2 h) ⟨rfl, rfl, Nat.le_of_ble_eq_true rfl, Nat.le_of_ble_eq_true rfl⟩ rfl rfl (Nat.le_of_ble_eq_true rfl) dX6_takesInBlock_128 (fun σ4 r4 h => ?_)
    exact q_zret ok dX6_takesInBlock_131 h.1 h.2
  by_cases c8 : a0 = 61
  · have h := hs5 c8
    refine q_lsw (off := 143) (tgt := 144) ok dX6_takesInBlock_1 rfl g1 (by rw [c8]; first | done | rfl) (by decide) ?_
    refine q_aload_n ok dX6_takesInBlock_144 0 rfl ?_
    refine q_getI ok fl_X6_80 kC_38 fC_38_2 dX6_takesInBlock_145 ?_
    refine q_iconst ok dX6_takesInBlock_148 ?_
    obtain ⟨g3, hT3a, hT3b⟩ := h
    refine q_icmp_ne (tgt := 183) ok dX6_takesInBlock_149 (by decide) g3 (by unfold inR; decide) (fun c7 => ?_) (fun c7 => ?_)
    · have h := hT3a c7
      refine q_iconst ok dX6_takesInBlock_183 ?_
      exact q_zret ok dX6_takesInBlock_184 (by decide) h
    · have h := hT3b c7
      refine q_aload_n ok dX6_takesInBlock_152 0 rfl ?_
      refine q_bipush ok dX6_takesInBlock_153 rfl ?_
      refine q_aload_n ok dX6_takesInBlock_155 0 rfl ?_
      refine q_getR ok fl_X6_28 kC_38 fC_38_0 dX6_takesInBlock_156 ?_
      obtain ⟨g4, h⟩ := h
      refine q_getI ok fl_X6_61 (kX7_0 g4) (fIX7_10 ((σ 38 0).toNat)) dX6_takesInBlock_159 ?_
      refine q_iconst ok dX6_takesInBlock_162 ?_
      refine q_isub ok dX6_takesInBlock_163 ?_
      refine q_iconst ok dX6_takesInBlock_164 ?_
      refine q_callVI (st := []) ok cs_X6_66 kC_38 rfl (c_X6_add X.2.1 Y ok.2.2.2.2.2.2.2.2 h) ⟨rfl, rfl, Nat.le_of_ble_eq_true rfl, Nat.le_of_ble_eq_true rfl⟩ rfl rfl (Nat.le_of_ble_eq_true rfl) dX6_takesInBlock_165 (fun σ5 r5 h => ?_)
      obtain ⟨g5, hT2a, hT2b⟩ := h
      refine q_if_eq (tgt := 183) ok dX6_takesInBlock_168 (by decide) g5 (fun c6 => ?_) (fun c6 => ?_)
      · have h := hT2a c6
        refine q_iconst ok dX6_takesInBlock_183 ?_
        exact q_zret ok dX6_takesInBlock_184 (by decide) h
      · have h := hT2b c6
        refine q_aload_n ok dX6_takesInBlock_171 0 rfl ?_
        refine q_iconst ok dX6_takesInBlock_172 ?_
        refine q_callVI (st := []) ok cs_X6_100 kC_38 rfl (c_X6_await X.2.1 Y ok.2.2.2.2.2.2.2.2 h) ⟨rfl, rfl, Nat.le_of_ble_eq_true rfl, Nat.le_of_ble_eq_true rfl⟩ rfl rfl (Nat.le_of_ble_eq_true rfl) dX6_takesInBlock_173 (fun σ6 r6 h => ?_)
        obtain ⟨g6, hT1a, hT1b⟩ := h
        refine q_if_eq (tgt := 183) ok dX6_takesInBlock_176 (by decide) g6 (fun c5 => ?_) (fun c5 => ?_)
        · have h := hT1a c5
          refine q_iconst ok dX6_takesInBlock_183 ?_
          exact q_zret ok dX6_takesInBlock_184 (by decide) h
        · have h := hT1b c5
          refine q_iconst ok dX6_takesInBlock_179 ?_
          refine q_goto (tgt := 184) ok dX6_takesInBlock_180 (by decide) ?_
          exact q_zret ok dX6_takesInBlock_184 (by decide) h
  by_cases c9 : a0 = 62
  · have h := hs6 c9
    refine q_lsw (off := 107) (tgt := 108) ok dX6_takesInBlock_1 rfl g1 (by rw [c9]; first | done | rfl) (by decide) ?_
    refine q_aload_n ok dX6_takesInBlock_108 0 rfl ?_
    refine q_bipush ok dX6_takesInBlock_109 rfl ?_
    refine q_callVI (st := []) ok cs_X6_100 kC_38 rfl (c_X6_await X.2.1 Y ok.2.2.2.2.2.2.2.2 h) ⟨rfl, rfl, Nat.le_of_ble_eq_true rfl, Nat.le_of_ble_eq_true rfl⟩ rfl rfl (Nat.le_of_ble_eq_true rfl) dX6_takesInBlock_111 (fun σ7 r7 h => ?_)
    exact q_zret ok dX6_takesInBlock_114 h.1 h.2
  by_cases c10 : a0 = 63
  · have h := hs7 c10
    refine q_lsw (off := 97) (tgt := 98) ok dX6_takesInBlock_1 rfl g1 (by rw [c10]; first | done | rfl) (by decide) ?_
    refine q_aload_n ok dX6_takesInBlock_98 0 rfl ?_
    refine q_callVI (st := []) ok cs_X6_150 kC_38 rfl (c_X6_beginsTest X.2.1 Y ok.2.2.2.2.2.2.2.2 h) ⟨rfl, rfl, Nat.le_of_ble_eq_true rfl, Nat.le_of_ble_eq_true rfl⟩ rfl rfl (Nat.le_of_ble_eq_true rfl) dX6_takesInBlock_99 (fun σ8 r8 h => ?_)
    exact q_zret ok dX6_takesInBlock_102 h.1 h.2
  by_cases c11 : a0 = 91
  · have h := hs8 c11
    refine q_lsw (off := 102) (tgt := 103) ok dX6_takesInBlock_1 rfl g1 (by rw [c11]; first | done | rfl) (by decide) ?_
    refine q_aload_n ok dX6_takesInBlock_103 0 rfl ?_
    refine q_callVI (st := []) ok cs_X6_153 kC_38 rfl (c_X6_beginsChoice X.2.1 Y ok.2.2.2.2.2.2.2.2 h) ⟨rfl, rfl, Nat.le_of_ble_eq_true rfl, Nat.le_of_ble_eq_true rfl⟩ rfl rfl (Nat.le_of_ble_eq_true rfl) dX6_takesInBlock_104 (fun σ9 r9 h => ?_)
    exact q_zret ok dX6_takesInBlock_107 h.1 h.2
  by_cases c12 : a0 = 125
  · have h := hs9 c12
    refine q_lsw (off := 138) (tgt := 139) ok dX6_takesInBlock_1 rfl g1 (by rw [c12]; first | done | rfl) (by decide) ?_
    refine q_aload_n ok dX6_takesInBlock_139 0 rfl ?_
    refine q_callVI (st := []) ok cs_X6_156 kC_38 rfl (c_X6_closesBlock X.2.1 Y ok.2.2.2.2.2.2.2.2 h) ⟨rfl, rfl, Nat.le_of_ble_eq_true rfl, Nat.le_of_ble_eq_true rfl⟩ rfl rfl (Nat.le_of_ble_eq_true rfl) dX6_takesInBlock_140 (fun σ10 r10 h => ?_)
    exact q_zret ok dX6_takesInBlock_143 h.1 h.2
  have h := hs10 c1 c2 c3 c4 c8 c9 c10 c11 c12
  refine q_lsw (off := 184) (tgt := 185) ok dX6_takesInBlock_1 rfl g1 (by show Op.lookupswitch.offset _ _ _ = _; rw [Op.lookupswitch.offset_cons, if_neg (fun e => c1 e.symm), Op.lookupswitch.offset_cons, if_neg (fun e => c2 e.symm), Op.lookupswitch.offset_cons, if_neg (fun e => c3 e.symm), Op.lookupswitch.offset_cons, if_neg (fun e => c4 e.symm), Op.lookupswitch.offset_cons, if_neg (fun e => c8 e.symm), Op.lookupswitch.offset_cons, if_neg (fun e => c9 e.symm), Op.lookupswitch.offset_cons, if_neg (fun e => c10 e.symm), Op.lookupswitch.offset_cons, if_neg (fun e => c11 e.symm), Op.lookupswitch.offset_cons, if_neg (fun e => c12 e.symm)]; first | done | rfl) (by decide) ?_
  refine q_iload_n ok dX6_takesInBlock_185 1 rfl ?_
  refine q_callSI (st := []) ok cs_X6_159 (c_X6_isMeter X.2.1 Y ok.2.2.2.2.2.2.2.2 h) ⟨rfl, rfl, Nat.le_of_ble_eq_true rfl, Nat.le_of_ble_eq_true rfl⟩ rfl rfl (Nat.le_of_ble_eq_true rfl) dX6_takesInBlock_186 (fun σ11 r11 h => ?_)
  obtain ⟨g7, hT6a, hT6b⟩ := h
  refine q_if_eq (tgt := 200) ok dX6_takesInBlock_189 (by decide) g7 (fun c15 => ?_) (fun c15 => ?_)
  · have h := hT6a c15
    refine q_iload_n ok dX6_takesInBlock_200 1 rfl ?_
    refine q_callSI (st := []) ok cs_X6_97 (c_X6_isDigit X.2.1 Y ok.2.2.2.2.2.2.2.2 h) ⟨rfl, rfl, Nat.le_of_ble_eq_true rfl, Nat.le_of_ble_eq_true rfl⟩ rfl rfl (Nat.le_of_ble_eq_true rfl) dX6_takesInBlock_201 (fun σ12 r12 h => ?_)
    obtain ⟨g8, hT5a, hT5b⟩ := h
    refine q_if_eq (tgt := 218) ok dX6_takesInBlock_204 (by decide) g8 (fun c14 => ?_) (fun c14 => ?_)
    · have h := hT5a c14
      refine q_iconst ok dX6_takesInBlock_218 ?_
      exact q_zret ok dX6_takesInBlock_219 (by decide) h
    · have h := hT5b c14
      refine q_aload_n ok dX6_takesInBlock_207 0 rfl ?_
      refine q_callVI (st := []) ok cs_X6_165 kC_38 rfl (c_X6_takesLine X.2.1 Y ok.2.2.2.2.2.2.2.2 h) ⟨rfl, rfl, Nat.le_of_ble_eq_true rfl, Nat.le_of_ble_eq_true rfl⟩ rfl rfl (Nat.le_of_ble_eq_true rfl) dX6_takesInBlock_208 (fun σ13 r13 h => ?_)
      obtain ⟨g9, hT4a, hT4b⟩ := h
      refine q_if_eq (tgt := 218) ok dX6_takesInBlock_211 (by decide) g9 (fun c13 => ?_) (fun c13 => ?_)
      · have h := hT4a c13
        refine q_iconst ok dX6_takesInBlock_218 ?_
        exact q_zret ok dX6_takesInBlock_219 (by decide) h
      · have h := hT4b c13
        refine q_iconst ok dX6_takesInBlock_214 ?_
        refine q_goto (tgt := 219) ok dX6_takesInBlock_215 (by decide) ?_
        exact q_zret ok dX6_takesInBlock_219 (by decide) h
  · have h := hT6b c15
    refine q_aload_n ok dX6_takesInBlock_192 0 rfl ?_
    refine q_iload_n ok dX6_takesInBlock_193 1 rfl ?_
    refine q_callVI (st := []) ok cs_X6_162 kC_38 rfl (c_X6_beginsMeter X.2.1 Y ok.2.2.2.2.2.2.2.2 h) ⟨rfl, rfl, Nat.le_of_ble_eq_true rfl, Nat.le_of_ble_eq_true rfl⟩ rfl rfl (Nat.le_of_ble_eq_true rfl) dX6_takesInBlock_194 (fun σ14 r14 h => ?_)
    refine q_goto (tgt := 219) ok dX6_takesInBlock_197 (by decide) ?_
    exact q_zret ok dX6_takesInBlock_219 h.1 h.2)
/-! BranchingStory$Reader.opensBlock(Z)Z -/
def f_X6_opensBlock (a0 : Int) (σ : St) (Q : St → Int → Prop) : Prop :=
  inR (σ 38 2) ∧ (((σ 38 2) < 1 → Q σ 0) ∧ (¬ (σ 38 2) < 1 → inR (σ 38 2) ∧ (((σ 38 2) < 6 → ∀ σ1 : St, σ1 = sset σ 38 2 ((σ 38 2) + 1) → 0 ≤ (σ1 38 2) ∧ (σ1 38 2) < 7 ∧ ∀ σ2 : St, σ2 = sset σ1 40 (σ1 38 2).toNat (-1) → 0 ≤ (σ2 38 2) ∧ (σ2 38 2) < 7 ∧ (a0 = 0 ∨ a0 = 1) ∧ ∀ σ3 : St, σ3 = sset σ2 41 (σ2 38 2).toNat a0 → f_X6_await 3 σ3 (fun σ4 r1 => (r1 = 0 ∨ r1 = 1) ∧ Q σ4 r1)) ∧ (¬ (σ 38 2) < 6 → Q σ 0))))
set_option maxRecDepth 100000 in
set_option maxHeartbeats 4000000 in
theorem c_X6_opensBlock (l : Launch) (Y : Cy) (hD : ∀ σ, va_D Y.2.2.2 (wsOf KC Y.2.1 Y.2.2.1 σ)) {a0 : Int} {σ : St} {Q : St → Int → Prop} (h : f_X6_opensBlock a0 σ Q) : ConI l yX6_opensBlock cX6_opensBlock 2 .boolean (rm0q 1 21) Y KC σ [.inr (.inr 38), .inl a0] Q := con_of (lv := [(0, .inr (.inr 38)), (1, .inl a0)]) (by decide) hD (Nat.le_of_ble_eq_true rfl) rfl (fun X _ ok => by
  have ok : Ok X Y KC cX6_opensBlock 2 RX6 (rm0q 1 21) (some .boolean) := ok
  unfold f_X6_opensBlock at h
  refine q_aload_n ok dX6_opensBlock_0 0 rfl ?_
  refine q_getI ok fl_X6_80 kC_38 fC_38_2 dX6_opensBlock_1 ?_
  refine q_iconst ok dX6_opensBlock_4 ?_
  obtain ⟨g1, hT2a, hT2b⟩ := h
  refine q_icmp_lt (tgt := 17) ok dX6_opensBlock_5 (by decide) g1 (by unfold inR; decide) (fun c2 => ?_) (fun c2 => ?_)
  · have h := hT2a c2
    refine q_iconst ok dX6_opensBlock_17 ?_
    exact q_zret ok dX6_opensBlock_18 (by decide) h
  · have h := hT2b c2
    refine q_aload_n ok dX6_opensBlock_8 0 rfl ?_
    refine q_getI ok fl_X6_80 kC_38 fC_38_2 dX6_opensBlock_9 ?_
    refine q_bipush ok dX6_opensBlock_12 rfl ?_
    obtain ⟨g2, hT1a, hT1b⟩ := h
    refine q_icmp_lt (tgt := 19) ok dX6_opensBlock_14 (by decide) g2 (by unfold inR; decide) (fun c1 => ?_) (fun c1 => ?_)
    · have h := hT1a c1
      refine q_aload_n ok dX6_opensBlock_19 0 rfl ?_
      refine q_dup ok dX6_opensBlock_20 rfl ?_
      refine q_getI ok fl_X6_80 kC_38 fC_38_2 dX6_opensBlock_21 ?_
      refine q_iconst ok dX6_opensBlock_24 ?_
      refine q_iadd ok dX6_opensBlock_25 ?_
      refine q_putI ok fp_X6_80 kC_38 fC_38_2 dX6_opensBlock_26 (wq_s (fun σ1 eσ1 => ?_))
      have h := h σ1 eσ1
      refine q_aload_n ok dX6_opensBlock_29 0 rfl ?_
      refine q_getC ok fl_X6_15 kC_38 fC_38_10 dX6_opensBlock_30 ?_
      refine q_aload_n ok dX6_opensBlock_33 0 rfl ?_
      refine q_getI ok fl_X6_80 kC_38 fC_38_2 dX6_opensBlock_34 ?_
      refine q_iconst ok dX6_opensBlock_37 ?_
      obtain ⟨g3, g4, h⟩ := h
      refine q_iast ok kC_ok kC_40 g3 g4 dX6_opensBlock_38 (wq_s (fun σ2 eσ2 => ?_))
      have h := h σ2 eσ2
      refine q_aload_n ok dX6_opensBlock_39 0 rfl ?_
      refine q_getC ok fl_X6_18 kC_38 fC_38_11 dX6_opensBlock_40 ?_
      refine q_aload_n ok dX6_opensBlock_43 0 rfl ?_
      refine q_getI ok fl_X6_80 kC_38 fC_38_2 dX6_opensBlock_44 ?_
      refine q_iload_n ok dX6_opensBlock_47 1 rfl ?_
      obtain ⟨g5, g6, h⟩ := h
      obtain ⟨g7, h⟩ := h
      refine q_zast ok kC_ok kC_41 g5 g6 g7 dX6_opensBlock_48 (wq_s (fun σ3 eσ3 => ?_))
      have h := h σ3 eσ3
      refine q_aload_n ok dX6_opensBlock_49 0 rfl ?_
      refine q_iconst ok dX6_opensBlock_50 ?_
      refine q_callVI (st := []) ok cs_X6_100 kC_38 rfl (c_X6_await X.2.1 Y ok.2.2.2.2.2.2.2.2 h) ⟨rfl, rfl, Nat.le_of_ble_eq_true rfl, Nat.le_of_ble_eq_true rfl⟩ rfl rfl (Nat.le_of_ble_eq_true rfl) dX6_opensBlock_51 (fun σ4 r1 h => ?_)
      exact q_zret ok dX6_opensBlock_54 h.1 h.2
    · have h := hT1b c1
      refine q_iconst ok dX6_opensBlock_17 ?_
      exact q_zret ok dX6_opensBlock_18 (by decide) h)
/-! BranchingStory$Reader.isFlag(I)Z -/
def f_X6_isFlag (a0 : Int) (σ : St) (Q : St → Int → Prop) : Prop :=
  inR a0 ∧ ((a0 < 97 → Q σ 0) ∧ (¬ a0 < 97 → inR a0 ∧ ((102 < a0 → Q σ 0) ∧ (¬ 102 < a0 → Q σ 1))))
set_option maxRecDepth 100000 in
set_option maxHeartbeats 4000000 in
theorem c_X6_isFlag (l : Launch) (Y : Cy) (hD : ∀ σ, va_D Y.2.2.2 (wsOf KC Y.2.1 Y.2.2.1 σ)) {a0 : Int} {σ : St} {Q : St → Int → Prop} (h : f_X6_isFlag a0 σ Q) : ConI l yX6_isFlag cX6_isFlag 1 .boolean (rm0q 0 0) Y KC σ [.inl a0] Q := con_of (lv := [(0, .inl a0)]) (by decide) hD (Nat.le_of_ble_eq_true rfl) rfl (fun X _ ok => by
  have ok : Ok X Y KC cX6_isFlag 1 RX6 (rm0q 0 0) (some .boolean) := ok
  unfold f_X6_isFlag at h
  refine q_iload_n ok dX6_isFlag_0 0 rfl ?_
  refine q_bipush ok dX6_isFlag_1 rfl ?_
  obtain ⟨g1, hT2a, hT2b⟩ := h
  refine q_icmp_lt (tgt := 16) ok dX6_isFlag_3 (by decide) g1 (by unfold inR; decide) (fun c2 => ?_) (fun c2 => ?_)
  · have h := hT2a c2
    refine q_iconst ok dX6_isFlag_16 ?_
    exact q_zret ok dX6_isFlag_17 (by decide) h
  · have h := hT2b c2
    refine q_iload_n ok dX6_isFlag_6 0 rfl ?_
    refine q_bipush ok dX6_isFlag_7 rfl ?_
    obtain ⟨g2, hT1a, hT1b⟩ := h
    refine q_icmp_gt (tgt := 16) ok dX6_isFlag_9 (by decide) g2 (by unfold inR; decide) (fun c1 => ?_) (fun c1 => ?_)
    · have h := hT1a c1
      refine q_iconst ok dX6_isFlag_16 ?_
      exact q_zret ok dX6_isFlag_17 (by decide) h
    · have h := hT1b c1
      refine q_iconst ok dX6_isFlag_12 ?_
      refine q_goto (tgt := 17) ok dX6_isFlag_13 (by decide) ?_
      exact q_zret ok dX6_isFlag_17 (by decide) h)
/-! BranchingStory$Reader.takesMeterSign(I)Z -/
def f_X6_takesMeterSign (a0 : Int) (σ : St) (Q : St → Int → Prop) : Prop :=
  inR a0 ∧ ((a0 = 43 → f_X6_beginsStatement 4 7 σ (fun σ1 r1 => (r1 = 0 ∨ r1 = 1) ∧ Q σ1 r1)) ∧ (a0 = 45 → f_X6_beginsStatement 5 7 σ (fun σ2 r2 => (r2 = 0 ∨ r2 = 1) ∧ Q σ2 r2)) ∧ (a0 = 61 → f_X6_beginsStatement 3 7 σ (fun σ3 r3 => (r3 = 0 ∨ r3 = 1) ∧ Q σ3 r3)) ∧ (¬ a0 = 43 → ¬ a0 = 45 → ¬ a0 = 61 → Q σ 0))
set_option maxRecDepth 100000 in
set_option maxHeartbeats 4000000 in
theorem c_X6_takesMeterSign (l : Launch) (Y : Cy) (hD : ∀ σ, va_D Y.2.2.2 (wsOf KC Y.2.1 Y.2.2.1 σ)) {a0 : Int} {σ : St} {Q : St → Int → Prop} (h : f_X6_takesMeterSign a0 σ Q) : ConI l yX6_takesMeterSign cX6_takesMeterSign 2 .boolean (rm0q 2 43) Y KC σ [.inr (.inr 38), .inl a0] Q := con_of (lv := [(0, .inr (.inr 38)), (1, .inl a0)]) (by decide) hD (Nat.le_of_ble_eq_true rfl) rfl (fun X _ ok => by
  have ok : Ok X Y KC cX6_takesMeterSign 2 RX6 (rm0q 2 43) (some .boolean) := ok
  unfold f_X6_takesMeterSign at h
  refine q_iload_n ok dX6_takesMeterSign_0 1 rfl ?_
  obtain ⟨g1, hs1, hs2, hs3, hs4⟩ := h
  by_cases c1 : a0 = 43
  · have h := hs1 c1
    refine q_lsw (off := 43) (tgt := 44) ok dX6_takesMeterSign_1 rfl g1 (by rw [c1]; first | done | rfl) (by decide) ?_
    refine q_aload_n ok dX6_takesMeterSign_44 0 rfl ?_
    refine q_iconst ok dX6_takesMeterSign_45 ?_
    refine q_bipush ok dX6_takesMeterSign_46 rfl ?_
    refine q_callVI (st := []) ok cs_X6_146 kC_38 rfl (c_X6_beginsStatement X.2.1 Y ok.2.2.2.2.2.2.2.2 h) ⟨rfl, rfl, Nat.le_of_ble_eq_true rfl, Nat.le_of_ble_eq_true rfl⟩ rfl rfl (Nat.le_of_ble_eq_true rfl) dX6_takesMeterSign_48 (fun σ1 r1 h => ?_)
    exact q_zret ok dX6_takesMeterSign_51 h.1 h.2
  by_cases c2 : a0 = 45
  · have h := hs2 c2
    refine q_lsw (off := 51) (tgt := 52) ok dX6_takesMeterSign_1 rfl g1 (by rw [c2]; first | done | rfl) (by decide) ?_
    refine q_aload_n ok dX6_takesMeterSign_52 0 rfl ?_
    refine q_iconst ok dX6_takesMeterSign_53 ?_
    refine q_bipush ok dX6_takesMeterSign_54 rfl ?_
    refine q_callVI (st := []) ok cs_X6_146 kC_38 rfl (c_X6_beginsStatement X.2.1 Y ok.2.2.2.2.2.2.2.2 h) ⟨rfl, rfl, Nat.le_of_ble_eq_true rfl, Nat.le_of_ble_eq_true rfl⟩ rfl rfl (Nat.le_of_ble_eq_true rfl) dX6_takesMeterSign_56 (fun σ2 r2 h => ?_)
    exact q_zret ok dX6_takesMeterSign_59 h.1 h.2
  by_cases c3 : a0 = 61
  · have h := hs3 c3
    refine q_lsw (off := 35) (tgt := 36) ok dX6_takesMeterSign_1 rfl g1 (by rw [c3]; first | done | rfl) (by decide) ?_
    refine q_aload_n ok dX6_takesMeterSign_36 0 rfl ?_
    refine q_iconst ok dX6_takesMeterSign_37 ?_
    refine q_bipush ok dX6_takesMeterSign_38 rfl ?_
    refine q_callVI (st := []) ok cs_X6_146 kC_38 rfl (c_X6_beginsStatement X.2.1 Y ok.2.2.2.2.2.2.2.2 h) ⟨rfl, rfl, Nat.le_of_ble_eq_true rfl, Nat.le_of_ble_eq_true rfl⟩ rfl rfl (Nat.le_of_ble_eq_true rfl) dX6_takesMeterSign_40 (fun σ3 r3 h => ?_)
    exact q_zret ok dX6_takesMeterSign_43 h.1 h.2
  have h := hs4 c1 c2 c3
  refine q_lsw (off := 59) (tgt := 60) ok dX6_takesMeterSign_1 rfl g1 (by show Op.lookupswitch.offset _ _ _ = _; rw [Op.lookupswitch.offset_cons, if_neg (fun e => c1 e.symm), Op.lookupswitch.offset_cons, if_neg (fun e => c2 e.symm), Op.lookupswitch.offset_cons, if_neg (fun e => c3 e.symm)]; first | done | rfl) (by decide) ?_
  refine q_iconst ok dX6_takesMeterSign_60 ?_
  exact q_zret ok dX6_takesMeterSign_61 (by decide) h)
/-! BranchingStory$Reader.takesLabel(I)Z -/
def f_X6_takesLabel (a0 : Int) (σ : St) (Q : St → Int → Prop) : Prop :=
  f_X6_isDigit a0 σ (fun σ1 r1 => inR r1 ∧ ((r1 = 0 → Q σ1 0) ∧ (¬ r1 = 0 → f_X6_takesNumber σ1 (fun σ2 r2 => inR r2 ∧ ((¬ r2 = 0 → isS ((σ2 38 0).toNat) ∧ f_X9_putEntry ((σ2 38 0).toNat + 15) ((σ2 ((σ2 38 0).toNat) 14) - 1) (σ2 38 6) σ2 (fun σ3 => f_X6_await 14 σ3 (fun σ4 r3 => (r3 = 0 ∨ r3 = 1) ∧ Q σ4 r3))) ∧ (r2 = 0 → Q σ2 0))))))
set_option maxRecDepth 100000 in
set_option maxHeartbeats 4000000 in
theorem c_X6_takesLabel (l : Launch) (Y : Cy) (hD : ∀ σ, va_D Y.2.2.2 (wsOf KC Y.2.1 Y.2.2.1 σ)) {a0 : Int} {σ : St} {Q : St → Int → Prop} (h : f_X6_takesLabel a0 σ Q) : ConI l yX6_takesLabel cX6_takesLabel 2 .boolean (rm0q 1 22) Y KC σ [.inr (.inr 38), .inl a0] Q := con_of (lv := [(0, .inr (.inr 38)), (1, .inl a0)]) (by decide) hD (Nat.le_of_ble_eq_true rfl) rfl (fun X _ ok => by
  have ok : Ok X Y KC cX6_takesLabel 2 RX6 (rm0q 1 22) (some .boolean) := ok
  unfold f_X6_takesLabel at h
  refine q_iload_n ok dX6_takesLabel_0 1 rfl ?_
  refine q_callSI (st := []) ok cs_X6_97 (c_X6_isDigit X.2.1 Y ok.2.2.2.2.2.2.2.2 h) ⟨rfl, rfl, Nat.le_of_ble_eq_true rfl, Nat.le_of_ble_eq_true rfl⟩ rfl rfl (Nat.le_of_ble_eq_true rfl) dX6_takesLabel_1 (fun σ1 r1 h => ?_)
  obtain ⟨g1, hT2a, hT2b⟩ := h
  refine q_if_eq (tgt := 14) ok dX6_takesLabel_4 (by decide) g1 (fun c2 => ?_) (fun c2 => ?_)
  · have h := hT2a c2
    refine q_iconst ok dX6_takesLabel_14 ?_
    exact q_zret ok dX6_takesLabel_15 (by decide) h
  · have h := hT2b c2
    refine q_aload_n ok dX6_takesLabel_7 0 rfl ?_
    refine q_callVI (st := []) ok cs_X6_168 kC_38 rfl (c_X6_takesNumber X.2.1 Y ok.2.2.2.2.2.2.2.2 h) ⟨rfl, rfl, Nat.le_of_ble_eq_true rfl, Nat.le_of_ble_eq_true rfl⟩ rfl rfl (Nat.le_of_ble_eq_true rfl) dX6_takesLabel_8 (fun σ2 r2 h => ?_)
    obtain ⟨g2, hT1a, hT1b⟩ := h
    refine q_if_ne (tgt := 16) ok dX6_takesLabel_11 (by decide) g2 (fun c1 => ?_) (fun c1 => ?_)
    · have h := hT1a c1
      refine q_aload_n ok dX6_takesLabel_16 0 rfl ?_
      refine q_getR ok fl_X6_28 kC_38 fC_38_0 dX6_takesLabel_17 ?_
      obtain ⟨g3, h⟩ := h
      refine q_getC ok fl_X6_187 (kX7_0 g3) (fIX7_15 ((σ2 38 0).toNat)) dX6_takesLabel_20 ?_
      refine q_aload_n ok dX6_takesLabel_23 0 rfl ?_
      refine q_getR ok fl_X6_28 kC_38 fC_38_0 dX6_takesLabel_24 ?_
      refine q_getI ok fl_X6_181 (kX7_0 g3) (fIX7_14 ((σ2 38 0).toNat)) dX6_takesLabel_27 ?_
      refine q_iconst ok dX6_takesLabel_30 ?_
      refine q_isub ok dX6_takesLabel_31 ?_
      refine q_aload_n ok dX6_takesLabel_32 0 rfl ?_
      refine q_getI ok fl_X6_91 kC_38 fC_38_6 dX6_takesLabel_33 ?_
      refine q_callSV (st := []) ok cs_X6_174 (c_X9_putEntry X.2.1 Y ok.2.2.2.2.2.2.2.2 h) ⟨rfl, rfl, Nat.le_of_ble_eq_true rfl, Nat.le_of_ble_eq_true rfl⟩ rfl rfl (Nat.le_of_ble_eq_true rfl) dX6_takesLabel_36 (fun σ3 h => ?_)
      refine q_aload_n ok dX6_takesLabel_39 0 rfl ?_
      refine q_bipush ok dX6_takesLabel_40 rfl ?_
      refine q_callVI (st := []) ok cs_X6_100 kC_38 rfl (c_X6_await X.2.1 Y ok.2.2.2.2.2.2.2.2 h) ⟨rfl, rfl, Nat.le_of_ble_eq_true rfl, Nat.le_of_ble_eq_true rfl⟩ rfl rfl (Nat.le_of_ble_eq_true rfl) dX6_takesLabel_42 (fun σ4 r3 h => ?_)
      exact q_zret ok dX6_takesLabel_45 h.1 h.2
    · have h := hT1b c1
      refine q_iconst ok dX6_takesLabel_14 ?_
      exact q_zret ok dX6_takesLabel_15 (by decide) h)
/-! BranchingStory$Reader.addGoal(I)Z -/
def f_X6_addGoal (a0 : Int) (σ : St) (Q : St → Int → Prop) : Prop :=
  isS ((σ 38 0).toNat) ∧ f_X9_putEntry 43 (σ ((σ 38 0).toNat) 0) (σ 38 3) σ (fun σ1 => f_X6_add 8 a0 0 σ1 (fun σ2 r1 => (r1 = 0 ∨ r1 = 1) ∧ Q σ2 r1))
set_option maxRecDepth 100000 in
set_option maxHeartbeats 4000000 in
theorem c_X6_addGoal (l : Launch) (Y : Cy) (hD : ∀ σ, va_D Y.2.2.2 (wsOf KC Y.2.1 Y.2.2.1 σ)) {a0 : Int} {σ : St} {Q : St → Int → Prop} (h : f_X6_addGoal a0 σ Q) : ConI l yX6_addGoal cX6_addGoal 2 .boolean (rm0q 3 69) Y KC σ [.inr (.inr 38), .inl a0] Q := con_of (lv := [(0, .inr (.inr 38)), (1, .inl a0)]) (by decide) hD (Nat.le_of_ble_eq_true rfl) rfl (fun X _ ok => by
  have ok : Ok X Y KC cX6_addGoal 2 RX6 (rm0q 3 69) (some .boolean) := ok
  unfold f_X6_addGoal at h
  refine q_aload_n ok dX6_addGoal_0 0 rfl ?_
  refine q_getC ok fl_X6_25 kC_38 fC_38_13 dX6_addGoal_1 ?_
  refine q_aload_n ok dX6_addGoal_4 0 rfl ?_
  refine q_getR ok fl_X6_28 kC_38 fC_38_0 dX6_addGoal_5 ?_
  obtain ⟨g1, h⟩ := h
  refine q_getI ok fl_X6_171 (kX7_0 g1) (fIX7_0 ((σ 38 0).toNat)) dX6_addGoal_8 ?_
  refine q_aload_n ok dX6_addGoal_11 0 rfl ?_
  refine q_getI ok fl_X6_42 kC_38 fC_38_3 dX6_addGoal_12 ?_
  refine q_callSV (st := []) ok cs_X6_174 (c_X9_putEntry X.2.1 Y ok.2.2.2.2.2.2.2.2 h) ⟨rfl, rfl, Nat.le_of_ble_eq_true rfl, Nat.le_of_ble_eq_true rfl⟩ rfl rfl (Nat.le_of_ble_eq_true rfl) dX6_addGoal_15 (fun σ1 h => ?_)
  refine q_aload_n ok dX6_addGoal_18 0 rfl ?_
  refine q_bipush ok dX6_addGoal_19 rfl ?_
  refine q_iload_n ok dX6_addGoal_21 1 rfl ?_
  refine q_iconst ok dX6_addGoal_22 ?_
  refine q_callVI (st := []) ok cs_X6_66 kC_38 rfl (c_X6_add X.2.1 Y ok.2.2.2.2.2.2.2.2 h) ⟨rfl, rfl, Nat.le_of_ble_eq_true rfl, Nat.le_of_ble_eq_true rfl⟩ rfl rfl (Nat.le_of_ble_eq_true rfl) dX6_addGoal_23 (fun σ2 r1 h => ?_)
  exact q_zret ok dX6_addGoal_26 h.1 h.2)
/-! BranchingStory$Reader.addTerm(III)Z -/
def f_X6_addTerm (a0 : Int) (a1 : Int) (a2 : Int) (σ : St) (Q : St → Int → Prop) : Prop :=
  isS ((σ 38 0).toNat) ∧ f_X8_append ((σ 38 0).toNat + 9) a0 a1 a2 σ (fun σ1 => isS ((σ1 38 0).toNat) ∧ f_X9_entryOf 40 (σ1 38 2) σ1 (fun σ2 r1 => isS ((σ2 38 0).toNat) ∧ f_X9_putEntry ((σ1 38 0).toNat + 8) r1 (σ2 ((σ2 38 0).toNat + 9) 0) σ2 (fun σ3 => f_X6_await 12 σ3 (fun σ4 r2 => (r2 = 0 ∨ r2 = 1) ∧ Q σ4 r2))))
set_option maxRecDepth 100000 in
set_option maxHeartbeats 4000000 in
theorem c_X6_addTerm (l : Launch) (Y : Cy) (hD : ∀ σ, va_D Y.2.2.2 (wsOf KC Y.2.1 Y.2.2.1 σ)) {a0 : Int} {a1 : Int} {a2 : Int} {σ : St} {Q : St → Int → Prop} (h : f_X6_addTerm a0 a1 a2 σ Q) : ConI l yX6_addTerm cX6_addTerm 4 .boolean (rm0q 1 23) Y KC σ [.inr (.inr 38), .inl a0, .inl a1, .inl a2] Q := con_of (lv := [(0, .inr (.inr 38)), (1, .inl a0), (2, .inl a1), (3, .inl a2)]) (by decide) hD (Nat.le_of_ble_eq_true rfl) rfl (fun X _ ok => by
  have ok : Ok X Y KC cX6_addTerm 4 RX6 (rm0q 1 23) (some .boolean) := ok
  unfold f_X6_addTerm at h
  refine q_aload_n ok dX6_addTerm_0 0 rfl ?_
  refine q_getR ok fl_X6_28 kC_38 fC_38_0 dX6_addTerm_1 ?_
  obtain ⟨g1, h⟩ := h
  refine q_getC ok fl_X6_209 (kX7_0 g1) (fIX7_9 ((σ 38 0).toNat)) dX6_addTerm_4 ?_
  refine q_iload_n ok dX6_addTerm_7 1 rfl ?_
  refine q_iload_n ok dX6_addTerm_8 2 rfl ?_
  refine q_iload_n ok dX6_addTerm_9 3 rfl ?_
  refine q_callVV (st := []) ok cs_X6_213 (kX7_9 g1) rfl (c_X8_append X.2.1 Y ok.2.2.2.2.2.2.2.2 h) ⟨rfl, rfl, Nat.le_of_ble_eq_true rfl, Nat.le_of_ble_eq_true rfl⟩ rfl rfl (Nat.le_of_ble_eq_true rfl) dX6_addTerm_10 (fun σ1 h => ?_)
  refine q_aload_n ok dX6_addTerm_13 0 rfl ?_
  refine q_getR ok fl_X6_28 kC_38 fC_38_0 dX6_addTerm_14 ?_
  obtain ⟨g2, h⟩ := h
  refine q_getC ok fl_X6_219 (kX7_0 g2) (fIX7_8 ((σ1 38 0).toNat)) dX6_addTerm_17 ?_
  refine q_aload_n ok dX6_addTerm_20 0 rfl ?_
  refine q_getC ok fl_X6_15 kC_38 fC_38_10 dX6_addTerm_21 ?_
  refine q_aload_n ok dX6_addTerm_24 0 rfl ?_
  refine q_getI ok fl_X6_80 kC_38 fC_38_2 dX6_addTerm_25 ?_
  refine q_callSI (st := [.inr (.inr ((σ1 38 0).toNat + 8))]) ok cs_X6_202 (c_X9_entryOf X.2.1 Y ok.2.2.2.2.2.2.2.2 h) ⟨rfl, rfl, Nat.le_of_ble_eq_true rfl, Nat.le_of_ble_eq_true rfl⟩ rfl rfl (Nat.le_of_ble_eq_true rfl) dX6_addTerm_28 (fun σ2 r1 h => ?_)
  refine q_aload_n ok dX6_addTerm_31 0 rfl ?_
  refine q_getR ok fl_X6_28 kC_38 fC_38_0 dX6_addTerm_32 ?_
  obtain ⟨g3, h⟩ := h
  refine q_getC ok fl_X6_209 (kX7_0 g3) (fIX7_9 ((σ2 38 0).toNat)) dX6_addTerm_35 ?_
  refine q_getI ok fl_X6_222 (kX7_9 g3) (fOX7_9_0 ((σ2 38 0).toNat)) dX6_addTerm_38 ?_
  refine q_callSV (st := []) ok cs_X6_174 (c_X9_putEntry X.2.1 Y ok.2.2.2.2.2.2.2.2 h) ⟨rfl, rfl, Nat.le_of_ble_eq_true rfl, Nat.le_of_ble_eq_true rfl⟩ rfl rfl (Nat.le_of_ble_eq_true rfl) dX6_addTerm_41 (fun σ3 h => ?_)
  refine q_aload_n ok dX6_addTerm_44 0 rfl ?_
  refine q_bipush ok dX6_addTerm_45 rfl ?_
  refine q_callVI (st := []) ok cs_X6_100 kC_38 rfl (c_X6_await X.2.1 Y ok.2.2.2.2.2.2.2.2 h) ⟨rfl, rfl, Nat.le_of_ble_eq_true rfl, Nat.le_of_ble_eq_true rfl⟩ rfl rfl (Nat.le_of_ble_eq_true rfl) dX6_addTerm_47 (fun σ4 r2 h => ?_)
  exact q_zret ok dX6_addTerm_50 h.1 h.2)
/-! BranchingStory$Reader.takesTermBegin(I)Z -/
def f_X6_takesTermBegin (a0 : Int) (σ : St) (Q : St → Int → Prop) : Prop :=
  inR a0 ∧ ((¬ a0 = 33 → f_X6_isFlag a0 σ (fun σ1 r1 => inR r1 ∧ ((r1 = 0 → ∀ σ2 : St, σ2 = sset σ1 38 8 (a0 - 120) → f_X6_isMeter a0 σ2 (fun σ3 r2 => inR r2 ∧ ((r2 = 0 → Q σ3 0) ∧ (¬ r2 = 0 → f_X6_await 10 σ3 (fun σ4 r3 => inR r3 ∧ ((r3 = 0 → Q σ4 0) ∧ (¬ r3 = 0 → Q σ4 1))))))) ∧ (¬ r1 = 0 → f_X6_addTerm 0 (a0 - 97) 0 σ1 (fun σ5 r4 => (r4 = 0 ∨ r4 = 1) ∧ Q σ5 r4))))) ∧ (a0 = 33 → f_X6_await 9 σ (fun σ6 r5 => (r5 = 0 ∨ r5 = 1) ∧ Q σ6 r5)))
set_option maxRecDepth 100000 in
set_option maxHeartbeats 4000000 in
theorem c_X6_takesTermBegin (l : Launch) (Y : Cy) (hD : ∀ σ, va_D Y.2.2.2 (wsOf KC Y.2.1 Y.2.2.1 σ)) {a0 : Int} {σ : St} {Q : St → Int → Prop} (h : f_X6_takesTermBegin a0 σ Q) : ConI l yX6_takesTermBegin cX6_takesTermBegin 2 .boolean (rm0q 2 46) Y KC σ [.inr (.inr 38), .inl a0] Q := con_of (lv := [(0, .inr (.inr 38)), (1, .inl a0)]) (by decide) hD (Nat.le_of_ble_eq_true rfl) rfl (fun X _ ok => by
  have ok : Ok X Y KC cX6_takesTermBegin 2 RX6 (rm0q 2 46) (some .boolean) := ok
  unfold f_X6_takesTermBegin at h
  refine q_iload_n ok dX6_takesTermBegin_0 1 rfl ?_
  refine q_bipush ok dX6_takesTermBegin_1 rfl ?_
  obtain ⟨g1, hT4a, hT4b⟩ := h
  refine q_icmp_ne (tgt := 13) ok dX6_takesTermBegin_3 (by decide) g1 (by unfold inR; decide) (fun c4 => ?_) (fun c4 => ?_)
  · have h := hT4a c4
    refine q_iload_n ok dX6_takesTermBegin_13 1 rfl ?_
    refine q_callSI (st := []) ok cs_X6_116 (c_X6_isFlag X.2.1 Y ok.2.2.2.2.2.2.2.2 h) ⟨rfl, rfl, Nat.le_of_ble_eq_true rfl, Nat.le_of_ble_eq_true rfl⟩ rfl rfl (Nat.le_of_ble_eq_true rfl) dX6_takesTermBegin_14 (fun σ1 r1 h => ?_)
    obtain ⟨g2, hT3a, hT3b⟩ := h
    refine q_if_eq (tgt := 31) ok dX6_takesTermBegin_17 (by decide) g2 (fun c3 => ?_) (fun c3 => ?_)
    · have h := hT3a c3
      refine q_aload_n ok dX6_takesTermBegin_31 0 rfl ?_
      refine q_iload_n ok dX6_takesTermBegin_32 1 rfl ?_
      refine q_bipush ok dX6_takesTermBegin_33 rfl ?_
      refine q_isub ok dX6_takesTermBegin_35 ?_
      refine q_putI ok fp_X6_125 kC_38 fC_38_8 dX6_takesTermBegin_36 (wq_s (fun σ2 eσ2 => ?_))
      have h := h σ2 eσ2
      refine q_iload_n ok dX6_takesTermBegin_39 1 rfl ?_
      refine q_callSI (st := []) ok cs_X6_159 (c_X6_isMeter X.2.1 Y ok.2.2.2.2.2.2.2.2 h) ⟨rfl, rfl, Nat.le_of_ble_eq_true rfl, Nat.le_of_ble_eq_true rfl⟩ rfl rfl (Nat.le_of_ble_eq_true rfl) dX6_takesTermBegin_40 (fun σ3 r2 h => ?_)
      obtain ⟨g3, hT2a, hT2b⟩ := h
      refine q_if_eq (tgt := 59) ok dX6_takesTermBegin_43 (by decide) g3 (fun c2 => ?_) (fun c2 => ?_)
      · have h := hT2a c2
        refine q_iconst ok dX6_takesTermBegin_59 ?_
        exact q_zret ok dX6_takesTermBegin_60 (by decide) h
      · have h := hT2b c2
        refine q_aload_n ok dX6_takesTermBegin_46 0 rfl ?_
        refine q_bipush ok dX6_takesTermBegin_47 rfl ?_
        refine q_callVI (st := []) ok cs_X6_100 kC_38 rfl (c_X6_await X.2.1 Y ok.2.2.2.2.2.2.2.2 h) ⟨rfl, rfl, Nat.le_of_ble_eq_true rfl, Nat.le_of_ble_eq_true rfl⟩ rfl rfl (Nat.le_of_ble_eq_true rfl) dX6_takesTermBegin_49 (fun σ4 r3 h => ?_)
        obtain ⟨g4, hT1a, hT1b⟩ := h
        refine q_if_eq (tgt := 59) ok dX6_takesTermBegin_52 (by decide) g4 (fun c1 => ?_) (fun c1 => ?_)
        · have h := hT1a c1
          refine q_iconst ok dX6_takesTermBegin_59 ?_
          exact q_zret ok dX6_takesTermBegin_60 (by decide) h
        · have h := hT1b c1
          refine q_iconst ok dX6_takesTermBegin_55 ?_
          refine q_goto (tgt := 60) ok dX6_takesTermBegin_56 (by decide) ?_
          exact q_zret ok dX6_takesTermBegin_60 (by decide) h
    · have h := hT3b c3
      refine q_aload_n ok dX6_takesTermBegin_20 0 rfl ?_
      refine q_iconst ok dX6_takesTermBegin_21 ?_
      refine q_iload_n ok dX6_takesTermBegin_22 1 rfl ?_
      refine q_bipush ok dX6_takesTermBegin_23 rfl ?_
      refine q_isub ok dX6_takesTermBegin_25 ?_
      refine q_iconst ok dX6_takesTermBegin_26 ?_
      refine q_callVI (st := []) ok cs_X6_193 kC_38 rfl (c_X6_addTerm X.2.1 Y ok.2.2.2.2.2.2.2.2 h) ⟨rfl, rfl, Nat.le_of_ble_eq_true rfl, Nat.le_of_ble_eq_true rfl⟩ rfl rfl (Nat.le_of_ble_eq_true rfl) dX6_takesTermBegin_27 (fun σ5 r4 h => ?_)
      exact q_zret ok dX6_takesTermBegin_30 h.1 h.2
  · have h := hT4b c4
    refine q_aload_n ok dX6_takesTermBegin_6 0 rfl ?_
    refine q_bipush ok dX6_takesTermBegin_7 rfl ?_
    refine q_callVI (st := []) ok cs_X6_100 kC_38 rfl (c_X6_await X.2.1 Y ok.2.2.2.2.2.2.2.2 h) ⟨rfl, rfl, Nat.le_of_ble_eq_true rfl, Nat.le_of_ble_eq_true rfl⟩ rfl rfl (Nat.le_of_ble_eq_true rfl) dX6_takesTermBegin_9 (fun σ6 r5 h => ?_)
    exact q_zret ok dX6_takesTermBegin_12 h.1 h.2)
/-! BranchingStory$Reader.takesTermSign(I)Z -/
def f_X6_takesTermSign (a0 : Int) (σ : St) (Q : St → Int → Prop) : Prop :=
  inR a0 ∧ ((a0 = 60 → f_X6_beginsStatement 2 11 σ (fun σ1 r1 => (r1 = 0 ∨ r1 = 1) ∧ Q σ1 r1)) ∧ (a0 = 61 → f_X6_beginsStatement 4 11 σ (fun σ2 r2 => (r2 = 0 ∨ r2 = 1) ∧ Q σ2 r2)) ∧ (a0 = 62 → f_X6_beginsStatement 3 11 σ (fun σ3 r3 => (r3 = 0 ∨ r3 = 1) ∧ Q σ3 r3)) ∧ ((a0 < 60 ∨ 62 < a0) → Q σ 0))
set_option maxRecDepth 100000 in
set_option maxHeartbeats 4000000 in
theorem c_X6_takesTermSign (l : Launch) (Y : Cy) (hD : ∀ σ, va_D Y.2.2.2 (wsOf KC Y.2.1 Y.2.2.1 σ)) {a0 : Int} {σ : St} {Q : St → Int → Prop} (h : f_X6_takesTermSign a0 σ Q) : ConI l yX6_takesTermSign cX6_takesTermSign 2 .boolean (rm0q 2 43) Y KC σ [.inr (.inr 38), .inl a0] Q := con_of (lv := [(0, .inr (.inr 38)), (1, .inl a0)]) (by decide) hD (Nat.le_of_ble_eq_true rfl) rfl (fun X _ ok => by
  have ok : Ok X Y KC cX6_takesTermSign 2 RX6 (rm0q 2 43) (some .boolean) := ok
  unfold f_X6_takesTermSign at h
  refine q_iload_n ok dX6_takesTermSign_0 1 rfl ?_
  obtain ⟨g1, hs1, hs2, hs3, hs4⟩ := h
  by_cases c1 : a0 = 60
  · have h := hs1 c1
    refine q_tsIn (tgt := 28) ok dX6_takesTermSign_1 g1 (by omega) (by omega) (by rw [c1]; rfl) (by decide) ?_
    refine q_aload_n ok dX6_takesTermSign_28 0 rfl ?_
    refine q_iconst ok dX6_takesTermSign_29 ?_
    refine q_bipush ok dX6_takesTermSign_30 rfl ?_
    refine q_callVI (st := []) ok cs_X6_146 kC_38 rfl (c_X6_beginsStatement X.2.1 Y ok.2.2.2.2.2.2.2.2 h) ⟨rfl, rfl, Nat.le_of_ble_eq_true rfl, Nat.le_of_ble_eq_true rfl⟩ rfl rfl (Nat.le_of_ble_eq_true rfl) dX6_takesTermSign_32 (fun σ1 r1 h => ?_)
    exact q_zret ok dX6_takesTermSign_35 h.1 h.2
  by_cases c2 : a0 = 61
  · have h := hs2 c2
    refine q_tsIn (tgt := 44) ok dX6_takesTermSign_1 g1 (by omega) (by omega) (by rw [c2]; rfl) (by decide) ?_
    refine q_aload_n ok dX6_takesTermSign_44 0 rfl ?_
    refine q_iconst ok dX6_takesTermSign_45 ?_
    refine q_bipush ok dX6_takesTermSign_46 rfl ?_
    refine q_callVI (st := []) ok cs_X6_146 kC_38 rfl (c_X6_beginsStatement X.2.1 Y ok.2.2.2.2.2.2.2.2 h) ⟨rfl, rfl, Nat.le_of_ble_eq_true rfl, Nat.le_of_ble_eq_true rfl⟩ rfl rfl (Nat.le_of_ble_eq_true rfl) dX6_takesTermSign_48 (fun σ2 r2 h => ?_)
    exact q_zret ok dX6_takesTermSign_51 h.1 h.2
  by_cases c3 : a0 = 62
  · have h := hs3 c3
    refine q_tsIn (tgt := 36) ok dX6_takesTermSign_1 g1 (by omega) (by omega) (by rw [c3]; rfl) (by decide) ?_
    refine q_aload_n ok dX6_takesTermSign_36 0 rfl ?_
    refine q_iconst ok dX6_takesTermSign_37 ?_
    refine q_bipush ok dX6_takesTermSign_38 rfl ?_
    refine q_callVI (st := []) ok cs_X6_146 kC_38 rfl (c_X6_beginsStatement X.2.1 Y ok.2.2.2.2.2.2.2.2 h) ⟨rfl, rfl, Nat.le_of_ble_eq_true rfl, Nat.le_of_ble_eq_true rfl⟩ rfl rfl (Nat.le_of_ble_eq_true rfl) dX6_takesTermSign_40 (fun σ3 r3 h => ?_)
    exact q_zret ok dX6_takesTermSign_43 h.1 h.2
  have h := hs4 (by omega)
  refine q_tsOut (tgt := 52) ok dX6_takesTermSign_1 g1 (by omega) (by decide) ?_
  refine q_iconst ok dX6_takesTermSign_52 ?_
  exact q_zret ok dX6_takesTermSign_53 (by decide) h)
/-! BranchingStory$Reader.takesTermEnd(I)Z -/
def f_X6_takesTermEnd (a0 : Int) (σ : St) (Q : St → Int → Prop) : Prop :=
  f_X9_entryOf 40 (σ 38 2) σ (fun σ1 r1 => isS ((σ 38 0).toNat) ∧ f_X7_isOfSort ((σ 38 0).toNat) r1 6 σ1 (fun σ2 r2 => inR a0 ∧ ((a0 = 38 → f_X6_await 8 σ2 (fun σ3 r3 => (r3 = 0 ∨ r3 = 1) ∧ Q σ3 r3)) ∧ (a0 = 93 → inR r2 ∧ ((¬ r2 = 0 → Q σ2 0) ∧ (r2 = 0 → f_X6_await 15 σ2 (fun σ4 r4 => inR r4 ∧ ((r4 = 0 → Q σ4 0) ∧ (¬ r4 = 0 → Q σ4 1)))))) ∧ (a0 = 123 → inR r2 ∧ ((r2 = 0 → Q σ2 0) ∧ (¬ r2 = 0 → f_X6_opensBlock 0 σ2 (fun σ5 r5 => inR r5 ∧ ((r5 = 0 → Q σ5 0) ∧ (¬ r5 = 0 → Q σ5 1)))))) ∧ (¬ a0 = 38 → ¬ a0 = 93 → ¬ a0 = 123 → Q σ2 0))))
set_option maxRecDepth 100000 in
set_option maxHeartbeats 4000000 in
theorem c_X6_takesTermEnd (l : Launch) (Y : Cy) (hD : ∀ σ, va_D Y.2.2.2 (wsOf KC Y.2.1 Y.2.2.1 σ)) {a0 : Int} {σ : St} {Q : St → Int → Prop} (h : f_X6_takesTermEnd a0 σ Q) : ConI l yX6_takesTermEnd cX6_takesTermEnd 3 .boolean (rm0q 2 43) Y KC σ [.inr (.inr 38), .inl a0] Q := con_of (lv := [(0, .inr (.inr 38)), (1, .inl a0)]) (by decide) hD (Nat.le_of_ble_eq_true rfl) rfl (fun X _ ok => by
  have ok : Ok X Y KC cX6_takesTermEnd 3 RX6 (rm0q 2 43) (some .boolean) := ok
  unfold f_X6_takesTermEnd at h
  refine q_aload_n ok dX6_takesTermEnd_0 0 rfl ?_
  refine q_getR ok fl_X6_28 kC_38 fC_38_0 dX6_takesTermEnd_1 ?_
  refine q_aload_n ok dX6_takesTermEnd_4 0 rfl ?_
  refine q_getC ok fl_X6_15 kC_38 fC_38_10 dX6_takesTermEnd_5 ?_
  refine q_aload_n ok dX6_takesTermEnd_8 0 rfl ?_
  refine q_getI ok fl_X6_80 kC_38 fC_38_2 dX6_takesTermEnd_9 ?_
  refine q_callSI (st := [.inr (.inr ((σ 38 0).toNat))]) ok cs_X6_202 (c_X9_entryOf X.2.1 Y ok.2.2.2.2.2.2.2.2 h) ⟨rfl, rfl, Nat.le_of_ble_eq_true rfl, Nat.le_of_ble_eq_true rfl⟩ rfl rfl (Nat.le_of_ble_eq_true rfl) dX6_takesTermEnd_12 (fun σ1 r1 h => ?_)
  refine q_bipush ok dX6_takesTermEnd_15 rfl ?_
  obtain ⟨g1, h⟩ := h
  refine q_callVI (st := []) ok cs_X6_206 (kX7_0 g1) rfl (c_X7_isOfSort X.2.1 Y ok.2.2.2.2.2.2.2.2 h) ⟨rfl, rfl, Nat.le_of_ble_eq_true rfl, Nat.le_of_ble_eq_true rfl⟩ rfl rfl (Nat.le_of_ble_eq_true rfl) dX6_takesTermEnd_17 (fun σ2 r2 h => ?_)
  refine q_istore_n (lv' := [(2, .inl r2), (0, .inr (.inr 38)), (1, .inl a0)]) ok dX6_takesTermEnd_20 (by decide) rfl ?_
  refine q_iload_n ok dX6_takesTermEnd_21 2 rfl ?_
  obtain ⟨g2, hs1, hs2, hs3, hs4⟩ := h
  by_cases c1 : a0 = 38
  · have h := hs1 c1
    refine q_lsw (off := 34) (tgt := 56) ok dX6_takesTermEnd_22 rfl g2 (by rw [c1]; first | done | rfl) (by decide) ?_
    refine q_aload_n ok dX6_takesTermEnd_56 1 rfl ?_
    refine q_bipush ok dX6_takesTermEnd_57 rfl ?_
    refine q_callVI (st := []) ok cs_X6_100 kC_38 rfl (c_X6_await X.2.1 Y ok.2.2.2.2.2.2.2.2 h) ⟨rfl, rfl, Nat.le_of_ble_eq_true rfl, Nat.le_of_ble_eq_true rfl⟩ rfl rfl (Nat.le_of_ble_eq_true rfl) dX6_takesTermEnd_59 (fun σ3 r3 h => ?_)
    exact q_zret ok dX6_takesTermEnd_62 h.1 h.2
  by_cases c4 : a0 = 93
  · have h := hs2 c4
    refine q_lsw (off := 59) (tgt := 81) ok dX6_takesTermEnd_22 rfl g2 (by rw [c4]; first | done | rfl) (by decide) ?_
    refine q_iload_n ok dX6_takesTermEnd_81 0 rfl ?_
    obtain ⟨g3, hT2a, hT2b⟩ := h
    refine q_if_ne (tgt := 98) ok dX6_takesTermEnd_82 (by decide) g3 (fun c3 => ?_) (fun c3 => ?_)
    · have h := hT2a c3
      refine q_iconst ok dX6_takesTermEnd_98 ?_
      exact q_zret ok dX6_takesTermEnd_99 (by decide) h
    · have h := hT2b c3
      refine q_aload_n ok dX6_takesTermEnd_85 1 rfl ?_
      refine q_bipush ok dX6_takesTermEnd_86 rfl ?_
      refine q_callVI (st := []) ok cs_X6_100 kC_38 rfl (c_X6_await X.2.1 Y ok.2.2.2.2.2.2.2.2 h) ⟨rfl, rfl, Nat.le_of_ble_eq_true rfl, Nat.le_of_ble_eq_true rfl⟩ rfl rfl (Nat.le_of_ble_eq_true rfl) dX6_takesTermEnd_88 (fun σ4 r4 h => ?_)
      obtain ⟨g4, hT1a, hT1b⟩ := h
      refine q_if_eq (tgt := 98) ok dX6_takesTermEnd_91 (by decide) g4 (fun c2 => ?_) (fun c2 => ?_)
      · have h := hT1a c2
        refine q_iconst ok dX6_takesTermEnd_98 ?_
        exact q_zret ok dX6_takesTermEnd_99 (by decide) h
      · have h := hT1b c2
        refine q_iconst ok dX6_takesTermEnd_94 ?_
        refine q_goto (tgt := 99) ok dX6_takesTermEnd_95 (by decide) ?_
        exact q_zret ok dX6_takesTermEnd_99 (by decide) h
  by_cases c7 : a0 = 123
  · have h := hs3 c7
    refine q_lsw (off := 41) (tgt := 63) ok dX6_takesTermEnd_22 rfl g2 (by rw [c7]; first | done | rfl) (by decide) ?_
    refine q_iload_n ok dX6_takesTermEnd_63 0 rfl ?_
    obtain ⟨g5, hT4a, hT4b⟩ := h
    refine q_if_eq (tgt := 79) ok dX6_takesTermEnd_64 (by decide) g5 (fun c6 => ?_) (fun c6 => ?_)
    · have h := hT4a c6
      refine q_iconst ok dX6_takesTermEnd_79 ?_
      exact q_zret ok dX6_takesTermEnd_80 (by decide) h
    · have h := hT4b c6
      refine q_aload_n ok dX6_takesTermEnd_67 1 rfl ?_
      refine q_iconst ok dX6_takesTermEnd_68 ?_
      refine q_callVI (st := []) ok cs_X6_112 kC_38 rfl (c_X6_opensBlock X.2.1 Y ok.2.2.2.2.2.2.2.2 h) ⟨rfl, rfl, Nat.le_of_ble_eq_true rfl, Nat.le_of_ble_eq_true rfl⟩ rfl rfl (Nat.le_of_ble_eq_true rfl) dX6_takesTermEnd_69 (fun σ5 r5 h => ?_)
      obtain ⟨g6, hT3a, hT3b⟩ := h
      refine q_if_eq (tgt := 79) ok dX6_takesTermEnd_72 (by decide) g6 (fun c5 => ?_) (fun c5 => ?_)
      · have h := hT3a c5
        refine q_iconst ok dX6_takesTermEnd_79 ?_
        exact q_zret ok dX6_takesTermEnd_80 (by decide) h
      · have h := hT3b c5
        refine q_iconst ok dX6_takesTermEnd_75 ?_
        refine q_goto (tgt := 80) ok dX6_takesTermEnd_76 (by decide) ?_
        exact q_zret ok dX6_takesTermEnd_80 (by decide) h
  have h := hs4 c1 c4 c7
  refine q_lsw (off := 78) (tgt := 100) ok dX6_takesTermEnd_22 rfl g2 (by show Op.lookupswitch.offset _ _ _ = _; rw [Op.lookupswitch.offset_cons, if_neg (fun e => c1 e.symm), Op.lookupswitch.offset_cons, if_neg (fun e => c4 e.symm), Op.lookupswitch.offset_cons, if_neg (fun e => c7 e.symm)]; first | done | rfl) (by decide) ?_
  refine q_iconst ok dX6_takesTermEnd_100 ?_
  exact q_zret ok dX6_takesTermEnd_101 (by decide) h)
/-! BranchingStory$Reader.takesInCondition(I)Z -/
def f_X6_takesInCondition (a0 : Int) (σ : St) (Q : St → Int → Prop) : Prop :=
  inR (σ 38 1) ∧ (((σ 38 1) = 8 → f_X6_takesTermBegin a0 σ (fun σ1 r1 => (r1 = 0 ∨ r1 = 1) ∧ Q σ1 r1)) ∧ ((σ 38 1) = 9 → f_X6_isFlag a0 σ (fun σ2 r2 => inR r2 ∧ ((r2 = 0 → Q σ2 0) ∧ (¬ r2 = 0 → f_X6_addTerm 1 (a0 - 97) 0 σ2 (fun σ3 r3 => inR r3 ∧ ((r3 = 0 → Q σ3 0) ∧ (¬ r3 = 0 → Q σ3 1))))))) ∧ ((σ 38 1) = 10 → f_X6_takesTermSign a0 σ (fun σ4 r4 => (r4 = 0 ∨ r4 = 1) ∧ Q σ4 r4)) ∧ ((σ 38 1) = 11 → f_X6_isDigit a0 σ (fun σ5 r5 => inR r5 ∧ ((r5 = 0 → Q σ5 0) ∧ (¬ r5 = 0 → f_X6_addTerm (σ5 38 7) (σ5 38 8) (a0 - 48) σ5 (fun σ6 r6 => inR r6 ∧ ((r6 = 0 → Q σ6 0) ∧ (¬ r6 = 0 → Q σ6 1))))))) ∧ ((σ 38 1) = 12 → f_X6_takesTermEnd a0 σ (fun σ7 r7 => (r7 = 0 ∨ r7 = 1) ∧ Q σ7 r7)) ∧ (((σ 38 1) < 8 ∨ 12 < (σ 38 1)) → Q σ 0))
set_option maxRecDepth 100000 in
set_option maxHeartbeats 4000000 in
theorem c_X6_takesInCondition (l : Launch) (Y : Cy) (hD : ∀ σ, va_D Y.2.2.2 (wsOf KC Y.2.1 Y.2.2.1 σ)) {a0 : Int} {σ : St} {Q : St → Int → Prop} (h : f_X6_takesInCondition a0 σ Q) : ConI l yX6_takesInCondition cX6_takesInCondition 2 .boolean (rm0q 3 67) Y KC σ [.inr (.inr 38), .inl a0] Q := con_of (lv := [(0, .inr (.inr 38)), (1, .inl a0)]) (by decide) hD (Nat.le_of_ble_eq_true rfl) rfl (fun X _ ok => by
  have ok : Ok X Y KC cX6_takesInCondition 2 RX6 (rm0q 3 67) (some .boolean) := ok
  unfold f_X6_takesInCondition at h
  refine q_aload_n ok dX6_takesInCondition_0 0 rfl ?_
  refine q_getI ok fl_X6_77 kC_38 fC_38_1 dX6_takesInCondition_1 ?_
  obtain ⟨g1, hs1, hs2, hs3, hs4, hs5, hs6⟩ := h
  by_cases c1 : (σ 38 1) = 8
  · have h := hs1 c1
    refine q_tsIn (tgt := 40) ok dX6_takesInCondition_4 g1 (by omega) (by omega) (by rw [c1]; rfl) (by decide) ?_
    refine q_aload_n ok dX6_takesInCondition_40 0 rfl ?_
    refine q_iload_n ok dX6_takesInCondition_41 1 rfl ?_
    refine q_callVI (st := []) ok cs_X6_190 kC_38 rfl (c_X6_takesTermBegin X.2.1 Y ok.2.2.2.2.2.2.2.2 h) ⟨rfl, rfl, Nat.le_of_ble_eq_true rfl, Nat.le_of_ble_eq_true rfl⟩ rfl rfl (Nat.le_of_ble_eq_true rfl) dX6_takesInCondition_42 (fun σ1 r1 h => ?_)
    exact q_zret ok dX6_takesInCondition_45 h.1 h.2
  by_cases c4 : (σ 38 1) = 9
  · have h := hs2 c4
    refine q_tsIn (tgt := 46) ok dX6_takesInCondition_4 g1 (by omega) (by omega) (by rw [c4]; rfl) (by decide) ?_
    refine q_iload_n ok dX6_takesInCondition_46 1 rfl ?_
    refine q_callSI (st := []) ok cs_X6_116 (c_X6_isFlag X.2.1 Y ok.2.2.2.2.2.2.2.2 h) ⟨rfl, rfl, Nat.le_of_ble_eq_true rfl, Nat.le_of_ble_eq_true rfl⟩ rfl rfl (Nat.le_of_ble_eq_true rfl) dX6_takesInCondition_47 (fun σ2 r2 h => ?_)
    obtain ⟨g2, hT2a, hT2b⟩ := h
    refine q_if_eq (tgt := 70) ok dX6_takesInCondition_50 (by decide) g2 (fun c3 => ?_) (fun c3 => ?_)
    · have h := hT2a c3
      refine q_iconst ok dX6_takesInCondition_70 ?_
      exact q_zret ok dX6_takesInCondition_71 (by decide) h
    · have h := hT2b c3
      refine q_aload_n ok dX6_takesInCondition_53 0 rfl ?_
      refine q_iconst ok dX6_takesInCondition_54 ?_
      refine q_iload_n ok dX6_takesInCondition_55 1 rfl ?_
      refine q_bipush ok dX6_takesInCondition_56 rfl ?_
      refine q_isub ok dX6_takesInCondition_58 ?_
      refine q_iconst ok dX6_takesInCondition_59 ?_
      refine q_callVI (st := []) ok cs_X6_193 kC_38 rfl (c_X6_addTerm X.2.1 Y ok.2.2.2.2.2.2.2.2 h) ⟨rfl, rfl, Nat.le_of_ble_eq_true rfl, Nat.le_of_ble_eq_true rfl⟩ rfl rfl (Nat.le_of_ble_eq_true rfl) dX6_takesInCondition_60 (fun σ3 r3 h => ?_)
      obtain ⟨g3, hT1a, hT1b⟩ := h
      refine q_if_eq (tgt := 70) ok dX6_takesInCondition_63 (by decide) g3 (fun c2 => ?_) (fun c2 => ?_)
      · have h := hT1a c2
        refine q_iconst ok dX6_takesInCondition_70 ?_
        exact q_zret ok dX6_takesInCondition_71 (by decide) h
      · have h := hT1b c2
        refine q_iconst ok dX6_takesInCondition_66 ?_
        refine q_goto (tgt := 71) ok dX6_takesInCondition_67 (by decide) ?_
        exact q_zret ok dX6_takesInCondition_71 (by decide) h
  by_cases c5 : (σ 38 1) = 10
  · have h := hs3 c5
    refine q_tsIn (tgt := 72) ok dX6_takesInCondition_4 g1 (by omega) (by omega) (by rw [c5]; rfl) (by decide) ?_
    refine q_aload_n ok dX6_takesInCondition_72 0 rfl ?_
    refine q_iload_n ok dX6_takesInCondition_73 1 rfl ?_
    refine q_callVI (st := []) ok cs_X6_196 kC_38 rfl (c_X6_takesTermSign X.2.1 Y ok.2.2.2.2.2.2.2.2 h) ⟨rfl, rfl, Nat.le_of_ble_eq_true rfl, Nat.le_of_ble_eq_true rfl⟩ rfl rfl (Nat.le_of_ble_eq_true rfl) dX6_takesInCondition_74 (fun σ4 r4 h => ?_)
    exact q_zret ok dX6_takesInCondition_77 h.1 h.2
  by_cases c8 : (σ 38 1) = 11
  · have h := hs4 c8
    refine q_tsIn (tgt := 78) ok dX6_takesInCondition_4 g1 (by omega) (by omega) (by rw [c8]; rfl) (by decide) ?_
    refine q_iload_n ok dX6_takesInCondition_78 1 rfl ?_
    refine q_callSI (st := []) ok cs_X6_97 (c_X6_isDigit X.2.1 Y ok.2.2.2.2.2.2.2.2 h) ⟨rfl, rfl, Nat.le_of_ble_eq_true rfl, Nat.le_of_ble_eq_true rfl⟩ rfl rfl (Nat.le_of_ble_eq_true rfl) dX6_takesInCondition_79 (fun σ5 r5 h => ?_)
    obtain ⟨g4, hT4a, hT4b⟩ := h
    refine q_if_eq (tgt := 108) ok dX6_takesInCondition_82 (by decide) g4 (fun c7 => ?_) (fun c7 => ?_)
    · have h := hT4a c7
      refine q_iconst ok dX6_takesInCondition_108 ?_
      exact q_zret ok dX6_takesInCondition_109 (by decide) h
    · have h := hT4b c7
      refine q_aload_n ok dX6_takesInCondition_85 0 rfl ?_
      refine q_aload_n ok dX6_takesInCondition_86 0 rfl ?_
      refine q_getI ok fl_X6_119 kC_38 fC_38_7 dX6_takesInCondition_87 ?_
      refine q_aload_n ok dX6_takesInCondition_90 0 rfl ?_
      refine q_getI ok fl_X6_125 kC_38 fC_38_8 dX6_takesInCondition_91 ?_
      refine q_iload_n ok dX6_takesInCondition_94 1 rfl ?_
      refine q_bipush ok dX6_takesInCondition_95 rfl ?_
      refine q_isub ok dX6_takesInCondition_97 ?_
      refine q_callVI (st := []) ok cs_X6_193 kC_38 rfl (c_X6_addTerm X.2.1 Y ok.2.2.2.2.2.2.2.2 h) ⟨rfl, rfl, Nat.le_of_ble_eq_true rfl, Nat.le_of_ble_eq_true rfl⟩ rfl rfl (Nat.le_of_ble_eq_true rfl) dX6_takesInCondition_98 (fun σ6 r6 h => ?_)
      obtain ⟨g5, hT3a, hT3b⟩ := h
      refine q_if_eq (tgt := 108) ok dX6_takesInCondition_101 (by decide) g5 (fun c6 => ?_) (fun c6 => ?_)
      · have h := hT3a c6
        refine q_iconst ok dX6_takesInCondition_108 ?_
        exact q_zret ok dX6_takesInCondition_109 (by decide) h
      · have h := hT3b c6
        refine q_iconst ok dX6_takesInCondition_104 ?_
        refine q_goto (tgt := 109) ok dX6_takesInCondition_105 (by decide) ?_
        exact q_zret ok dX6_takesInCondition_109 (by decide) h
  by_cases c9 : (σ 38 1) = 12
  · have h := hs5 c9
    refine q_tsIn (tgt := 110) ok dX6_takesInCondition_4 g1 (by omega) (by omega) (by rw [c9]; rfl) (by decide) ?_
    refine q_aload_n ok dX6_takesInCondition_110 0 rfl ?_
    refine q_iload_n ok dX6_takesInCondition_111 1 rfl ?_
    refine q_callVI (st := []) ok cs_X6_199 kC_38 rfl (c_X6_takesTermEnd X.2.1 Y ok.2.2.2.2.2.2.2.2 h) ⟨rfl, rfl, Nat.le_of_ble_eq_true rfl, Nat.le_of_ble_eq_true rfl⟩ rfl rfl (Nat.le_of_ble_eq_true rfl) dX6_takesInCondition_112 (fun σ7 r7 h => ?_)
    exact q_zret ok dX6_takesInCondition_115 h.1 h.2
  have h := hs6 (by omega)
  refine q_tsOut (tgt := 116) ok dX6_takesInCondition_4 g1 (by omega) (by decide) ?_
  refine q_iconst ok dX6_takesInCondition_116 ?_
  exact q_zret ok dX6_takesInCondition_117 (by decide) h)
/-! BranchingStory$Reader.takes(I)Z -/
def f_X6_takes (a0 : Int) (σ : St) (Q : St → Int → Prop) : Prop :=
  inR (σ 38 1) ∧ (((σ 38 1) = 0 → inR a0 ∧ ((¬ a0 = 61 → Q σ 0) ∧ (a0 = 61 → f_X6_await 1 σ (fun σ1 r1 => inR r1 ∧ ((r1 = 0 → Q σ1 0) ∧ (¬ r1 = 0 → Q σ1 1)))))) ∧ ((σ 38 1) = 1 → f_X6_takesNodeName a0 σ (fun σ2 r2 => (r2 = 0 ∨ r2 = 1) ∧ Q σ2 r2)) ∧ ((σ 38 1) = 2 → inR a0 ∧ ((¬ a0 = 35 → f_X6_takesInBlock a0 σ (fun σ3 r3 => (r3 = 0 ∨ r3 = 1) ∧ Q σ3 r3)) ∧ (a0 = 35 → f_X6_takesHubSign σ (fun σ4 r4 => (r4 = 0 ∨ r4 = 1) ∧ Q σ4 r4)))) ∧ ((σ 38 1) = 3 → f_X6_takesInBlock a0 σ (fun σ5 r5 => (r5 = 0 ∨ r5 = 1) ∧ Q σ5 r5)) ∧ ((σ 38 1) = 4 → inR a0 ∧ ((¬ a0 = 123 → f_X6_takesInBlock a0 σ (fun σ6 r6 => (r6 = 0 ∨ r6 = 1) ∧ Q σ6 r6)) ∧ (a0 = 123 → f_X6_opensBlock 1 σ (fun σ7 r7 => (r7 = 0 ∨ r7 = 1) ∧ Q σ7 r7)))) ∧ ((σ 38 1) = 5 → f_X6_isFlag a0 σ (fun σ8 r8 => inR r8 ∧ ((r8 = 0 → Q σ8 0) ∧ (¬ r8 = 0 → f_X6_add (σ8 38 7) (a0 - 97) 0 σ8 (fun σ9 r9 => inR r9 ∧ ((r9 = 0 → Q σ9 0) ∧ (¬ r9 = 0 → Q σ9 1))))))) ∧ ((σ 38 1) = 6 → f_X6_takesMeterSign a0 σ (fun σ10 r10 => (r10 = 0 ∨ r10 = 1) ∧ Q σ10 r10)) ∧ ((σ 38 1) = 7 → f_X6_isDigit a0 σ (fun σ11 r11 => inR r11 ∧ ((r11 = 0 → Q σ11 0) ∧ (¬ r11 = 0 → f_X6_add (σ11 38 7) (σ11 38 8) (a0 - 48) σ11 (fun σ12 r12 => inR r12 ∧ ((r12 = 0 → Q σ12 0) ∧ (¬ r12 = 0 → Q σ12 1))))))) ∧ ((σ 38 1) = 8 → f_X6_takesInCondition a0 σ (fun σ13 r13 => (r13 = 0 ∨ r13 = 1) ∧ Q σ13 r13)) ∧ ((σ 38 1) = 9 → f_X6_takesInCondition a0 σ (fun σ14 r14 => (r14 = 0 ∨ r14 = 1) ∧ Q σ14 r14)) ∧ ((σ 38 1) = 10 → f_X6_takesInCondition a0 σ (fun σ15 r15 => (r15 = 0 ∨ r15 = 1) ∧ Q σ15 r15)) ∧ ((σ 38 1) = 11 → f_X6_takesInCondition a0 σ (fun σ16 r16 => (r16 = 0 ∨ r16 = 1) ∧ Q σ16 r16)) ∧ ((σ 38 1) = 12 → f_X6_takesInCondition a0 σ (fun σ17 r17 => (r17 = 0 ∨ r17 = 1) ∧ Q σ17 r17)) ∧ ((σ 38 1) = 13 → f_X6_takesLabel a0 σ (fun σ18 r18 => (r18 = 0 ∨ r18 = 1) ∧ Q σ18 r18)) ∧ ((σ 38 1) = 14 → inR a0 ∧ ((¬ a0 = 63 → inR a0 ∧ ((¬ a0 = 93 → Q σ 0) ∧ (a0 = 93 → f_X6_await 15 σ (fun σ19 r19 => inR r19 ∧ ((r19 = 0 → Q σ19 0) ∧ (¬ r19 = 0 → Q σ19 1)))))) ∧ (a0 = 63 → f_X6_await 8 σ (fun σ20 r20 => (r20 = 0 ∨ r20 = 1) ∧ Q σ20 r20)))) ∧ ((σ 38 1) = 15 → inR a0 ∧ ((¬ a0 = 123 → Q σ 0) ∧ (a0 = 123 → f_X6_opensBlock 0 σ (fun σ21 r21 => inR r21 ∧ ((r21 = 0 → Q σ21 0) ∧ (¬ r21 = 0 → Q σ21 1)))))) ∧ ((σ 38 1) = 16 → f_X6_isName a0 σ (fun σ22 r22 => inR r22 ∧ ((r22 = 0 → Q σ22 0) ∧ (¬ r22 = 0 → f_X6_addGoal (a0 - 65) σ22 (fun σ23 r23 => inR r23 ∧ ((r23 = 0 → Q σ23 0) ∧ (¬ r23 = 0 → Q σ23 1))))))) ∧ ((σ 38 1) = 17 → f_X6_isDigit a0 σ (fun σ24 r24 => inR r24 ∧ ((r24 = 0 → Q σ24 0) ∧ (¬ r24 = 0 → f_X6_add 10 (a0 - 48) 0 σ24 (fun σ25 r25 => inR r25 ∧ ((r25 = 0 → Q σ25 0) ∧ (¬ r25 = 0 → Q σ25 1))))))) ∧ (((σ 38 1) < 0 ∨ 17 < (σ 38 1)) → f_X6_takesInCondition a0 σ (fun σ26 r26 => (r26 = 0 ∨ r26 = 1) ∧ Q σ26 r26)))
set_option maxRecDepth 100000 in
set_option maxHeartbeats 4000000 in
theorem c_X6_takes (l : Launch) (Y : Cy) (hD : ∀ σ, va_D Y.2.2.2 (wsOf KC Y.2.1 Y.2.2.1 σ)) {a0 : Int} {σ : St} {Q : St → Int → Prop} (h : f_X6_takes a0 σ Q) : ConI l yX6_takes cX6_takes 2 .boolean (rm0q 5 112) Y KC σ [.inr (.inr 38), .inl a0] Q := con_of (lv := [(0, .inr (.inr 38)), (1, .inl a0)]) (by decide) hD (Nat.le_of_ble_eq_true rfl) rfl (fun X _ ok => by
  have ok : Ok X Y KC cX6_takes 2 RX6 (rm0q 5 112) (some .boolean) := ok
  unfold f_X6_takes at h
  refine q_aload_n ok dX6_takes_0 0 rfl ?_
  refine q_getI ok fl_X6_77 kC_38 fC_38_1 dX6_takes_1 ?_
  obtain ⟨g1, hs1, hs2, hs3, hs4, hs5, hs6, hs7, hs8, hs9, hs10, hs11, hs12, hs13, hs14, hs15, hs16, hs17, hs18, hs19⟩ := h
  by_cases c3 : (σ 38 1) = 0
  · have h := hs1 c3
    refine q_tsIn (tgt := 92) ok dX6_takes_4 g1 (by omega) (by omega) (by rw [c3]; rfl) (by decide) ?_
    refine q_iload_n ok dX6_takes_92 1 rfl ?_
    refine q_bipush ok dX6_takes_93 rfl ?_
    obtain ⟨g2, hT2a, hT2b⟩ := h
    refine q_icmp_ne (tgt := 110) ok dX6_takes_95 (by decide) g2 (by unfold inR; decide) (fun c2 => ?_) (fun c2 => ?_)
    · have h := hT2a c2
      refine q_iconst ok dX6_takes_110 ?_
      exact q_zret ok dX6_takes_111 (by decide) h
    · have h := hT2b c2
      refine q_aload_n ok dX6_takes_98 0 rfl ?_
      refine q_iconst ok dX6_takes_99 ?_
      refine q_callVI (st := []) ok cs_X6_100 kC_38 rfl (c_X6_await X.2.1 Y ok.2.2.2.2.2.2.2.2 h) ⟨rfl, rfl, Nat.le_of_ble_eq_true rfl, Nat.le_of_ble_eq_true rfl⟩ rfl rfl (Nat.le_of_ble_eq_true rfl) dX6_takes_100 (fun σ1 r1 h => ?_)
      obtain ⟨g3, hT1a, hT1b⟩ := h
      refine q_if_eq (tgt := 110) ok dX6_takes_103 (by decide) g3 (fun c1 => ?_) (fun c1 => ?_)
      · have h := hT1a c1
        refine q_iconst ok dX6_takes_110 ?_
        exact q_zret ok dX6_takes_111 (by decide) h
      · have h := hT1b c1
        refine q_iconst ok dX6_takes_106 ?_
        refine q_goto (tgt := 111) ok dX6_takes_107 (by decide) ?_
        exact q_zret ok dX6_takes_111 (by decide) h
  by_cases c4 : (σ 38 1) = 1
  · have h := hs2 c4
    refine q_tsIn (tgt := 112) ok dX6_takes_4 g1 (by omega) (by omega) (by rw [c4]; rfl) (by decide) ?_
    refine q_aload_n ok dX6_takes_112 0 rfl ?_
    refine q_iload_n ok dX6_takes_113 1 rfl ?_
    refine q_callVI (st := []) ok cs_X6_103 kC_38 rfl (c_X6_takesNodeName X.2.1 Y ok.2.2.2.2.2.2.2.2 h) ⟨rfl, rfl, Nat.le_of_ble_eq_true rfl, Nat.le_of_ble_eq_true rfl⟩ rfl rfl (Nat.le_of_ble_eq_true rfl) dX6_takes_114 (fun σ2 r2 h => ?_)
    exact q_zret ok dX6_takes_117 h.1 h.2
  by_cases c6 : (σ 38 1) = 2
  · have h := hs3 c6
    refine q_tsIn (tgt := 118) ok dX6_takes_4 g1 (by omega) (by omega) (by rw [c6]; rfl) (by decide) ?_
    refine q_iload_n ok dX6_takes_118 1 rfl ?_
    refine q_bipush ok dX6_takes_119 rfl ?_
    obtain ⟨g4, hT3a, hT3b⟩ := h
    refine q_icmp_ne (tgt := 131) ok dX6_takes_121 (by decide) g4 (by unfold inR; decide) (fun c5 => ?_) (fun c5 => ?_)
    · have h := hT3a c5
      refine q_aload_n ok dX6_takes_131 0 rfl ?_
      refine q_iload_n ok dX6_takes_132 1 rfl ?_
      refine q_callVI (st := []) ok cs_X6_109 kC_38 rfl (c_X6_takesInBlock X.2.1 Y ok.2.2.2.2.2.2.2.2 h) ⟨rfl, rfl, Nat.le_of_ble_eq_true rfl, Nat.le_of_ble_eq_true rfl⟩ rfl rfl (Nat.le_of_ble_eq_true rfl) dX6_takes_133 (fun σ3 r3 h => ?_)
      exact q_zret ok dX6_takes_136 h.1 h.2
    · have h := hT3b c5
      refine q_aload_n ok dX6_takes_124 0 rfl ?_
      refine q_callVI (st := []) ok cs_X6_106 kC_38 rfl (c_X6_takesHubSign X.2.1 Y ok.2.2.2.2.2.2.2.2 h) ⟨rfl, rfl, Nat.le_of_ble_eq_true rfl, Nat.le_of_ble_eq_true rfl⟩ rfl rfl (Nat.le_of_ble_eq_true rfl) dX6_takes_125 (fun σ4 r4 h => ?_)
      refine q_goto (tgt := 136) ok dX6_takes_128 (by decide) ?_
      exact q_zret ok dX6_takes_136 h.1 h.2
  by_cases c7 : (σ 38 1) = 3
  · have h := hs4 c7
    refine q_tsIn (tgt := 137) ok dX6_takes_4 g1 (by omega) (by omega) (by rw [c7]; rfl) (by decide) ?_
    refine q_aload_n ok dX6_takes_137 0 rfl ?_
    refine q_iload_n ok dX6_takes_138 1 rfl ?_
    refine q_callVI (st := []) ok cs_X6_109 kC_38 rfl (c_X6_takesInBlock X.2.1 Y ok.2.2.2.2.2.2.2.2 h) ⟨rfl, rfl, Nat.le_of_ble_eq_true rfl, Nat.le_of_ble_eq_true rfl⟩ rfl rfl (Nat.le_of_ble_eq_true rfl) dX6_takes_139 (fun σ5 r5 h => ?_)
    exact q_zret ok dX6_takes_142 h.1 h.2
  by_cases c9 : (σ 38 1) = 4
  · have h := hs5 c9
    refine q_tsIn (tgt := 143) ok dX6_takes_4 g1 (by omega) (by omega) (by rw [c9]; rfl) (by decide) ?_
    refine q_iload_n ok dX6_takes_143 1 rfl ?_
    refine q_bipush ok dX6_takes_144 rfl ?_
    obtain ⟨g5, hT4a, hT4b⟩ := h
    refine q_icmp_ne (tgt := 157) ok dX6_takes_146 (by decide) g5 (by unfold inR; decide) (fun c8 => ?_) (fun c8 => ?_)
    · have h := hT4a c8
      refine q_aload_n ok dX6_takes_157 0 rfl ?_
      refine q_iload_n ok dX6_takes_158 1 rfl ?_
      refine q_callVI (st := []) ok cs_X6_109 kC_38 rfl (c_X6_takesInBlock X.2.1 Y ok.2.2.2.2.2.2.2.2 h) ⟨rfl, rfl, Nat.le_of_ble_eq_true rfl, Nat.le_of_ble_eq_true rfl⟩ rfl rfl (Nat.le_of_ble_eq_true rfl) dX6_takes_159 (fun σ6 r6 h => ?_)
      exact q_zret ok dX6_takes_162 h.1 h.2
    · have h := hT4b c8
      refine q_aload_n ok dX6_takes_149 0 rfl ?_
      refine q_iconst ok dX6_takes_150 ?_
      refine q_callVI (st := []) ok cs_X6_112 kC_38 rfl (c_X6_opensBlock X.2.1 Y ok.2.2.2.2.2.2.2.2 h) ⟨rfl, rfl, Nat.le_of_ble_eq_true rfl, Nat.le_of_ble_eq_true rfl⟩ rfl rfl (Nat.le_of_ble_eq_true rfl) dX6_takes_151 (fun σ7 r7 h => ?_)
      refine q_goto (tgt := 162) ok dX6_takes_154 (by decide) ?_
      exact q_zret ok dX6_takes_162 h.1 h.2
  by_cases c12 : (σ 38 1) = 5
  · have h := hs6 c12
    refine q_tsIn (tgt := 163) ok dX6_takes_4 g1 (by omega) (by omega) (by rw [c12]; rfl) (by decide) ?_
    refine q_iload_n ok dX6_takes_163 1 rfl ?_
    refine q_callSI (st := []) ok cs_X6_116 (c_X6_isFlag X.2.1 Y ok.2.2.2.2.2.2.2.2 h) ⟨rfl, rfl, Nat.le_of_ble_eq_true rfl, Nat.le_of_ble_eq_true rfl⟩ rfl rfl (Nat.le_of_ble_eq_true rfl) dX6_takes_164 (fun σ8 r8 h => ?_)
    obtain ⟨g6, hT6a, hT6b⟩ := h
    refine q_if_eq (tgt := 190) ok dX6_takes_167 (by decide) g6 (fun c11 => ?_) (fun c11 => ?_)
    · have h := hT6a c11
      refine q_iconst ok dX6_takes_190 ?_
      exact q_zret ok dX6_takes_191 (by decide) h
    · have h := hT6b c11
      refine q_aload_n ok dX6_takes_170 0 rfl ?_
      refine q_aload_n ok dX6_takes_171 0 rfl ?_
      refine q_getI ok fl_X6_119 kC_38 fC_38_7 dX6_takes_172 ?_
      refine q_iload_n ok dX6_takes_175 1 rfl ?_
      refine q_bipush ok dX6_takes_176 rfl ?_
      refine q_isub ok dX6_takes_178 ?_
      refine q_iconst ok dX6_takes_179 ?_
      refine q_callVI (st := []) ok cs_X6_66 kC_38 rfl (c_X6_add X.2.1 Y ok.2.2.2.2.2.2.2.2 h) ⟨rfl, rfl, Nat.le_of_ble_eq_true rfl, Nat.le_of_ble_eq_true rfl⟩ rfl rfl (Nat.le_of_ble_eq_true rfl) dX6_takes_180 (fun σ9 r9 h => ?_)
      obtain ⟨g7, hT5a, hT5b⟩ := h
      refine q_if_eq (tgt := 190) ok dX6_takes_183 (by decide) g7 (fun c10 => ?_) (fun c10 => ?_)
      · have h := hT5a c10
        refine q_iconst ok dX6_takes_190 ?_
        exact q_zret ok dX6_takes_191 (by decide) h
      · have h := hT5b c10
        refine q_iconst ok dX6_takes_186 ?_
        refine q_goto (tgt := 191) ok dX6_takes_187 (by decide) ?_
        exact q_zret ok dX6_takes_191 (by decide) h
  by_cases c13 : (σ 38 1) = 6
  · have h := hs7 c13
    refine q_tsIn (tgt := 192) ok dX6_takes_4 g1 (by omega) (by omega) (by rw [c13]; rfl) (by decide) ?_
    refine q_aload_n ok dX6_takes_192 0 rfl ?_
    refine q_iload_n ok dX6_takes_193 1 rfl ?_
    refine q_callVI (st := []) ok cs_X6_122 kC_38 rfl (c_X6_takesMeterSign X.2.1 Y ok.2.2.2.2.2.2.2.2 h) ⟨rfl, rfl, Nat.le_of_ble_eq_true rfl, Nat.le_of_ble_eq_true rfl⟩ rfl rfl (Nat.le_of_ble_eq_true rfl) dX6_takes_194 (fun σ10 r10 h => ?_)
    exact q_zret ok dX6_takes_197 h.1 h.2
  by_cases c16 : (σ 38 1) = 7
  · have h := hs8 c16
    refine q_tsIn (tgt := 198) ok dX6_takes_4 g1 (by omega) (by omega) (by rw [c16]; rfl) (by decide) ?_
    refine q_iload_n ok dX6_takes_198 1 rfl ?_
    refine q_callSI (st := []) ok cs_X6_97 (c_X6_isDigit X.2.1 Y ok.2.2.2.2.2.2.2.2 h) ⟨rfl, rfl, Nat.le_of_ble_eq_true rfl, Nat.le_of_ble_eq_true rfl⟩ rfl rfl (Nat.le_of_ble_eq_true rfl) dX6_takes_199 (fun σ11 r11 h => ?_)
    obtain ⟨g8, hT8a, hT8b⟩ := h
    refine q_if_eq (tgt := 228) ok dX6_takes_202 (by decide) g8 (fun c15 => ?_) (fun c15 => ?_)
    · have h := hT8a c15
      refine q_iconst ok dX6_takes_228 ?_
      exact q_zret ok dX6_takes_229 (by decide) h
    · have h := hT8b c15
      refine q_aload_n ok dX6_takes_205 0 rfl ?_
      refine q_aload_n ok dX6_takes_206 0 rfl ?_
      refine q_getI ok fl_X6_119 kC_38 fC_38_7 dX6_takes_207 ?_
      refine q_aload_n ok dX6_takes_210 0 rfl ?_
      refine q_getI ok fl_X6_125 kC_38 fC_38_8 dX6_takes_211 ?_
      refine q_iload_n ok dX6_takes_214 1 rfl ?_
      refine q_bipush ok dX6_takes_215 rfl ?_
      refine q_isub ok dX6_takes_217 ?_
      refine q_callVI (st := []) ok cs_X6_66 kC_38 rfl (c_X6_add X.2.1 Y ok.2.2.2.2.2.2.2.2 h) ⟨rfl, rfl, Nat.le_of_ble_eq_true rfl, Nat.le_of_ble_eq_true rfl⟩ rfl rfl (Nat.le_of_ble_eq_true rfl) dX6_takes_218 (fun σ12 r12 h => ?_)
      obtain ⟨g9, hT7a, hT7b⟩ := h
      refine q_if_eq (tgt := 228) ok dX6_takes_221 (by decide) g9 (fun c14 => ?_) (fun c14 => ?_)
      · have h := hT7a c14
        refine q_iconst ok dX6_takes_228 ?_
        exact q_zret ok dX6_takes_229 (by decide) h
      · have h := hT7b c14
        refine q_iconst ok dX6_takes_224 ?_
        refine q_goto (tgt := 229) ok dX6_takes_225 (by decide) ?_
        exact q_zret ok dX6_takes_229 (by decide) h
  by_cases c17 : (σ 38 1) = 8
  · have h := hs9 c17
    refine q_tsIn (tgt := 343) ok dX6_takes_4 g1 (by omega) (by omega) (by rw [c17]; rfl) (by decide) ?_
    refine q_aload_n ok dX6_takes_343 0 rfl ?_
    refine q_iload_n ok dX6_takes_344 1 rfl ?_
    refine q_callVI (st := []) ok cs_X6_137 kC_38 rfl (c_X6_takesInCondition X.2.1 Y ok.2.2.2.2.2.2.2.2 h) ⟨rfl, rfl, Nat.le_of_ble_eq_true rfl, Nat.le_of_ble_eq_true rfl⟩ rfl rfl (Nat.le_of_ble_eq_true rfl) dX6_takes_345 (fun σ13 r13 h => ?_)
    exact q_zret ok dX6_takes_348 h.1 h.2
  by_cases c18 : (σ 38 1) = 9
  · have h := hs10 c18
    refine q_tsIn (tgt := 343) ok dX6_takes_4 g1 (by omega) (by omega) (by rw [c18]; rfl) (by decide) ?_
    refine q_aload_n ok dX6_takes_343 0 rfl ?_
    refine q_iload_n ok dX6_takes_344 1 rfl ?_
    refine q_callVI (st := []) ok cs_X6_137 kC_38 rfl (c_X6_takesInCondition X.2.1 Y ok.2.2.2.2.2.2.2.2 h) ⟨rfl, rfl, Nat.le_of_ble_eq_true rfl, Nat.le_of_ble_eq_true rfl⟩ rfl rfl (Nat.le_of_ble_eq_true rfl) dX6_takes_345 (fun σ14 r14 h => ?_)
    exact q_zret ok dX6_takes_348 h.1 h.2
  by_cases c19 : (σ 38 1) = 10
  · have h := hs11 c19
    refine q_tsIn (tgt := 343) ok dX6_takes_4 g1 (by omega) (by omega) (by rw [c19]; rfl) (by decide) ?_
    refine q_aload_n ok dX6_takes_343 0 rfl ?_
    refine q_iload_n ok dX6_takes_344 1 rfl ?_
    refine q_callVI (st := []) ok cs_X6_137 kC_38 rfl (c_X6_takesInCondition X.2.1 Y ok.2.2.2.2.2.2.2.2 h) ⟨rfl, rfl, Nat.le_of_ble_eq_true rfl, Nat.le_of_ble_eq_true rfl⟩ rfl rfl (Nat.le_of_ble_eq_true rfl) dX6_takes_345 (fun σ15 r15 h => ?_)
    exact q_zret ok dX6_takes_348 h.1 h.2
  by_cases c20 : (σ 38 1) = 11
  · have h := hs12 c20
    refine q_tsIn (tgt := 343) ok dX6_takes_4 g1 (by omega) (by omega) (by rw [c20]; rfl) (by decide) ?_
    refine q_aload_n ok dX6_takes_343 0 rfl ?_
    refine q_iload_n ok dX6_takes_344 1 rfl ?_
    refine q_callVI (st := []) ok cs_X6_137 kC_38 rfl (c_X6_takesInCondition X.2.1 Y ok.2.2.2.2.2.2.2.2 h) ⟨rfl, rfl, Nat.le_of_ble_eq_true rfl, Nat.le_of_ble_eq_true rfl⟩ rfl rfl (Nat.le_of_ble_eq_true rfl) dX6_takes_345 (fun σ16 r16 h => ?_)
    exact q_zret ok dX6_takes_348 h.1 h.2
  by_cases c21 : (σ 38 1) = 12
  · have h := hs13 c21
    refine q_tsIn (tgt := 343) ok dX6_takes_4 g1 (by omega) (by omega) (by rw [c21]; rfl) (by decide) ?_
    refine q_aload_n ok dX6_takes_343 0 rfl ?_
    refine q_iload_n ok dX6_takes_344 1 rfl ?_
    refine q_callVI (st := []) ok cs_X6_137 kC_38 rfl (c_X6_takesInCondition X.2.1 Y ok.2.2.2.2.2.2.2.2 h) ⟨rfl, rfl, Nat.le_of_ble_eq_true rfl, Nat.le_of_ble_eq_true rfl⟩ rfl rfl (Nat.le_of_ble_eq_true rfl) dX6_takes_345 (fun σ17 r17 h => ?_)
    exact q_zret ok dX6_takes_348 h.1 h.2
  by_cases c22 : (σ 38 1) = 13
  · have h := hs14 c22
    refine q_tsIn (tgt := 230) ok dX6_takes_4 g1 (by omega) (by omega) (by rw [c22]; rfl) (by decide) ?_
    refine q_aload_n ok dX6_takes_230 0 rfl ?_
    refine q_iload_n ok dX6_takes_231 1 rfl ?_
    refine q_callVI (st := []) ok cs_X6_128 kC_38 rfl (c_X6_takesLabel X.2.1 Y ok.2.2.2.2.2.2.2.2 h) ⟨rfl, rfl, Nat.le_of_ble_eq_true rfl, Nat.le_of_ble_eq_true rfl⟩ rfl rfl (Nat.le_of_ble_eq_true rfl) dX6_takes_232 (fun σ18 r18 h => ?_)
    exact q_zret ok dX6_takes_235 h.1 h.2
  by_cases c26 : (σ 38 1) = 14
  · have h := hs15 c26
    refine q_tsIn (tgt := 236) ok dX6_takes_4 g1 (by omega) (by omega) (by rw [c26]; rfl) (by decide) ?_
    refine q_iload_n ok dX6_takes_236 1 rfl ?_
    refine q_bipush ok dX6_takes_237 rfl ?_
    obtain ⟨g10, hT11a, hT11b⟩ := h
    refine q_icmp_ne (tgt := 251) ok dX6_takes_239 (by decide) g10 (by unfold inR; decide) (fun c25 => ?_) (fun c25 => ?_)
    · have h := hT11a c25
      refine q_iload_n ok dX6_takes_251 1 rfl ?_
      refine q_bipush ok dX6_takes_252 rfl ?_
      obtain ⟨g11, hT10a, hT10b⟩ := h
      refine q_icmp_ne (tgt := 270) ok dX6_takes_254 (by decide) g11 (by unfold inR; decide) (fun c24 => ?_) (fun c24 => ?_)
      · have h := hT10a c24
        refine q_iconst ok dX6_takes_270 ?_
        exact q_zret ok dX6_takes_271 (by decide) h
      · have h := hT10b c24
        refine q_aload_n ok dX6_takes_257 0 rfl ?_
        refine q_bipush ok dX6_takes_258 rfl ?_
        refine q_callVI (st := []) ok cs_X6_100 kC_38 rfl (c_X6_await X.2.1 Y ok.2.2.2.2.2.2.2.2 h) ⟨rfl, rfl, Nat.le_of_ble_eq_true rfl, Nat.le_of_ble_eq_true rfl⟩ rfl rfl (Nat.le_of_ble_eq_true rfl) dX6_takes_260 (fun σ19 r19 h => ?_)
        obtain ⟨g12, hT9a, hT9b⟩ := h
        refine q_if_eq (tgt := 270) ok dX6_takes_263 (by decide) g12 (fun c23 => ?_) (fun c23 => ?_)
        · have h := hT9a c23
          refine q_iconst ok dX6_takes_270 ?_
          exact q_zret ok dX6_takes_271 (by decide) h
        · have h := hT9b c23
          refine q_iconst ok dX6_takes_266 ?_
          refine q_goto (tgt := 271) ok dX6_takes_267 (by decide) ?_
          exact q_zret ok dX6_takes_271 (by decide) h
    · have h := hT11b c25
      refine q_aload_n ok dX6_takes_242 0 rfl ?_
      refine q_bipush ok dX6_takes_243 rfl ?_
      refine q_callVI (st := []) ok cs_X6_100 kC_38 rfl (c_X6_await X.2.1 Y ok.2.2.2.2.2.2.2.2 h) ⟨rfl, rfl, Nat.le_of_ble_eq_true rfl, Nat.le_of_ble_eq_true rfl⟩ rfl rfl (Nat.le_of_ble_eq_true rfl) dX6_takes_245 (fun σ20 r20 h => ?_)
      refine q_goto (tgt := 271) ok dX6_takes_248 (by decide) ?_
      exact q_zret ok dX6_takes_271 h.1 h.2
  by_cases c29 : (σ 38 1) = 15
  · have h := hs16 c29
    refine q_tsIn (tgt := 272) ok dX6_takes_4 g1 (by omega) (by omega) (by rw [c29]; rfl) (by decide) ?_
    refine q_iload_n ok dX6_takes_272 1 rfl ?_
    refine q_bipush ok dX6_takes_273 rfl ?_
    obtain ⟨g13, hT13a, hT13b⟩ := h
    refine q_icmp_ne (tgt := 290) ok dX6_takes_275 (by decide) g13 (by unfold inR; decide) (fun c28 => ?_) (fun c28 => ?_)
    · have h := hT13a c28
      refine q_iconst ok dX6_takes_290 ?_
      exact q_zret ok dX6_takes_291 (by decide) h
    · have h := hT13b c28
      refine q_aload_n ok dX6_takes_278 0 rfl ?_
      refine q_iconst ok dX6_takes_279 ?_
      refine q_callVI (st := []) ok cs_X6_112 kC_38 rfl (c_X6_opensBlock X.2.1 Y ok.2.2.2.2.2.2.2.2 h) ⟨rfl, rfl, Nat.le_of_ble_eq_true rfl, Nat.le_of_ble_eq_true rfl⟩ rfl rfl (Nat.le_of_ble_eq_true rfl) dX6_takes_280 (fun σ21 r21 h => ?_)
      obtain ⟨g14, hT12a, hT12b⟩ := h
      refine q_if_eq (tgt := 290) ok dX6_takes_283 (by decide) g14 (fun c27 => ?_) (fun c27 => ?_)
      · have h := hT12a c27
        refine q_iconst ok dX6_takes_290 ?_
        exact q_zret ok dX6_takes_291 (by decide) h
      · have h := hT12b c27
        refine q_iconst ok dX6_takes_286 ?_
        refine q_goto (tgt := 291) ok dX6_takes_287 (by decide) ?_
        exact q_zret ok dX6_takes_291 (by decide) h
  by_cases c32 : (σ 38 1) = 16
  · have h := hs17 c32
    refine q_tsIn (tgt := 292) ok dX6_takes_4 g1 (by omega) (by omega) (by rw [c32]; rfl) (by decide) ?_
    refine q_iload_n ok dX6_takes_292 1 rfl ?_
    refine q_callSI (st := []) ok cs_X6_131 (c_X6_isName X.2.1 Y ok.2.2.2.2.2.2.2.2 h) ⟨rfl, rfl, Nat.le_of_ble_eq_true rfl, Nat.le_of_ble_eq_true rfl⟩ rfl rfl (Nat.le_of_ble_eq_true rfl) dX6_takes_293 (fun σ22 r22 h => ?_)
    obtain ⟨g15, hT15a, hT15b⟩ := h
    refine q_if_eq (tgt := 314) ok dX6_takes_296 (by decide) g15 (fun c31 => ?_) (fun c31 => ?_)
    · have h := hT15a c31
      refine q_iconst ok dX6_takes_314 ?_
      exact q_zret ok dX6_takes_315 (by decide) h
    · have h := hT15b c31
      refine q_aload_n ok dX6_takes_299 0 rfl ?_
      refine q_iload_n ok dX6_takes_300 1 rfl ?_
      refine q_bipush ok dX6_takes_301 rfl ?_
      refine q_isub ok dX6_takes_303 ?_
      refine q_callVI (st := []) ok cs_X6_134 kC_38 rfl (c_X6_addGoal X.2.1 Y ok.2.2.2.2.2.2.2.2 h) ⟨rfl, rfl, Nat.le_of_ble_eq_true rfl, Nat.le_of_ble_eq_true rfl⟩ rfl rfl (Nat.le_of_ble_eq_true rfl) dX6_takes_304 (fun σ23 r23 h => ?_)
      obtain ⟨g16, hT14a, hT14b⟩ := h
      refine q_if_eq (tgt := 314) ok dX6_takes_307 (by decide) g16 (fun c30 => ?_) (fun c30 => ?_)
      · have h := hT14a c30
        refine q_iconst ok dX6_takes_314 ?_
        exact q_zret ok dX6_takes_315 (by decide) h
      · have h := hT14b c30
        refine q_iconst ok dX6_takes_310 ?_
        refine q_goto (tgt := 315) ok dX6_takes_311 (by decide) ?_
        exact q_zret ok dX6_takes_315 (by decide) h
  by_cases c35 : (σ 38 1) = 17
  · have h := hs18 c35
    refine q_tsIn (tgt := 316) ok dX6_takes_4 g1 (by omega) (by omega) (by rw [c35]; rfl) (by decide) ?_
    refine q_iload_n ok dX6_takes_316 1 rfl ?_
    refine q_callSI (st := []) ok cs_X6_97 (c_X6_isDigit X.2.1 Y ok.2.2.2.2.2.2.2.2 h) ⟨rfl, rfl, Nat.le_of_ble_eq_true rfl, Nat.le_of_ble_eq_true rfl⟩ rfl rfl (Nat.le_of_ble_eq_true rfl) dX6_takes_317 (fun σ24 r24 h => ?_)
    obtain ⟨g17, hT17a, hT17b⟩ := h
    refine q_if_eq (tgt := 341) ok dX6_takes_320 (by decide) g17 (fun c34 => ?_) (fun c34 => ?_)
    · have h := hT17a c34
      refine q_iconst ok dX6_takes_341 ?_
      exact q_zret ok dX6_takes_342 (by decide) h
    · have h := hT17b c34
      refine q_aload_n ok dX6_takes_323 0 rfl ?_
      refine q_bipush ok dX6_takes_324 rfl ?_
      refine q_iload_n ok dX6_takes_326 1 rfl ?_
      refine q_bipush ok dX6_takes_327 rfl ?_
      refine q_isub ok dX6_takes_329 ?_
      refine q_iconst ok dX6_takes_330 ?_
      refine q_callVI (st := []) ok cs_X6_66 kC_38 rfl (c_X6_add X.2.1 Y ok.2.2.2.2.2.2.2.2 h) ⟨rfl, rfl, Nat.le_of_ble_eq_true rfl, Nat.le_of_ble_eq_true rfl⟩ rfl rfl (Nat.le_of_ble_eq_true rfl) dX6_takes_331 (fun σ25 r25 h => ?_)
      obtain ⟨g18, hT16a, hT16b⟩ := h
      refine q_if_eq (tgt := 341) ok dX6_takes_334 (by decide) g18 (fun c33 => ?_) (fun c33 => ?_)
      · have h := hT16a c33
        refine q_iconst ok dX6_takes_341 ?_
        exact q_zret ok dX6_takes_342 (by decide) h
      · have h := hT16b c33
        refine q_iconst ok dX6_takes_337 ?_
        refine q_goto (tgt := 342) ok dX6_takes_338 (by decide) ?_
        exact q_zret ok dX6_takes_342 (by decide) h
  have h := hs19 (by omega)
  refine q_tsOut (tgt := 343) ok dX6_takes_4 g1 (by omega) (by decide) ?_
  refine q_aload_n ok dX6_takes_343 0 rfl ?_
  refine q_iload_n ok dX6_takes_344 1 rfl ?_
  refine q_callVI (st := []) ok cs_X6_137 kC_38 rfl (c_X6_takesInCondition X.2.1 Y ok.2.2.2.2.2.2.2.2 h) ⟨rfl, rfl, Nat.le_of_ble_eq_true rfl, Nat.le_of_ble_eq_true rfl⟩ rfl rfl (Nat.le_of_ble_eq_true rfl) dX6_takes_345 (fun σ26 r26 h => ?_)
  exact q_zret ok dX6_takes_348 h.1 h.2)
/-! BranchingStory$Reader.canEnd()Z -/
def f_X6_canEnd (σ : St) (Q : St → Int → Prop) : Prop :=
  inR (σ 38 2) ∧ ((¬ (σ 38 2) = 1 → Q σ 0) ∧ ((σ 38 2) = 1 → inR (σ 38 1) ∧ (((σ 38 1) = 2 → Q σ 1) ∧ (¬ (σ 38 1) = 2 → inR (σ 38 1) ∧ (((σ 38 1) = 3 → Q σ 1) ∧ (¬ (σ 38 1) = 3 → inR (σ 38 1) ∧ ((¬ (σ 38 1) = 4 → Q σ 0) ∧ ((σ 38 1) = 4 → Q σ 1))))))))
set_option maxRecDepth 100000 in
set_option maxHeartbeats 4000000 in
theorem c_X6_canEnd (l : Launch) (Y : Cy) (hD : ∀ σ, va_D Y.2.2.2 (wsOf KC Y.2.1 Y.2.2.1 σ)) {σ : St} {Q : St → Int → Prop} (h : f_X6_canEnd  σ Q) : ConI l yX6_canEnd cX6_canEnd 1 .boolean (rm0q 0 0) Y KC σ [.inr (.inr 38)] Q := con_of (lv := [(0, .inr (.inr 38))]) (by decide) hD (Nat.le_of_ble_eq_true rfl) rfl (fun X _ ok => by
  have ok : Ok X Y KC cX6_canEnd 1 RX6 (rm0q 0 0) (some .boolean) := ok
  unfold f_X6_canEnd at h
  refine q_aload_n ok dX6_canEnd_0 0 rfl ?_
  refine q_getI ok fl_X6_80 kC_38 fC_38_2 dX6_canEnd_1 ?_
  refine q_iconst ok dX6_canEnd_4 ?_
  obtain ⟨g1, hT4a, hT4b⟩ := h
  refine q_icmp_ne (tgt := 36) ok dX6_canEnd_5 (by decide) g1 (by unfold inR; decide) (fun c4 => ?_) (fun c4 => ?_)
  · have h := hT4a c4
    refine q_iconst ok dX6_canEnd_36 ?_
    exact q_zret ok dX6_canEnd_37 (by decide) h
  · have h := hT4b c4
    refine q_aload_n ok dX6_canEnd_8 0 rfl ?_
    refine q_getI ok fl_X6_77 kC_38 fC_38_1 dX6_canEnd_9 ?_
    refine q_iconst ok dX6_canEnd_12 ?_
    obtain ⟨g2, hT3a, hT3b⟩ := h
    refine q_icmp_eq (tgt := 32) ok dX6_canEnd_13 (by decide) g2 (by unfold inR; decide) (fun c3 => ?_) (fun c3 => ?_)
    · have h := hT3a c3
      refine q_iconst ok dX6_canEnd_32 ?_
      refine q_goto (tgt := 37) ok dX6_canEnd_33 (by decide) ?_
      exact q_zret ok dX6_canEnd_37 (by decide) h
    · have h := hT3b c3
      refine q_aload_n ok dX6_canEnd_16 0 rfl ?_
      refine q_getI ok fl_X6_77 kC_38 fC_38_1 dX6_canEnd_17 ?_
      refine q_iconst ok dX6_canEnd_20 ?_
      obtain ⟨g3, hT2a, hT2b⟩ := h
      refine q_icmp_eq (tgt := 32) ok dX6_canEnd_21 (by decide) g3 (by unfold inR; decide) (fun c2 => ?_) (fun c2 => ?_)
      · have h := hT2a c2
        refine q_iconst ok dX6_canEnd_32 ?_
        refine q_goto (tgt := 37) ok dX6_canEnd_33 (by decide) ?_
        exact q_zret ok dX6_canEnd_37 (by decide) h
      · have h := hT2b c2
        refine q_aload_n ok dX6_canEnd_24 0 rfl ?_
        refine q_getI ok fl_X6_77 kC_38 fC_38_1 dX6_canEnd_25 ?_
        refine q_iconst ok dX6_canEnd_28 ?_
        obtain ⟨g4, hT1a, hT1b⟩ := h
        refine q_icmp_ne (tgt := 36) ok dX6_canEnd_29 (by decide) g4 (by unfold inR; decide) (fun c1 => ?_) (fun c1 => ?_)
        · have h := hT1a c1
          refine q_iconst ok dX6_canEnd_36 ?_
          exact q_zret ok dX6_canEnd_37 (by decide) h
        · have h := hT1b c1
          refine q_iconst ok dX6_canEnd_32 ?_
          refine q_goto (tgt := 37) ok dX6_canEnd_33 (by decide) ?_
          exact q_zret ok dX6_canEnd_37 (by decide) h)
/-! BranchingStory$Reader.linkOne(I)V -/
def f_X6_linkOne_J132 (Q : St → Prop) (σ : St) (v1 : Int) : Prop :=
  isS ((σ 38 0).toNat) ∧ 0 ≤ v1 ∧ v1 < 400 ∧ inR (σ ((σ 38 0).toNat + 1) v1.toNat) ∧ ((¬ (σ ((σ 38 0).toNat + 1) v1.toNat) = 7 → Q σ) ∧ ((σ ((σ 38 0).toNat + 1) v1.toNat) = 7 → 0 ≤ v1 ∧ v1 < 400 ∧ 0 ≤ v1 ∧ v1 < 400 ∧ f_X9_putEntry ((σ 38 0).toNat + 17) (σ ((σ 38 0).toNat + 2) v1.toNat) (σ ((σ 38 0).toNat + 5) v1.toNat) σ (fun σ1 => Q σ1)))
def f_X6_linkOne_J131 (Q : St → Prop) (σ : St) (v1 : Int) (s0 : Nat) (s1 : Int) (s2 : Int) : Prop :=
  isIA KC s0 ∧ 0 ≤ s1 ∧ s1 < ((alen KC s0 : Nat) : Int) ∧ ∀ σ1 : St, σ1 = sset σ s0 s1.toNat s2 → f_X6_linkOne_J132 Q σ1 v1
def f_X6_linkOne_J96 (Q : St → Prop) (σ : St) (v1 : Int) (v2 : Int) (s0 : Nat) (s1 : Int) (s2 : Int) : Prop :=
  isIA KC s0 ∧ 0 ≤ s1 ∧ s1 < ((alen KC s0 : Nat) : Int) ∧ ∀ σ1 : St, σ1 = sset σ s0 s1.toNat s2 → isS ((σ1 38 0).toNat) ∧ 0 ≤ v1 ∧ v1 < 400 ∧ inR (σ1 ((σ1 38 0).toNat + 6) v1.toNat) ∧ ((¬ (σ1 ((σ1 38 0).toNat + 6) v1.toNat) = (-1) → 0 ≤ v1 ∧ v1 < 400 ∧ f_X6_linkOne_J131 Q σ1 v1 ((σ1 38 0).toNat + 6) v1 (σ1 ((σ1 38 0).toNat + 6) v1.toNat)) ∧ ((σ1 ((σ1 38 0).toNat + 6) v1.toNat) = (-1) → f_X6_linkOne_J131 Q σ1 v1 ((σ1 38 0).toNat + 6) v1 v2))
def f_X6_linkOne_J38 (Q : St → Prop) (σ : St) (v1 : Int) : Prop :=
  isS ((σ 38 0).toNat) ∧ 0 ≤ v1 ∧ v1 < 400 ∧ inR (σ ((σ 38 0).toNat + 1) v1.toNat) ∧ ((¬ (σ ((σ 38 0).toNat + 1) v1.toNat) = 6 → f_X6_linkOne_J132 Q σ v1) ∧ ((σ ((σ 38 0).toNat + 1) v1.toNat) = 6 → 0 ≤ v1 ∧ v1 < 400 ∧ ∀ x1 : Int, x1 = (σ ((σ 38 0).toNat + 4) v1.toNat) → 0 ≤ v1 ∧ v1 < 400 ∧ inR (σ ((σ 38 0).toNat + 5) v1.toNat) ∧ ((¬ (σ ((σ 38 0).toNat + 5) v1.toNat) = (-1) → 0 ≤ v1 ∧ v1 < 400 ∧ f_X6_linkOne_J96 Q σ v1 x1 ((σ 38 0).toNat + 5) v1 (σ ((σ 38 0).toNat + 5) v1.toNat)) ∧ ((σ ((σ 38 0).toNat + 5) v1.toNat) = (-1) → f_X6_linkOne_J96 Q σ v1 x1 ((σ 38 0).toNat + 5) v1 x1))))
def f_X6_linkOne (a0 : Int) (σ : St) (Q : St → Prop) : Prop :=
  isS ((σ 38 0).toNat) ∧ 0 ≤ a0 ∧ a0 < 400 ∧ inR (σ ((σ 38 0).toNat + 4) a0.toNat) ∧ ((¬ (σ ((σ 38 0).toNat + 4) a0.toNat) = (-1) → f_X6_linkOne_J38 Q σ a0) ∧ ((σ ((σ 38 0).toNat + 4) a0.toNat) = (-1) → 0 ≤ a0 ∧ a0 < 400 ∧ f_X9_entryOf ((σ 38 0).toNat + 4) (σ 42 a0.toNat) σ (fun σ1 r1 => 0 ≤ a0 ∧ a0 < 400 ∧ ∀ σ2 : St, σ2 = sset σ1 ((σ 38 0).toNat + 4) a0.toNat r1 → f_X6_linkOne_J38 Q σ2 a0)))
set_option maxRecDepth 100000 in
set_option maxHeartbeats 4000000 in
theorem w_X6_linkOne_J132 {X : Cx} {Y : Cy} {Q : St → Prop} (ok : Ok X Y KC cX6_linkOne 3 RX6 (rm0q 1 22) none) (σ : St) (v1 : Int) (h : f_X6_linkOne_J132 Q σ v1) : Wq X Y KC 3 (QF X Y (Qvq Y KC Q)) σ 132 [(0, .inr (.inr 38)), (1, .inl v1)] [] := by
  unfold f_X6_linkOne_J132 at h
  refine q_aload_n ok dX6_linkOne_132 0 rfl ?_
  refine q_getR ok fl_X6_28 kC_38 fC_38_0 dX6_linkOne_133 ?_
  obtain ⟨g1, h⟩ := h
  refine q_getC ok fl_X6_241 (kX7_0 g1) (fIX7_1 ((σ 38 0).toNat)) dX6_linkOne_136 ?_
  refine q_iload_n ok dX6_linkOne_139 1 rfl ?_
  obtain ⟨g2, g3, h⟩ := h
  refine q_iald ok kC_ok (kX7_1 g1) g2 g3 dX6_linkOne_140 ?_
  refine q_bipush ok dX6_linkOne_141 rfl ?_
  obtain ⟨g4, hT1a, hT1b⟩ := h
  refine q_icmp_ne (tgt := 174) ok dX6_linkOne_143 (by decide) g4 (by unfold inR; decide) (fun c1 => ?_) (fun c1 => ?_)
  · have h := hT1a c1
    exact q_vret ok dX6_linkOne_174 h
  · have h := hT1b c1
    refine q_aload_n ok dX6_linkOne_146 0 rfl ?_
    refine q_getR ok fl_X6_28 kC_38 fC_38_0 dX6_linkOne_147 ?_
    refine q_getC ok fl_X6_247 (kX7_0 g1) (fIX7_17 ((σ 38 0).toNat)) dX6_linkOne_150 ?_
    refine q_aload_n ok dX6_linkOne_153 0 rfl ?_
    refine q_getR ok fl_X6_28 kC_38 fC_38_0 dX6_linkOne_154 ?_
    refine q_getC ok fl_X6_223 (kX7_0 g1) (fIX7_2 ((σ 38 0).toNat)) dX6_linkOne_157 ?_
    refine q_iload_n ok dX6_linkOne_160 1 rfl ?_
    obtain ⟨g5, g6, h⟩ := h
    refine q_iald ok kC_ok (kX7_2 g1) g5 g6 dX6_linkOne_161 ?_
    refine q_aload_n ok dX6_linkOne_162 0 rfl ?_
    refine q_getR ok fl_X6_28 kC_38 fC_38_0 dX6_linkOne_163 ?_
    refine q_getC ok fl_X6_238 (kX7_0 g1) (fIX7_5 ((σ 38 0).toNat)) dX6_linkOne_166 ?_
    refine q_iload_n ok dX6_linkOne_169 1 rfl ?_
    obtain ⟨g7, g8, h⟩ := h
    refine q_iald ok kC_ok (kX7_5 g1) g7 g8 dX6_linkOne_170 ?_
    refine q_callSV (st := []) ok cs_X6_174 (c_X9_putEntry X.2.1 Y ok.2.2.2.2.2.2.2.2 h) ⟨rfl, rfl, Nat.le_of_ble_eq_true rfl, Nat.le_of_ble_eq_true rfl⟩ rfl rfl (Nat.le_of_ble_eq_true rfl) dX6_linkOne_171 (fun σ1 h => ?_)
    exact q_vret ok dX6_linkOne_174 h
set_option maxRecDepth 100000 in
set_option maxHeartbeats 4000000 in
theorem w_X6_linkOne_J131 {X : Cx} {Y : Cy} {Q : St → Prop} (ok : Ok X Y KC cX6_linkOne 3 RX6 (rm0q 1 22) none) (σ : St) (v1 : Int) (s0 : Nat) (s1 : Int) (s2 : Int) (h : f_X6_linkOne_J131 Q σ v1 s0 s1 s2) : Wq X Y KC 3 (QF X Y (Qvq Y KC Q)) σ 131 [(0, .inr (.inr 38)), (1, .inl v1)] [.inl s2, .inl s1, .inr (.inr s0)] := by
  unfold f_X6_linkOne_J131 at h
  obtain ⟨g1, h⟩ := h
  obtain ⟨g2, g3, h⟩ := h
  refine q_iast ok kC_ok g1 g2 g3 dX6_linkOne_131 (wq_s (fun σ1 eσ1 => ?_))
  have h := h σ1 eσ1
  exact w_X6_linkOne_J132 ok σ1 v1 h
set_option maxRecDepth 100000 in
set_option maxHeartbeats 4000000 in
theorem w_X6_linkOne_J96 {X : Cx} {Y : Cy} {Q : St → Prop} (ok : Ok X Y KC cX6_linkOne 3 RX6 (rm0q 1 22) none) (σ : St) (v1 : Int) (v2 : Int) (s0 : Nat) (s1 : Int) (s2 : Int) (h : f_X6_linkOne_J96 Q σ v1 v2 s0 s1 s2) : Wq X Y KC 3 (QF X Y (Qvq Y KC Q)) σ 96 [(0, .inr (.inr 38)), (1, .inl v1), (2, .inl v2)] [.inl s2, .inl s1, .inr (.inr s0)] := by
  unfold f_X6_linkOne_J96 at h
  obtain ⟨g1, h⟩ := h
  obtain ⟨g2, g3, h⟩ := h
  refine q_iast ok kC_ok g1 g2 g3 dX6_linkOne_96 (wq_s (fun σ1 eσ1 => ?_))
  have h := h σ1 eσ1
  refine q_aload_n ok dX6_linkOne_97 0 rfl ?_
  refine q_getR ok fl_X6_28 kC_38 fC_38_0 dX6_linkOne_98 ?_
  obtain ⟨g4, h⟩ := h
  refine q_getC ok fl_X6_235 (kX7_0 g4) (fIX7_6 ((σ1 38 0).toNat)) dX6_linkOne_101 ?_
  refine q_iload_n ok dX6_linkOne_104 1 rfl ?_
  refine q_aload_n ok dX6_linkOne_105 0 rfl ?_
  refine q_getR ok fl_X6_28 kC_38 fC_38_0 dX6_linkOne_106 ?_
  refine q_getC ok fl_X6_235 (kX7_0 g4) (fIX7_6 ((σ1 38 0).toNat)) dX6_linkOne_109 ?_
  refine q_iload_n ok dX6_linkOne_112 1 rfl ?_
  obtain ⟨g5, g6, h⟩ := h
  refine q_iald ok kC_ok (kX7_6 g4) g5 g6 dX6_linkOne_113 ?_
  refine q_iconst ok dX6_linkOne_114 ?_
  obtain ⟨g7, hT1a, hT1b⟩ := h
  refine q_icmp_ne (tgt := 122) ok dX6_linkOne_115 (by decide) g7 (by unfold inR; decide) (fun c1 => ?_) (fun c1 => ?_)
  · have h := hT1a c1
    refine q_aload_n ok dX6_linkOne_122 0 rfl ?_
    refine q_getR ok fl_X6_28 kC_38 fC_38_0 dX6_linkOne_123 ?_
    refine q_getC ok fl_X6_235 (kX7_0 g4) (fIX7_6 ((σ1 38 0).toNat)) dX6_linkOne_126 ?_
    refine q_iload_n ok dX6_linkOne_129 1 rfl ?_
    obtain ⟨g8, g9, h⟩ := h
    refine q_iald ok kC_ok (kX7_6 g4) g8 g9 dX6_linkOne_130 ?_
    refine q_sub [0, 1] rfl ?_
    exact w_X6_linkOne_J131 ok σ1 v1 ((σ1 38 0).toNat + 6) v1 (σ1 ((σ1 38 0).toNat + 6) v1.toNat) h
  · have h := hT1b c1
    refine q_iload_n ok dX6_linkOne_118 2 rfl ?_
    refine q_goto (tgt := 131) ok dX6_linkOne_119 (by decide) ?_
    refine q_sub [0, 1] rfl ?_
    exact w_X6_linkOne_J131 ok σ1 v1 ((σ1 38 0).toNat + 6) v1 v2 h
set_option maxRecDepth 100000 in
set_option maxHeartbeats 4000000 in
theorem w_X6_linkOne_J38 {X : Cx} {Y : Cy} {Q : St → Prop} (ok : Ok X Y KC cX6_linkOne 3 RX6 (rm0q 1 22) none) (σ : St) (v1 : Int) (h : f_X6_linkOne_J38 Q σ v1) : Wq X Y KC 3 (QF X Y (Qvq Y KC Q)) σ 38 [(0, .inr (.inr 38)), (1, .inl v1)] [] := by
  unfold f_X6_linkOne_J38 at h
  refine q_aload_n ok dX6_linkOne_38 0 rfl ?_
  refine q_getR ok fl_X6_28 kC_38 fC_38_0 dX6_linkOne_39 ?_
  obtain ⟨g1, h⟩ := h
  refine q_getC ok fl_X6_241 (kX7_0 g1) (fIX7_1 ((σ 38 0).toNat)) dX6_linkOne_42 ?_
  refine q_iload_n ok dX6_linkOne_45 1 rfl ?_
  obtain ⟨g2, g3, h⟩ := h
  refine q_iald ok kC_ok (kX7_1 g1) g2 g3 dX6_linkOne_46 ?_
  refine q_bipush ok dX6_linkOne_47 rfl ?_
  obtain ⟨g4, hT2a, hT2b⟩ := h
  refine q_icmp_ne (tgt := 132) ok dX6_linkOne_49 (by decide) g4 (by unfold inR; decide) (fun c2 => ?_) (fun c2 => ?_)
  · have h := hT2a c2
    exact w_X6_linkOne_J132 ok σ v1 h
  · have h := hT2b c2
    refine q_aload_n ok dX6_linkOne_52 0 rfl ?_
    refine q_getR ok fl_X6_28 kC_38 fC_38_0 dX6_linkOne_53 ?_
    refine q_getC ok fl_X6_229 (kX7_0 g1) (fIX7_4 ((σ 38 0).toNat)) dX6_linkOne_56 ?_
    refine q_iload_n ok dX6_linkOne_59 1 rfl ?_
    obtain ⟨g5, g6, h⟩ := h
    refine q_iald ok kC_ok (kX7_4 g1) g5 g6 dX6_linkOne_60 ?_
    refine wq_i (fun x1 ex1 => ?_)
    have h := h x1 ex1
    refine q_istore_n (lv' := [(2, .inl x1), (0, .inr (.inr 38)), (1, .inl v1)]) ok dX6_linkOne_61 (by decide) rfl ?_
    refine q_aload_n ok dX6_linkOne_62 1 rfl ?_
    refine q_getR ok fl_X6_28 kC_38 fC_38_0 dX6_linkOne_63 ?_
    refine q_getC ok fl_X6_238 (kX7_0 g1) (fIX7_5 ((σ 38 0).toNat)) dX6_linkOne_66 ?_
    refine q_iload_n ok dX6_linkOne_69 2 rfl ?_
    refine q_aload_n ok dX6_linkOne_70 1 rfl ?_
    refine q_getR ok fl_X6_28 kC_38 fC_38_0 dX6_linkOne_71 ?_
    refine q_getC ok fl_X6_238 (kX7_0 g1) (fIX7_5 ((σ 38 0).toNat)) dX6_linkOne_74 ?_
    refine q_iload_n ok dX6_linkOne_77 2 rfl ?_
    obtain ⟨g7, g8, h⟩ := h
    refine q_iald ok kC_ok (kX7_5 g1) g7 g8 dX6_linkOne_78 ?_
    refine q_iconst ok dX6_linkOne_79 ?_
    obtain ⟨g9, hT1a, hT1b⟩ := h
    refine q_icmp_ne (tgt := 87) ok dX6_linkOne_80 (by decide) g9 (by unfold inR; decide) (fun c1 => ?_) (fun c1 => ?_)
    · have h := hT1a c1
      refine q_aload_n ok dX6_linkOne_87 1 rfl ?_
      refine q_getR ok fl_X6_28 kC_38 fC_38_0 dX6_linkOne_88 ?_
      refine q_getC ok fl_X6_238 (kX7_0 g1) (fIX7_5 ((σ 38 0).toNat)) dX6_linkOne_91 ?_
      refine q_iload_n ok dX6_linkOne_94 2 rfl ?_
      obtain ⟨g10, g11, h⟩ := h
      refine q_iald ok kC_ok (kX7_5 g1) g10 g11 dX6_linkOne_95 ?_
      refine q_sub [1, 2, 0] rfl ?_
      exact w_X6_linkOne_J96 ok σ v1 x1 ((σ 38 0).toNat + 5) v1 (σ ((σ 38 0).toNat + 5) v1.toNat) h
    · have h := hT1b c1
      refine q_iload_n ok dX6_linkOne_83 0 rfl ?_
      refine q_goto (tgt := 96) ok dX6_linkOne_84 (by decide) ?_
      refine q_sub [1, 2, 0] rfl ?_
      exact w_X6_linkOne_J96 ok σ v1 x1 ((σ 38 0).toNat + 5) v1 x1 h
set_option maxRecDepth 100000 in
set_option maxHeartbeats 4000000 in
theorem c_X6_linkOne (l : Launch) (Y : Cy) (hD : ∀ σ, va_D Y.2.2.2 (wsOf KC Y.2.1 Y.2.2.1 σ)) {a0 : Int} {σ : St} {Q : St → Prop} (h : f_X6_linkOne a0 σ Q) : ConV l yX6_linkOne cX6_linkOne 3 (rm0q 1 22) Y KC σ [.inr (.inr 38), .inl a0] Q := con_of (lv := [(0, .inr (.inr 38)), (1, .inl a0)]) (by decide) hD (Nat.le_of_ble_eq_true rfl) rfl (fun X _ ok => by
  have ok : Ok X Y KC cX6_linkOne 3 RX6 (rm0q 1 22) none := ok
  unfold f_X6_linkOne at h
  refine q_aload_n ok dX6_linkOne_0 0 rfl ?_
  refine q_getR ok fl_X6_28 kC_38 fC_38_0 dX6_linkOne_1 ?_
  obtain ⟨g1, h⟩ := h
  refine q_getC ok fl_X6_229 (kX7_0 g1) (fIX7_4 ((σ 38 0).toNat)) dX6_linkOne_4 ?_
  refine q_iload_n ok dX6_linkOne_7 1 rfl ?_
  obtain ⟨g2, g3, h⟩ := h
  refine q_iald ok kC_ok (kX7_4 g1) g2 g3 dX6_linkOne_8 ?_
  refine q_iconst ok dX6_linkOne_9 ?_
  obtain ⟨g4, hT1a, hT1b⟩ := h
  refine q_icmp_ne (tgt := 38) ok dX6_linkOne_10 (by decide) g4 (by unfold inR; decide) (fun c1 => ?_) (fun c1 => ?_)
  · have h := hT1a c1
    exact w_X6_linkOne_J38 ok σ a0 h
  · have h := hT1b c1
    refine q_aload_n ok dX6_linkOne_13 0 rfl ?_
    refine q_getR ok fl_X6_28 kC_38 fC_38_0 dX6_linkOne_14 ?_
    refine q_getC ok fl_X6_229 (kX7_0 g1) (fIX7_4 ((σ 38 0).toNat)) dX6_linkOne_17 ?_
    refine q_iload_n ok dX6_linkOne_20 1 rfl ?_
    refine q_aload_n ok dX6_linkOne_21 0 rfl ?_
    refine q_getR ok fl_X6_28 kC_38 fC_38_0 dX6_linkOne_22 ?_
    refine q_getC ok fl_X6_229 (kX7_0 g1) (fIX7_4 ((σ 38 0).toNat)) dX6_linkOne_25 ?_
    refine q_aload_n ok dX6_linkOne_28 0 rfl ?_
    refine q_getC ok fl_X6_22 kC_38 fC_38_12 dX6_linkOne_29 ?_
    refine q_iload_n ok dX6_linkOne_32 1 rfl ?_
    obtain ⟨g5, g6, h⟩ := h
    refine q_iald ok kC_ok kC_42 g5 g6 dX6_linkOne_33 ?_
    refine q_callSI (st := [.inl a0, .inr (.inr ((σ 38 0).toNat + 4))]) ok cs_X6_202 (c_X9_entryOf X.2.1 Y ok.2.2.2.2.2.2.2.2 h) ⟨rfl, rfl, Nat.le_of_ble_eq_true rfl, Nat.le_of_ble_eq_true rfl⟩ rfl rfl (Nat.le_of_ble_eq_true rfl) dX6_linkOne_34 (fun σ1 r1 h => ?_)
    obtain ⟨g7, g8, h⟩ := h
    refine q_iast ok kC_ok (kX7_4 g1) g7 g8 dX6_linkOne_37 (wq_s (fun σ2 eσ2 => ?_))
    have h := h σ2 eσ2
    exact w_X6_linkOne_J38 ok σ2 a0 h)
