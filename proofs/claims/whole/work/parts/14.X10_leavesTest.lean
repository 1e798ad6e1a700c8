theorem dX10_leavesTest_0 : decode cX10_leavesTest 0 = .ok (.aload_n 0, 1) := by decide +kernel
theorem dX10_leavesTest_1 : decode cX10_leavesTest 1 = .ok (.getfield 390, 3) := by decide +kernel
theorem dX10_leavesTest_4 : decode cX10_leavesTest 4 = .ok (.iconst 1, 1) := by decide +kernel
theorem dX10_leavesTest_5 : decode cX10_leavesTest 5 = .ok (.isub, 1) := by decide +kernel
theorem dX10_leavesTest_6 : decode cX10_leavesTest 6 = .ok (.istore_n 1, 1) := by decide +kernel
theorem dX10_leavesTest_7 : decode cX10_leavesTest 7 = .ok (.aload_n 0, 1) := by decide +kernel
theorem dX10_leavesTest_8 : decode cX10_leavesTest 8 = .ok (.getfield 122, 3) := by decide +kernel
theorem dX10_leavesTest_11 : decode cX10_leavesTest 11 = .ok (.iload_n 1, 1) := by decide +kernel
theorem dX10_leavesTest_12 : decode cX10_leavesTest 12 = .ok (.iaload, 1) := by decide +kernel
theorem dX10_leavesTest_13 : decode cX10_leavesTest 13 = .ok (.istore_n 2, 1) := by decide +kernel
theorem dX10_leavesTest_14 : decode cX10_leavesTest 14 = .ok (.aload_n 0, 1) := by decide +kernel
theorem dX10_leavesTest_15 : decode cX10_leavesTest 15 = .ok (.getfield 137, 3) := by decide +kernel
theorem dX10_leavesTest_18 : decode cX10_leavesTest 18 = .ok (.iload_n 1, 1) := by decide +kernel
theorem dX10_leavesTest_19 : decode cX10_leavesTest 19 = .ok (.baload, 1) := by decide +kernel
theorem dX10_leavesTest_20 : decode cX10_leavesTest 20 = .ok (.ifCond .ne 126, 3) := by decide +kernel
theorem dX10_leavesTest_23 : decode cX10_leavesTest 23 = .ok (.aload_n 0, 1) := by decide +kernel
theorem dX10_leavesTest_24 : decode cX10_leavesTest 24 = .ok (.getfield 119, 3) := by decide +kernel
theorem dX10_leavesTest_27 : decode cX10_leavesTest 27 = .ok (.iconst 0, 1) := by decide +kernel
theorem dX10_leavesTest_28 : decode cX10_leavesTest 28 = .ok (.aload_n 0, 1) := by decide +kernel
theorem dX10_leavesTest_29 : decode cX10_leavesTest 29 = .ok (.getfield 119, 3) := by decide +kernel
theorem dX10_leavesTest_32 : decode cX10_leavesTest 32 = .ok (.iload_n 1, 1) := by decide +kernel
theorem dX10_leavesTest_33 : decode cX10_leavesTest 33 = .ok (.invokestatic 408, 3) := by decide +kernel
theorem dX10_leavesTest_36 : decode cX10_leavesTest 36 = .ok (.invokestatic 371, 3) := by decide +kernel
theorem dX10_leavesTest_39 : decode cX10_leavesTest 39 = .ok (.aload_n 0, 1) := by decide +kernel
theorem dX10_leavesTest_40 : decode cX10_leavesTest 40 = .ok (.getfield 131, 3) := by decide +kernel
theorem dX10_leavesTest_43 : decode cX10_leavesTest 43 = .ok (.iload_n 1, 1) := by decide +kernel
theorem dX10_leavesTest_44 : decode cX10_leavesTest 44 = .ok (.aload_n 0, 1) := by decide +kernel
theorem dX10_leavesTest_45 : decode cX10_leavesTest 45 = .ok (.getfield 393, 3) := by decide +kernel
theorem dX10_leavesTest_48 : decode cX10_leavesTest 48 = .ok (.iastore, 1) := by decide +kernel
theorem dX10_leavesTest_49 : decode cX10_leavesTest 49 = .ok (.aload_n 0, 1) := by decide +kernel
theorem dX10_leavesTest_50 : decode cX10_leavesTest 50 = .ok (.getfield 134, 3) := by decide +kernel
theorem dX10_leavesTest_53 : decode cX10_leavesTest 53 = .ok (.iload_n 1, 1) := by decide +kernel
theorem dX10_leavesTest_54 : decode cX10_leavesTest 54 = .ok (.aload_n 0, 1) := by decide +kernel
theorem dX10_leavesTest_55 : decode cX10_leavesTest 55 = .ok (.getfield 396, 3) := by decide +kernel
theorem dX10_leavesTest_58 : decode cX10_leavesTest 58 = .ok (.iastore, 1) := by decide +kernel
theorem dX10_leavesTest_59 : decode cX10_leavesTest 59 = .ok (.aload_n 0, 1) := by decide +kernel
theorem dX10_leavesTest_60 : decode cX10_leavesTest 60 = .ok (.getfield 119, 3) := by decide +kernel
theorem dX10_leavesTest_63 : decode cX10_leavesTest 63 = .ok (.iload_n 1, 1) := by decide +kernel
theorem dX10_leavesTest_64 : decode cX10_leavesTest 64 = .ok (.invokestatic 399, 3) := by decide +kernel
theorem dX10_leavesTest_67 : decode cX10_leavesTest 67 = .ok (.aload_n 0, 1) := by decide +kernel
theorem dX10_leavesTest_68 : decode cX10_leavesTest 68 = .ok (.getfield 119, 3) := by decide +kernel
theorem dX10_leavesTest_71 : decode cX10_leavesTest 71 = .ok (.iconst 0, 1) := by decide +kernel
theorem dX10_leavesTest_72 : decode cX10_leavesTest 72 = .ok (.invokestatic 371, 3) := by decide +kernel
theorem dX10_leavesTest_75 : decode cX10_leavesTest 75 = .ok (.aload_n 0, 1) := by decide +kernel
theorem dX10_leavesTest_76 : decode cX10_leavesTest 76 = .ok (.aload_n 0, 1) := by decide +kernel
theorem dX10_leavesTest_77 : decode cX10_leavesTest 77 = .ok (.getfield 125, 3) := by decide +kernel
theorem dX10_leavesTest_80 : decode cX10_leavesTest 80 = .ok (.iload_n 1, 1) := by decide +kernel
theorem dX10_leavesTest_81 : decode cX10_leavesTest 81 = .ok (.iaload, 1) := by decide +kernel
theorem dX10_leavesTest_82 : decode cX10_leavesTest 82 = .ok (.putfield 393, 3) := by decide +kernel
theorem dX10_leavesTest_85 : decode cX10_leavesTest 85 = .ok (.aload_n 0, 1) := by decide +kernel
theorem dX10_leavesTest_86 : decode cX10_leavesTest 86 = .ok (.aload_n 0, 1) := by decide +kernel
theorem dX10_leavesTest_87 : decode cX10_leavesTest 87 = .ok (.getfield 128, 3) := by decide +kernel
theorem dX10_leavesTest_90 : decode cX10_leavesTest 90 = .ok (.iload_n 1, 1) := by decide +kernel
theorem dX10_leavesTest_91 : decode cX10_leavesTest 91 = .ok (.iaload, 1) := by decide +kernel
theorem dX10_leavesTest_92 : decode cX10_leavesTest 92 = .ok (.putfield 396, 3) := by decide +kernel
theorem dX10_leavesTest_95 : decode cX10_leavesTest 95 = .ok (.aload_n 0, 1) := by decide +kernel
theorem dX10_leavesTest_96 : decode cX10_leavesTest 96 = .ok (.getfield 137, 3) := by decide +kernel
theorem dX10_leavesTest_99 : decode cX10_leavesTest 99 = .ok (.iload_n 1, 1) := by decide +kernel
theorem dX10_leavesTest_100 : decode cX10_leavesTest 100 = .ok (.iconst 1, 1) := by decide +kernel
theorem dX10_leavesTest_101 : decode cX10_leavesTest 101 = .ok (.bastore, 1) := by decide +kernel
theorem dX10_leavesTest_102 : decode cX10_leavesTest 102 = .ok (.aload_n 0, 1) := by decide +kernel
theorem dX10_leavesTest_103 : decode cX10_leavesTest 103 = .ok (.getfield 34, 3) := by decide +kernel
theorem dX10_leavesTest_106 : decode cX10_leavesTest 106 = .ok (.iload_n 2, 1) := by decide +kernel
theorem dX10_leavesTest_107 : decode cX10_leavesTest 107 = .ok (.iaload, 1) := by decide +kernel
theorem dX10_leavesTest_108 : decode cX10_leavesTest 108 = .ok (.iconst (-1), 1) := by decide +kernel
theorem dX10_leavesTest_109 : decode cX10_leavesTest 109 = .ok (.if_icmp .eq 37, 3) := by decide +kernel
theorem dX10_leavesTest_112 : decode cX10_leavesTest 112 = .ok (.aload_n 0, 1) := by decide +kernel
theorem dX10_leavesTest_113 : decode cX10_leavesTest 113 = .ok (.getfield 119, 3) := by decide +kernel
theorem dX10_leavesTest_116 : decode cX10_leavesTest 116 = .ok (.iconst 0, 1) := by decide +kernel
theorem dX10_leavesTest_117 : decode cX10_leavesTest 117 = .ok (.iaload, 1) := by decide +kernel
theorem dX10_leavesTest_118 : decode cX10_leavesTest 118 = .ok (.iconst 1, 1) := by decide +kernel
theorem dX10_leavesTest_119 : decode cX10_leavesTest 119 = .ok (.if_icmp .ne 27, 3) := by decide +kernel
theorem dX10_leavesTest_122 : decode cX10_leavesTest 122 = .ok (.aload_n 0, 1) := by decide +kernel
theorem dX10_leavesTest_123 : decode cX10_leavesTest 123 = .ok (.aload_n 0, 1) := by decide +kernel
theorem dX10_leavesTest_124 : decode cX10_leavesTest 124 = .ok (.getfield 34, 3) := by decide +kernel
theorem dX10_leavesTest_127 : decode cX10_leavesTest 127 = .ok (.iload_n 2, 1) := by decide +kernel
theorem dX10_leavesTest_128 : decode cX10_leavesTest 128 = .ok (.iaload, 1) := by decide +kernel
theorem dX10_leavesTest_129 : decode cX10_leavesTest 129 = .ok (.putfield 289, 3) := by decide +kernel
theorem dX10_leavesTest_132 : decode cX10_leavesTest 132 = .ok (.aload_n 0, 1) := by decide +kernel
theorem dX10_leavesTest_133 : decode cX10_leavesTest 133 = .ok (.aload_n 0, 1) := by decide +kernel
theorem dX10_leavesTest_134 : decode cX10_leavesTest 134 = .ok (.getfield 58, 3) := by decide +kernel
theorem dX10_leavesTest_137 : decode cX10_leavesTest 137 = .ok (.aload_n 0, 1) := by decide +kernel
theorem dX10_leavesTest_138 : decode cX10_leavesTest 138 = .ok (.getfield 289, 3) := by decide +kernel
theorem dX10_leavesTest_141 : decode cX10_leavesTest 141 = .ok (.iaload, 1) := by decide +kernel
theorem dX10_leavesTest_142 : decode cX10_leavesTest 142 = .ok (.putfield 292, 3) := by decide +kernel
theorem dX10_leavesTest_145 : decode cX10_leavesTest 145 = .ok (.return_, 1) := by decide +kernel
theorem dX10_leavesTest_146 : decode cX10_leavesTest 146 = .ok (.aload_n 0, 1) := by decide +kernel
theorem dX10_leavesTest_147 : decode cX10_leavesTest 147 = .ok (.getfield 119, 3) := by decide +kernel
theorem dX10_leavesTest_150 : decode cX10_leavesTest 150 = .ok (.iconst 0, 1) := by decide +kernel
theorem dX10_leavesTest_151 : decode cX10_leavesTest 151 = .ok (.iaload, 1) := by decide +kernel
theorem dX10_leavesTest_152 : decode cX10_leavesTest 152 = .ok (.ifCond .ne 42, 3) := by decide +kernel
theorem dX10_leavesTest_155 : decode cX10_leavesTest 155 = .ok (.aload_n 0, 1) := by decide +kernel
theorem dX10_leavesTest_156 : decode cX10_leavesTest 156 = .ok (.getfield 119, 3) := by decide +kernel
theorem dX10_leavesTest_159 : decode cX10_leavesTest 159 = .ok (.iload_n 1, 1) := by decide +kernel
theorem dX10_leavesTest_160 : decode cX10_leavesTest 160 = .ok (.invokestatic 408, 3) := by decide +kernel
theorem dX10_leavesTest_163 : decode cX10_leavesTest 163 = .ok (.aload_n 0, 1) := by decide +kernel
theorem dX10_leavesTest_164 : decode cX10_leavesTest 164 = .ok (.getfield 119, 3) := by decide +kernel
theorem dX10_leavesTest_167 : decode cX10_leavesTest 167 = .ok (.iconst 0, 1) := by decide +kernel
theorem dX10_leavesTest_168 : decode cX10_leavesTest 168 = .ok (.invokestatic 371, 3) := by decide +kernel
theorem dX10_leavesTest_171 : decode cX10_leavesTest 171 = .ok (.aload_n 0, 1) := by decide +kernel
theorem dX10_leavesTest_172 : decode cX10_leavesTest 172 = .ok (.aload_n 0, 1) := by decide +kernel
theorem dX10_leavesTest_173 : decode cX10_leavesTest 173 = .ok (.getfield 131, 3) := by decide +kernel
theorem dX10_leavesTest_176 : decode cX10_leavesTest 176 = .ok (.iload_n 1, 1) := by decide +kernel
theorem dX10_leavesTest_177 : decode cX10_leavesTest 177 = .ok (.iaload, 1) := by decide +kernel
theorem dX10_leavesTest_178 : decode cX10_leavesTest 178 = .ok (.putfield 393, 3) := by decide +kernel
theorem dX10_leavesTest_181 : decode cX10_leavesTest 181 = .ok (.aload_n 0, 1) := by decide +kernel
theorem dX10_leavesTest_182 : decode cX10_leavesTest 182 = .ok (.aload_n 0, 1) := by decide +kernel
theorem dX10_leavesTest_183 : decode cX10_leavesTest 183 = .ok (.getfield 134, 3) := by decide +kernel
theorem dX10_leavesTest_186 : decode cX10_leavesTest 186 = .ok (.iload_n 1, 1) := by decide +kernel
theorem dX10_leavesTest_187 : decode cX10_leavesTest 187 = .ok (.iaload, 1) := by decide +kernel
theorem dX10_leavesTest_188 : decode cX10_leavesTest 188 = .ok (.putfield 396, 3) := by decide +kernel
theorem dX10_leavesTest_191 : decode cX10_leavesTest 191 = .ok (.goto 62, 3) := by decide +kernel
theorem dX10_leavesTest_194 : decode cX10_leavesTest 194 = .ok (.aload_n 0, 1) := by decide +kernel
theorem dX10_leavesTest_195 : decode cX10_leavesTest 195 = .ok (.getfield 119, 3) := by decide +kernel
theorem dX10_leavesTest_198 : decode cX10_leavesTest 198 = .ok (.iload_n 1, 1) := by decide +kernel
theorem dX10_leavesTest_199 : decode cX10_leavesTest 199 = .ok (.invokestatic 408, 3) := by decide +kernel
theorem dX10_leavesTest_202 : decode cX10_leavesTest 202 = .ok (.iaload, 1) := by decide +kernel
theorem dX10_leavesTest_203 : decode cX10_leavesTest 203 = .ok (.iconst 1, 1) := by decide +kernel
theorem dX10_leavesTest_204 : decode cX10_leavesTest 204 = .ok (.if_icmp .ne 49, 3) := by decide +kernel
theorem dX10_leavesTest_207 : decode cX10_leavesTest 207 = .ok (.aload_n 0, 1) := by decide +kernel
theorem dX10_leavesTest_208 : decode cX10_leavesTest 208 = .ok (.getfield 119, 3) := by decide +kernel
theorem dX10_leavesTest_211 : decode cX10_leavesTest 211 = .ok (.iconst 0, 1) := by decide +kernel
theorem dX10_leavesTest_212 : decode cX10_leavesTest 212 = .ok (.aload_n 0, 1) := by decide +kernel
theorem dX10_leavesTest_213 : decode cX10_leavesTest 213 = .ok (.getfield 119, 3) := by decide +kernel
theorem dX10_leavesTest_216 : decode cX10_leavesTest 216 = .ok (.iload_n 1, 1) := by decide +kernel
theorem dX10_leavesTest_217 : decode cX10_leavesTest 217 = .ok (.invokestatic 408, 3) := by decide +kernel
theorem dX10_leavesTest_220 : decode cX10_leavesTest 220 = .ok (.invokestatic 375, 3) := by decide +kernel
theorem dX10_leavesTest_223 : decode cX10_leavesTest 223 = .ok (.aload_n 0, 1) := by decide +kernel
theorem dX10_leavesTest_224 : decode cX10_leavesTest 224 = .ok (.dup, 1) := by decide +kernel
theorem dX10_leavesTest_225 : decode cX10_leavesTest 225 = .ok (.getfield 393, 3) := by decide +kernel
theorem dX10_leavesTest_228 : decode cX10_leavesTest 228 = .ok (.aload_n 0, 1) := by decide +kernel
theorem dX10_leavesTest_229 : decode cX10_leavesTest 229 = .ok (.getfield 131, 3) := by decide +kernel
theorem dX10_leavesTest_232 : decode cX10_leavesTest 232 = .ok (.iload_n 1, 1) := by decide +kernel
theorem dX10_leavesTest_233 : decode cX10_leavesTest 233 = .ok (.iaload, 1) := by decide +kernel
theorem dX10_leavesTest_234 : decode cX10_leavesTest 234 = .ok (.ior, 1) := by decide +kernel
theorem dX10_leavesTest_235 : decode cX10_leavesTest 235 = .ok (.putfield 393, 3) := by decide +kernel
theorem dX10_leavesTest_238 : decode cX10_leavesTest 238 = .ok (.aload_n 0, 1) := by decide +kernel
theorem dX10_leavesTest_239 : decode cX10_leavesTest 239 = .ok (.dup, 1) := by decide +kernel
theorem dX10_leavesTest_240 : decode cX10_leavesTest 240 = .ok (.getfield 396, 3) := by decide +kernel
theorem dX10_leavesTest_243 : decode cX10_leavesTest 243 = .ok (.aload_n 0, 1) := by decide +kernel
theorem dX10_leavesTest_244 : decode cX10_leavesTest 244 = .ok (.getfield 134, 3) := by decide +kernel
theorem dX10_leavesTest_247 : decode cX10_leavesTest 247 = .ok (.iload_n 1, 1) := by decide +kernel
theorem dX10_leavesTest_248 : decode cX10_leavesTest 248 = .ok (.iaload, 1) := by decide +kernel
theorem dX10_leavesTest_249 : decode cX10_leavesTest 249 = .ok (.iand, 1) := by decide +kernel
theorem dX10_leavesTest_250 : decode cX10_leavesTest 250 = .ok (.putfield 396, 3) := by decide +kernel
theorem dX10_leavesTest_253 : decode cX10_leavesTest 253 = .ok (.aload_n 0, 1) := by decide +kernel
theorem dX10_leavesTest_254 : decode cX10_leavesTest 254 = .ok (.dup, 1) := by decide +kernel
theorem dX10_leavesTest_255 : decode cX10_leavesTest 255 = .ok (.getfield 390, 3) := by decide +kernel
theorem dX10_leavesTest_258 : decode cX10_leavesTest 258 = .ok (.iconst 1, 1) := by decide +kernel
theorem dX10_leavesTest_259 : decode cX10_leavesTest 259 = .ok (.isub, 1) := by decide +kernel
theorem dX10_leavesTest_260 : decode cX10_leavesTest 260 = .ok (.putfield 390, 3) := by decide +kernel
theorem dX10_leavesTest_263 : decode cX10_leavesTest 263 = .ok (.aload_n 0, 1) := by decide +kernel
theorem dX10_leavesTest_264 : decode cX10_leavesTest 264 = .ok (.aload_n 0, 1) := by decide +kernel
theorem dX10_leavesTest_265 : decode cX10_leavesTest 265 = .ok (.getfield 28, 3) := by decide +kernel
theorem dX10_leavesTest_268 : decode cX10_leavesTest 268 = .ok (.iload_n 2, 1) := by decide +kernel
theorem dX10_leavesTest_269 : decode cX10_leavesTest 269 = .ok (.iaload, 1) := by decide +kernel
theorem dX10_leavesTest_270 : decode cX10_leavesTest 270 = .ok (.putfield 289, 3) := by decide +kernel
theorem dX10_leavesTest_273 : decode cX10_leavesTest 273 = .ok (.aload_n 0, 1) := by decide +kernel
theorem dX10_leavesTest_274 : decode cX10_leavesTest 274 = .ok (.aload_n 0, 1) := by decide +kernel
theorem dX10_leavesTest_275 : decode cX10_leavesTest 275 = .ok (.getfield 119, 3) := by decide +kernel
theorem dX10_leavesTest_278 : decode cX10_leavesTest 278 = .ok (.iconst 0, 1) := by decide +kernel
theorem dX10_leavesTest_279 : decode cX10_leavesTest 279 = .ok (.iaload, 1) := by decide +kernel
theorem dX10_leavesTest_280 : decode cX10_leavesTest 280 = .ok (.iconst 1, 1) := by decide +kernel
theorem dX10_leavesTest_281 : decode cX10_leavesTest 281 = .ok (.if_icmp .ne 12, 3) := by decide +kernel
theorem dX10_leavesTest_284 : decode cX10_leavesTest 284 = .ok (.aload_n 0, 1) := by decide +kernel
theorem dX10_leavesTest_285 : decode cX10_leavesTest 285 = .ok (.getfield 25, 3) := by decide +kernel
theorem dX10_leavesTest_288 : decode cX10_leavesTest 288 = .ok (.iload_n 2, 1) := by decide +kernel
theorem dX10_leavesTest_289 : decode cX10_leavesTest 289 = .ok (.iaload, 1) := by decide +kernel
theorem dX10_leavesTest_290 : decode cX10_leavesTest 290 = .ok (.goto 4, 3) := by decide +kernel
theorem dX10_leavesTest_293 : decode cX10_leavesTest 293 = .ok (.iconst (-1), 1) := by decide +kernel
theorem dX10_leavesTest_294 : decode cX10_leavesTest 294 = .ok (.putfield 292, 3) := by decide +kernel
theorem dX10_leavesTest_297 : decode cX10_leavesTest 297 = .ok (.return_, 1) := by decide +kernel
theorem dX10_offers_0 : decode cX10_offers 0 = .ok (.aload_n 0, 1) := by decide +kernel
theorem dX10_offers_1 : decode cX10_offers 1 = .ok (.getfield 40, 3) := by decide +kernel
theorem dX10_offers_4 : decode cX10_offers 4 = .ok (.iload_n 1, 1) := by decide +kernel
theorem dX10_offers_5 : decode cX10_offers 5 = .ok (.iaload, 1) := by decide +kernel
theorem dX10_offers_6 : decode cX10_offers 6 = .ok (.aload_n 0, 1) := by decide +kernel
theorem dX10_offers_7 : decode cX10_offers 7 = .ok (.getfield 37, 3) := by decide +kernel
theorem dX10_offers_10 : decode cX10_offers 10 = .ok (.iload_n 1, 1) := by decide +kernel
theorem dX10_offers_11 : decode cX10_offers 11 = .ok (.iaload, 1) := by decide +kernel
theorem dX10_offers_12 : decode cX10_offers 12 = .ok (.if_icmp .le 7, 3) := by decide +kernel
theorem dX10_offers_15 : decode cX10_offers 15 = .ok (.iconst 1, 1) := by decide +kernel
theorem dX10_offers_16 : decode cX10_offers 16 = .ok (.goto 4, 3) := by decide +kernel
theorem dX10_offers_19 : decode cX10_offers 19 = .ok (.iconst 0, 1) := by decide +kernel
theorem dX10_offers_20 : decode cX10_offers 20 = .ok (.istore_n 2, 1) := by decide +kernel
theorem dX10_offers_21 : decode cX10_offers 21 = .ok (.aload_n 0, 1) := by decide +kernel
theorem dX10_offers_22 : decode cX10_offers 22 = .ok (.iload_n 1, 1) := by decide +kernel
theorem dX10_offers_23 : decode cX10_offers 23 = .ok (.sipush 132, 3) := by decide +kernel
theorem dX10_offers_26 : decode cX10_offers 26 = .ok (.invokevirtual 405, 3) := by decide +kernel
theorem dX10_offers_29 : decode cX10_offers 29 = .ok (.aload_n 0, 1) := by decide +kernel
theorem dX10_offers_30 : decode cX10_offers 30 = .ok (.getfield 119, 3) := by decide +kernel
theorem dX10_offers_33 : decode cX10_offers 33 = .ok (.sipush 132, 3) := by decide +kernel
theorem dX10_offers_36 : decode cX10_offers 36 = .ok (.iaload, 1) := by decide +kernel
theorem dX10_offers_37 : decode cX10_offers 37 = .ok (.ifCond .ne 4, 3) := by decide +kernel
theorem dX10_offers_40 : decode cX10_offers 40 = .ok (.return_, 1) := by decide +kernel
theorem dX10_offers_41 : decode cX10_offers 41 = .ok (.aload_n 0, 1) := by decide +kernel
theorem dX10_offers_42 : decode cX10_offers 42 = .ok (.dup, 1) := by decide +kernel
theorem dX10_offers_43 : decode cX10_offers 43 = .ok (.getfield 393, 3) := by decide +kernel
theorem dX10_offers_46 : decode cX10_offers 46 = .ok (.iconst 1, 1) := by decide +kernel
theorem dX10_offers_47 : decode cX10_offers 47 = .ok (.aload_n 0, 1) := by decide +kernel
theorem dX10_offers_48 : decode cX10_offers 48 = .ok (.getfield 19, 3) := by decide +kernel
theorem dX10_offers_51 : decode cX10_offers 51 = .ok (.iload_n 1, 1) := by decide +kernel
theorem dX10_offers_52 : decode cX10_offers 52 = .ok (.iaload, 1) := by decide +kernel
theorem dX10_offers_53 : decode cX10_offers 53 = .ok (.ishl, 1) := by decide +kernel
theorem dX10_offers_54 : decode cX10_offers 54 = .ok (.ior, 1) := by decide +kernel
theorem dX10_offers_55 : decode cX10_offers 55 = .ok (.putfield 393, 3) := by decide +kernel
theorem dX10_offers_58 : decode cX10_offers 58 = .ok (.aload_n 0, 1) := by decide +kernel
theorem dX10_offers_59 : decode cX10_offers 59 = .ok (.iload_n 1, 1) := by decide +kernel
theorem dX10_offers_60 : decode cX10_offers 60 = .ok (.sipush 132, 3) := by decide +kernel
theorem dX10_offers_63 : decode cX10_offers 63 = .ok (.invokevirtual 402, 3) := by decide +kernel
theorem dX10_offers_66 : decode cX10_offers 66 = .ok (.aload_n 0, 1) := by decide +kernel
theorem dX10_offers_67 : decode cX10_offers 67 = .ok (.getfield 70, 3) := by decide +kernel
theorem dX10_offers_70 : decode cX10_offers 70 = .ok (.aload_n 0, 1) := by decide +kernel
theorem dX10_offers_71 : decode cX10_offers 71 = .ok (.aload_n 0, 1) := by decide +kernel
theorem dX10_offers_72 : decode cX10_offers 72 = .ok (.getfield 19, 3) := by decide +kernel
theorem dX10_offers_75 : decode cX10_offers 75 = .ok (.iload_n 1, 1) := by decide +kernel
theorem dX10_offers_76 : decode cX10_offers 76 = .ok (.iaload, 1) := by decide +kernel
theorem dX10_offers_77 : decode cX10_offers 77 = .ok (.invokevirtual 283, 3) := by decide +kernel
theorem dX10_offers_80 : decode cX10_offers 80 = .ok (.baload, 1) := by decide +kernel
theorem dX10_offers_81 : decode cX10_offers 81 = .ok (.ifCond .ne 35, 3) := by decide +kernel
theorem dX10_offers_84 : decode cX10_offers 84 = .ok (.iload_n 2, 1) := by decide +kernel
theorem dX10_offers_85 : decode cX10_offers 85 = .ok (.ifCond .eq 14, 3) := by decide +kernel
theorem dX10_offers_88 : decode cX10_offers 88 = .ok (.aload_n 0, 1) := by decide +kernel
theorem dX10_offers_89 : decode cX10_offers 89 = .ok (.getfield 119, 3) := by decide +kernel
theorem dX10_offers_92 : decode cX10_offers 92 = .ok (.sipush 132, 3) := by decide +kernel
theorem dX10_offers_95 : decode cX10_offers 95 = .ok (.iaload, 1) := by decide +kernel
theorem dX10_offers_96 : decode cX10_offers 96 = .ok (.ifCond .ne 20, 3) := by decide +kernel
theorem dX10_offers_99 : decode cX10_offers 99 = .ok (.aload_n 0, 1) := by decide +kernel
theorem dX10_offers_100 : decode cX10_offers 100 = .ok (.dup, 1) := by decide +kernel
theorem dX10_offers_101 : decode cX10_offers 101 = .ok (.getfield 396, 3) := by decide +kernel
theorem dX10_offers_104 : decode cX10_offers 104 = .ok (.iconst 1, 1) := by decide +kernel
theorem dX10_offers_105 : decode cX10_offers 105 = .ok (.aload_n 0, 1) := by decide +kernel
theorem dX10_offers_106 : decode cX10_offers 106 = .ok (.getfield 19, 3) := by decide +kernel
theorem dX10_offers_109 : decode cX10_offers 109 = .ok (.iload_n 1, 1) := by decide +kernel
theorem dX10_offers_110 : decode cX10_offers 110 = .ok (.iaload, 1) := by decide +kernel
theorem dX10_offers_111 : decode cX10_offers 111 = .ok (.ishl, 1) := by decide +kernel
theorem dX10_offers_112 : decode cX10_offers 112 = .ok (.ior, 1) := by decide +kernel
theorem dX10_offers_113 : decode cX10_offers 113 = .ok (.putfield 396, 3) := by decide +kernel
theorem dX10_offers_116 : decode cX10_offers 116 = .ok (.return_, 1) := by decide +kernel
theorem dX10_learnsMeter_0 : decode cX10_learnsMeter 0 = .ok (.iconst 0, 1) := by decide +kernel
theorem dX10_learnsMeter_1 : decode cX10_learnsMeter 1 = .ok (.istore_n 2, 1) := by decide +kernel
theorem dX10_learnsMeter_2 : decode cX10_learnsMeter 2 = .ok (.iload_n 2, 1) := by decide +kernel
theorem dX10_learnsMeter_3 : decode cX10_learnsMeter 3 = .ok (.iconst 2, 1) := by decide +kernel
theorem dX10_learnsMeter_4 : decode cX10_learnsMeter 4 = .ok (.if_icmp .ge 117, 3) := by decide +kernel
theorem dX10_learnsMeter_7 : decode cX10_learnsMeter 7 = .ok (.iload_n 2, 1) := by decide +kernel
theorem dX10_learnsMeter_8 : decode cX10_learnsMeter 8 = .ok (.ifCond .ne 7, 3) := by decide +kernel
theorem dX10_learnsMeter_11 : decode cX10_learnsMeter 11 = .ok (.iconst 1, 1) := by decide +kernel
theorem dX10_learnsMeter_12 : decode cX10_learnsMeter 12 = .ok (.goto 4, 3) := by decide +kernel
theorem dX10_learnsMeter_15 : decode cX10_learnsMeter 15 = .ok (.iconst 4, 1) := by decide +kernel
theorem dX10_learnsMeter_16 : decode cX10_learnsMeter 16 = .ok (.aload_n 0, 1) := by decide +kernel
theorem dX10_learnsMeter_17 : decode cX10_learnsMeter 17 = .ok (.getfield 19, 3) := by decide +kernel
theorem dX10_learnsMeter_20 : decode cX10_learnsMeter 20 = .ok (.iload_n 1, 1) := by decide +kernel
theorem dX10_learnsMeter_21 : decode cX10_learnsMeter 21 = .ok (.iaload, 1) := by decide +kernel
theorem dX10_learnsMeter_22 : decode cX10_learnsMeter 22 = .ok (.iadd, 1) := by decide +kernel
theorem dX10_learnsMeter_23 : decode cX10_learnsMeter 23 = .ok (.istore_n 3, 1) := by decide +kernel
theorem dX10_learnsMeter_24 : decode cX10_learnsMeter 24 = .ok (.aload_n 0, 1) := by decide +kernel
theorem dX10_learnsMeter_25 : decode cX10_learnsMeter 25 = .ok (.getfield 31, 3) := by decide +kernel
theorem dX10_learnsMeter_28 : decode cX10_learnsMeter 28 = .ok (.iload_n 1, 1) := by decide +kernel
theorem dX10_learnsMeter_29 : decode cX10_learnsMeter 29 = .ok (.iaload, 1) := by decide +kernel
theorem dX10_learnsMeter_30 : decode cX10_learnsMeter 30 = .ok (.bipush 61, 2) := by decide +kernel
theorem dX10_learnsMeter_32 : decode cX10_learnsMeter 32 = .ok (.if_icmp .ne 12, 3) := by decide +kernel
theorem dX10_learnsMeter_35 : decode cX10_learnsMeter 35 = .ok (.aload_n 0, 1) := by decide +kernel
theorem dX10_learnsMeter_36 : decode cX10_learnsMeter 36 = .ok (.getfield 22, 3) := by decide +kernel
theorem dX10_learnsMeter_39 : decode cX10_learnsMeter 39 = .ok (.iload_n 1, 1) := by decide +kernel
theorem dX10_learnsMeter_40 : decode cX10_learnsMeter 40 = .ok (.iaload, 1) := by decide +kernel
theorem dX10_learnsMeter_41 : decode cX10_learnsMeter 41 = .ok (.goto 43, 3) := by decide +kernel
theorem dX10_learnsMeter_44 : decode cX10_learnsMeter 44 = .ok (.aload_n 0, 1) := by decide +kernel
theorem dX10_learnsMeter_45 : decode cX10_learnsMeter 45 = .ok (.getfield 31, 3) := by decide +kernel
theorem dX10_learnsMeter_48 : decode cX10_learnsMeter 48 = .ok (.iload_n 1, 1) := by decide +kernel
theorem dX10_learnsMeter_49 : decode cX10_learnsMeter 49 = .ok (.iaload, 1) := by decide +kernel
theorem dX10_learnsMeter_50 : decode cX10_learnsMeter 50 = .ok (.bipush 43, 2) := by decide +kernel
theorem dX10_learnsMeter_52 : decode cX10_learnsMeter 52 = .ok (.if_icmp .ne 19, 3) := by decide +kernel
theorem dX10_learnsMeter_55 : decode cX10_learnsMeter 55 = .ok (.aload_n 0, 1) := by decide +kernel
theorem dX10_learnsMeter_56 : decode cX10_learnsMeter 56 = .ok (.getfield 119, 3) := by decide +kernel
theorem dX10_learnsMeter_59 : decode cX10_learnsMeter 59 = .ok (.iload_n 3, 1) := by decide +kernel
theorem dX10_learnsMeter_60 : decode cX10_learnsMeter 60 = .ok (.iaload, 1) := by decide +kernel
theorem dX10_learnsMeter_61 : decode cX10_learnsMeter 61 = .ok (.aload_n 0, 1) := by decide +kernel
theorem dX10_learnsMeter_62 : decode cX10_learnsMeter 62 = .ok (.getfield 22, 3) := by decide +kernel
theorem dX10_learnsMeter_65 : decode cX10_learnsMeter 65 = .ok (.iload_n 1, 1) := by decide +kernel
theorem dX10_learnsMeter_66 : decode cX10_learnsMeter 66 = .ok (.iaload, 1) := by decide +kernel
theorem dX10_learnsMeter_67 : decode cX10_learnsMeter 67 = .ok (.iadd, 1) := by decide +kernel
theorem dX10_learnsMeter_68 : decode cX10_learnsMeter 68 = .ok (.goto 16, 3) := by decide +kernel
theorem dX10_learnsMeter_71 : decode cX10_learnsMeter 71 = .ok (.aload_n 0, 1) := by decide +kernel
theorem dX10_learnsMeter_72 : decode cX10_learnsMeter 72 = .ok (.getfield 119, 3) := by decide +kernel
theorem dX10_learnsMeter_75 : decode cX10_learnsMeter 75 = .ok (.iload_n 3, 1) := by decide +kernel
theorem dX10_learnsMeter_76 : decode cX10_learnsMeter 76 = .ok (.iaload, 1) := by decide +kernel
theorem dX10_learnsMeter_77 : decode cX10_learnsMeter 77 = .ok (.aload_n 0, 1) := by decide +kernel
theorem dX10_learnsMeter_78 : decode cX10_learnsMeter 78 = .ok (.getfield 22, 3) := by decide +kernel
theorem dX10_learnsMeter_81 : decode cX10_learnsMeter 81 = .ok (.iload_n 1, 1) := by decide +kernel
theorem dX10_learnsMeter_82 : decode cX10_learnsMeter 82 = .ok (.iaload, 1) := by decide +kernel
theorem dX10_learnsMeter_83 : decode cX10_learnsMeter 83 = .ok (.isub, 1) := by decide +kernel
theorem dX10_learnsMeter_84 : decode cX10_learnsMeter 84 = .ok (.istore 4, 2) := by decide +kernel
theorem dX10_learnsMeter_86 : decode cX10_learnsMeter 86 = .ok (.aload_n 0, 1) := by decide +kernel
theorem dX10_learnsMeter_87 : decode cX10_learnsMeter 87 = .ok (.getfield 119, 3) := by decide +kernel
theorem dX10_learnsMeter_90 : decode cX10_learnsMeter 90 = .ok (.iload_n 3, 1) := by decide +kernel
theorem dX10_learnsMeter_91 : decode cX10_learnsMeter 91 = .ok (.iload 4, 2) := by decide +kernel
theorem dX10_learnsMeter_93 : decode cX10_learnsMeter 93 = .ok (.bipush 9, 2) := by decide +kernel
theorem dX10_learnsMeter_95 : decode cX10_learnsMeter 95 = .ok (.if_icmp .le 8, 3) := by decide +kernel
theorem dX10_learnsMeter_98 : decode cX10_learnsMeter 98 = .ok (.bipush 9, 2) := by decide +kernel
theorem dX10_learnsMeter_100 : decode cX10_learnsMeter 100 = .ok (.goto 14, 3) := by decide +kernel
theorem dX10_learnsMeter_103 : decode cX10_learnsMeter 103 = .ok (.iload 4, 2) := by decide +kernel
theorem dX10_learnsMeter_105 : decode cX10_learnsMeter 105 = .ok (.ifCond .ge 7, 3) := by decide +kernel
theorem dX10_learnsMeter_108 : decode cX10_learnsMeter 108 = .ok (.iconst 0, 1) := by decide +kernel
theorem dX10_learnsMeter_109 : decode cX10_learnsMeter 109 = .ok (.goto 5, 3) := by decide +kernel
theorem dX10_learnsMeter_112 : decode cX10_learnsMeter 112 = .ok (.iload 4, 2) := by decide +kernel
theorem dX10_learnsMeter_114 : decode cX10_learnsMeter 114 = .ok (.iastore, 1) := by decide +kernel
theorem dX10_learnsMeter_115 : decode cX10_learnsMeter 115 = .ok (.iinc 2 1, 3) := by decide +kernel
theorem dX10_learnsMeter_118 : decode cX10_learnsMeter 118 = .ok (.goto (-116), 3) := by decide +kernel
theorem dX10_learnsMeter_121 : decode cX10_learnsMeter 121 = .ok (.return_, 1) := by decide +kernel
theorem dX10_goesToHubs_0 : decode cX10_goesToHubs 0 = .ok (.aload_n 0, 1) := by decide +kernel
theorem dX10_goesToHubs_1 : decode cX10_goesToHubs 1 = .ok (.getfield 119, 3) := by decide +kernel
theorem dX10_goesToHubs_4 : decode cX10_goesToHubs 4 = .ok (.bipush 8, 2) := by decide +kernel
theorem dX10_goesToHubs_6 : decode cX10_goesToHubs 6 = .ok (.iaload, 1) := by decide +kernel
theorem dX10_goesToHubs_7 : decode cX10_goesToHubs 7 = .ok (.istore_n 2, 1) := by decide +kernel
theorem dX10_goesToHubs_8 : decode cX10_goesToHubs 8 = .ok (.iconst 0, 1) := by decide +kernel
theorem dX10_goesToHubs_9 : decode cX10_goesToHubs 9 = .ok (.istore_n 3, 1) := by decide +kernel
theorem dX10_goesToHubs_10 : decode cX10_goesToHubs 10 = .ok (.iload_n 3, 1) := by decide +kernel
theorem dX10_goesToHubs_11 : decode cX10_goesToHubs 11 = .ok (.bipush 12, 2) := by decide +kernel
theorem dX10_goesToHubs_13 : decode cX10_goesToHubs 13 = .ok (.if_icmp .ge 23, 3) := by decide +kernel
theorem dX10_goesToHubs_16 : decode cX10_goesToHubs 16 = .ok (.iload_n 2, 1) := by decide +kernel
theorem dX10_goesToHubs_17 : decode cX10_goesToHubs 17 = .ok (.iload_n 3, 1) := by decide +kernel
theorem dX10_goesToHubs_18 : decode cX10_goesToHubs 18 = .ok (.ishr, 1) := by decide +kernel
theorem dX10_goesToHubs_19 : decode cX10_goesToHubs 19 = .ok (.iconst 1, 1) := by decide +kernel
theorem dX10_goesToHubs_20 : decode cX10_goesToHubs 20 = .ok (.iand, 1) := by decide +kernel
theorem dX10_goesToHubs_21 : decode cX10_goesToHubs 21 = .ok (.iconst 1, 1) := by decide +kernel
theorem dX10_goesToHubs_22 : decode cX10_goesToHubs 22 = .ok (.if_icmp .ne 8, 3) := by decide +kernel
theorem dX10_goesToHubs_25 : decode cX10_goesToHubs 25 = .ok (.aload_n 0, 1) := by decide +kernel
theorem dX10_goesToHubs_26 : decode cX10_goesToHubs 26 = .ok (.iload_n 3, 1) := by decide +kernel
theorem dX10_goesToHubs_27 : decode cX10_goesToHubs 27 = .ok (.invokevirtual 411, 3) := by decide +kernel
theorem dX10_goesToHubs_30 : decode cX10_goesToHubs 30 = .ok (.iinc 3 1, 3) := by decide +kernel
theorem dX10_goesToHubs_33 : decode cX10_goesToHubs 33 = .ok (.goto (-23), 3) := by decide +kernel
theorem dX10_goesToHubs_36 : decode cX10_goesToHubs 36 = .ok (.aload_n 0, 1) := by decide +kernel
theorem dX10_goesToHubs_37 : decode cX10_goesToHubs 37 = .ok (.dup, 1) := by decide +kernel
theorem dX10_goesToHubs_38 : decode cX10_goesToHubs 38 = .ok (.getfield 414, 3) := by decide +kernel
theorem dX10_goesToHubs_41 : decode cX10_goesToHubs 41 = .ok (.iload_n 2, 1) := by decide +kernel
theorem dX10_goesToHubs_42 : decode cX10_goesToHubs 42 = .ok (.bipush 12, 2) := by decide +kernel
theorem dX10_goesToHubs_44 : decode cX10_goesToHubs 44 = .ok (.ishr, 1) := by decide +kernel
theorem dX10_goesToHubs_45 : decode cX10_goesToHubs 45 = .ok (.iconst 1, 1) := by decide +kernel
theorem dX10_goesToHubs_46 : decode cX10_goesToHubs 46 = .ok (.iand, 1) := by decide +kernel
theorem dX10_goesToHubs_47 : decode cX10_goesToHubs 47 = .ok (.iconst 1, 1) := by decide +kernel
theorem dX10_goesToHubs_48 : decode cX10_goesToHubs 48 = .ok (.if_icmp .ne 9, 3) := by decide +kernel
theorem dX10_goesToHubs_51 : decode cX10_goesToHubs 51 = .ok (.iconst 1, 1) := by decide +kernel
theorem dX10_goesToHubs_52 : decode cX10_goesToHubs 52 = .ok (.iload_n 1, 1) := by decide +kernel
theorem dX10_goesToHubs_53 : decode cX10_goesToHubs 53 = .ok (.ishl, 1) := by decide +kernel
theorem dX10_goesToHubs_54 : decode cX10_goesToHubs 54 = .ok (.goto 4, 3) := by decide +kernel
theorem dX10_goesToHubs_57 : decode cX10_goesToHubs 57 = .ok (.iconst 0, 1) := by decide +kernel
theorem dX10_goesToHubs_58 : decode cX10_goesToHubs 58 = .ok (.ior, 1) := by decide +kernel
theorem dX10_goesToHubs_59 : decode cX10_goesToHubs 59 = .ok (.putfield 414, 3) := by decide +kernel
theorem dX10_goesToHubs_62 : decode cX10_goesToHubs 62 = .ok (.return_, 1) := by decide +kernel
theorem dX10_learns_0 : decode cX10_learns 0 = .ok (.aload_n 0, 1) := by decide +kernel
theorem dX10_learns_1 : decode cX10_learns 1 = .ok (.getfield 292, 3) := by decide +kernel
theorem dX10_learns_4 : decode cX10_learns 4 = .ok (.istore_n 2, 1) := by decide +kernel
theorem dX10_learns_5 : decode cX10_learns 5 = .ok (.aload_n 0, 1) := by decide +kernel
theorem dX10_learns_6 : decode cX10_learns 6 = .ok (.aload_n 0, 1) := by decide +kernel
theorem dX10_learns_7 : decode cX10_learns 7 = .ok (.getfield 25, 3) := by decide +kernel
theorem dX10_learns_10 : decode cX10_learns 10 = .ok (.iload_n 2, 1) := by decide +kernel
theorem dX10_learns_11 : decode cX10_learns 11 = .ok (.iaload, 1) := by decide +kernel
theorem dX10_learns_12 : decode cX10_learns 12 = .ok (.putfield 292, 3) := by decide +kernel
theorem dX10_learns_15 : decode cX10_learns 15 = .ok (.aload_n 0, 1) := by decide +kernel
theorem dX10_learns_16 : decode cX10_learns 16 = .ok (.getfield 16, 3) := by decide +kernel
theorem dX10_learns_19 : decode cX10_learns 19 = .ok (.iload_n 2, 1) := by decide +kernel
theorem dX10_learns_20 : decode cX10_learns 20 = .ok (.iaload, 1) := by decide +kernel
theorem dX10_learns_21 : decode cX10_learns 21 = .ok (.tableswitch 177 1 7 #[43, 91, 99, 107, 115, 135, 150], 43) := by decide +kernel
theorem dX10_learns_64 : decode cX10_learns 64 = .ok (.aload_n 0, 1) := by decide +kernel
theorem dX10_learns_65 : decode cX10_learns 65 = .ok (.getfield 119, 3) := by decide +kernel
theorem dX10_learns_68 : decode cX10_learns 68 = .ok (.bipush 7, 2) := by decide +kernel
theorem dX10_learns_70 : decode cX10_learns 70 = .ok (.aload_n 0, 1) := by decide +kernel
theorem dX10_learns_71 : decode cX10_learns 71 = .ok (.getfield 119, 3) := by decide +kernel
theorem dX10_learns_74 : decode cX10_learns 74 = .ok (.bipush 7, 2) := by decide +kernel
theorem dX10_learns_76 : decode cX10_learns 76 = .ok (.iaload, 1) := by decide +kernel
theorem dX10_learns_77 : decode cX10_learns 77 = .ok (.iconst 3, 1) := by decide +kernel
theorem dX10_learns_78 : decode cX10_learns 78 = .ok (.iconst 2, 1) := by decide +kernel
theorem dX10_learns_79 : decode cX10_learns 79 = .ok (.aload_n 0, 1) := by decide +kernel
theorem dX10_learns_80 : decode cX10_learns 80 = .ok (.getfield 19, 3) := by decide +kernel
theorem dX10_learns_83 : decode cX10_learns 83 = .ok (.iload_n 2, 1) := by decide +kernel
theorem dX10_learns_84 : decode cX10_learns 84 = .ok (.iaload, 1) := by decide +kernel
theorem dX10_learns_85 : decode cX10_learns 85 = .ok (.imul, 1) := by decide +kernel
theorem dX10_learns_86 : decode cX10_learns 86 = .ok (.ishl, 1) := by decide +kernel
theorem dX10_learns_87 : decode cX10_learns 87 = .ok (.iconst (-1), 1) := by decide +kernel
theorem dX10_learns_88 : decode cX10_learns 88 = .ok (.ixor, 1) := by decide +kernel
theorem dX10_learns_89 : decode cX10_learns 89 = .ok (.iand, 1) := by decide +kernel
theorem dX10_learns_90 : decode cX10_learns 90 = .ok (.iconst 1, 1) := by decide +kernel
theorem dX10_learns_91 : decode cX10_learns 91 = .ok (.iconst 2, 1) := by decide +kernel
theorem dX10_learns_92 : decode cX10_learns 92 = .ok (.aload_n 0, 1) := by decide +kernel
theorem dX10_learns_93 : decode cX10_learns 93 = .ok (.getfield 19, 3) := by decide +kernel
theorem dX10_learns_96 : decode cX10_learns 96 = .ok (.iload_n 2, 1) := by decide +kernel
theorem dX10_learns_97 : decode cX10_learns 97 = .ok (.iaload, 1) := by decide +kernel
theorem dX10_learns_98 : decode cX10_learns 98 = .ok (.imul, 1) := by decide +kernel
theorem dX10_learns_99 : decode cX10_learns 99 = .ok (.aload_n 0, 1) := by decide +kernel
theorem dX10_learns_100 : decode cX10_learns 100 = .ok (.getfield 22, 3) := by decide +kernel
theorem dX10_learns_103 : decode cX10_learns 103 = .ok (.iload_n 2, 1) := by decide +kernel
theorem dX10_learns_104 : decode cX10_learns 104 = .ok (.iaload, 1) := by decide +kernel
theorem dX10_learns_105 : decode cX10_learns 105 = .ok (.iadd, 1) := by decide +kernel
theorem dX10_learns_106 : decode cX10_learns 106 = .ok (.ishl, 1) := by decide +kernel
theorem dX10_learns_107 : decode cX10_learns 107 = .ok (.ior, 1) := by decide +kernel
theorem dX10_learns_108 : decode cX10_learns 108 = .ok (.iastore, 1) := by decide +kernel
theorem dX10_learns_109 : decode cX10_learns 109 = .ok (.goto 89, 3) := by decide +kernel
theorem dX10_learns_112 : decode cX10_learns 112 = .ok (.aload_n 0, 1) := by decide +kernel
theorem dX10_learns_113 : decode cX10_learns 113 = .ok (.iload_n 2, 1) := by decide +kernel
theorem dX10_learns_114 : decode cX10_learns 114 = .ok (.invokevirtual 417, 3) := by decide +kernel
theorem dX10_learns_117 : decode cX10_learns 117 = .ok (.goto 81, 3) := by decide +kernel
theorem dX10_learns_120 : decode cX10_learns 120 = .ok (.aload_n 0, 1) := by decide +kernel
theorem dX10_learns_121 : decode cX10_learns 121 = .ok (.iload_n 2, 1) := by decide +kernel
theorem dX10_learns_122 : decode cX10_learns 122 = .ok (.invokevirtual 420, 3) := by decide +kernel
theorem dX10_learns_125 : decode cX10_learns 125 = .ok (.goto 73, 3) := by decide +kernel
theorem dX10_learns_128 : decode cX10_learns 128 = .ok (.aload_n 0, 1) := by decide +kernel
theorem dX10_learns_129 : decode cX10_learns 129 = .ok (.iload_n 2, 1) := by decide +kernel
theorem dX10_learns_130 : decode cX10_learns 130 = .ok (.invokevirtual 423, 3) := by decide +kernel
theorem dX10_learns_133 : decode cX10_learns 133 = .ok (.goto 65, 3) := by decide +kernel
theorem dX10_learns_136 : decode cX10_learns 136 = .ok (.aload_n 0, 1) := by decide +kernel
theorem dX10_learns_137 : decode cX10_learns 137 = .ok (.aload_n 0, 1) := by decide +kernel
theorem dX10_learns_138 : decode cX10_learns 138 = .ok (.getfield 19, 3) := by decide +kernel
theorem dX10_learns_141 : decode cX10_learns 141 = .ok (.iload_n 2, 1) := by decide +kernel
theorem dX10_learns_142 : decode cX10_learns 142 = .ok (.iaload, 1) := by decide +kernel
theorem dX10_learns_143 : decode cX10_learns 143 = .ok (.invokevirtual 411, 3) := by decide +kernel
theorem dX10_learns_146 : decode cX10_learns 146 = .ok (.aload_n 0, 1) := by decide +kernel
theorem dX10_learns_147 : decode cX10_learns 147 = .ok (.getfield 119, 3) := by decide +kernel
theorem dX10_learns_150 : decode cX10_learns 150 = .ok (.iconst 0, 1) := by decide +kernel
theorem dX10_learns_151 : decode cX10_learns 151 = .ok (.iconst 0, 1) := by decide +kernel
theorem dX10_learns_152 : decode cX10_learns 152 = .ok (.iastore, 1) := by decide +kernel
theorem dX10_learns_153 : decode cX10_learns 153 = .ok (.goto 45, 3) := by decide +kernel
theorem dX10_learns_156 : decode cX10_learns 156 = .ok (.aload_n 0, 1) := by decide +kernel
theorem dX10_learns_157 : decode cX10_learns 157 = .ok (.iload_n 1, 1) := by decide +kernel
theorem dX10_learns_158 : decode cX10_learns 158 = .ok (.invokevirtual 426, 3) := by decide +kernel
theorem dX10_learns_161 : decode cX10_learns 161 = .ok (.aload_n 0, 1) := by decide +kernel
theorem dX10_learns_162 : decode cX10_learns 162 = .ok (.getfield 119, 3) := by decide +kernel
theorem dX10_learns_165 : decode cX10_learns 165 = .ok (.iconst 0, 1) := by decide +kernel
theorem dX10_learns_166 : decode cX10_learns 166 = .ok (.iconst 0, 1) := by decide +kernel
theorem dX10_learns_167 : decode cX10_learns 167 = .ok (.iastore, 1) := by decide +kernel
theorem dX10_learns_168 : decode cX10_learns 168 = .ok (.goto 30, 3) := by decide +kernel
theorem dX10_learns_171 : decode cX10_learns 171 = .ok (.aload_n 0, 1) := by decide +kernel
theorem dX10_learns_172 : decode cX10_learns 172 = .ok (.dup, 1) := by decide +kernel
theorem dX10_learns_173 : decode cX10_learns 173 = .ok (.getfield 429, 3) := by decide +kernel
theorem dX10_learns_176 : decode cX10_learns 176 = .ok (.iconst 1, 1) := by decide +kernel
theorem dX10_learns_177 : decode cX10_learns 177 = .ok (.aload_n 0, 1) := by decide +kernel
theorem dX10_learns_178 : decode cX10_learns 178 = .ok (.getfield 19, 3) := by decide +kernel
theorem dX10_learns_181 : decode cX10_learns 181 = .ok (.iload_n 2, 1) := by decide +kernel
theorem dX10_learns_182 : decode cX10_learns 182 = .ok (.iaload, 1) := by decide +kernel
theorem dX10_learns_183 : decode cX10_learns 183 = .ok (.ishl, 1) := by decide +kernel
theorem dX10_learns_184 : decode cX10_learns 184 = .ok (.ior, 1) := by decide +kernel
theorem dX10_learns_185 : decode cX10_learns 185 = .ok (.putfield 429, 3) := by decide +kernel
theorem dX10_learns_188 : decode cX10_learns 188 = .ok (.aload_n 0, 1) := by decide +kernel
theorem dX10_learns_189 : decode cX10_learns 189 = .ok (.getfield 119, 3) := by decide +kernel
theorem dX10_learns_192 : decode cX10_learns 192 = .ok (.iconst 0, 1) := by decide +kernel
theorem dX10_learns_193 : decode cX10_learns 193 = .ok (.iconst 0, 1) := by decide +kernel
theorem dX10_learns_194 : decode cX10_learns 194 = .ok (.iastore, 1) := by decide +kernel
theorem dX10_learns_195 : decode cX10_learns 195 = .ok (.goto 3, 3) := by decide +kernel
theorem dX10_learns_198 : decode cX10_learns 198 = .ok (.aload_n 0, 1) := by decide +kernel
theorem dX10_learns_199 : decode cX10_learns 199 = .ok (.aload_n 0, 1) := by decide +kernel
theorem dX10_learns_200 : decode cX10_learns 200 = .ok (.getfield 119, 3) := by decide +kernel
theorem dX10_learns_203 : decode cX10_learns 203 = .ok (.iconst 0, 1) := by decide +kernel
theorem dX10_learns_204 : decode cX10_learns 204 = .ok (.iaload, 1) := by decide +kernel
theorem dX10_learns_205 : decode cX10_learns 205 = .ok (.iconst 1, 1) := by decide +kernel
theorem dX10_learns_206 : decode cX10_learns 206 = .ok (.if_icmp .ne 10, 3) := by decide +kernel
theorem dX10_learns_209 : decode cX10_learns 209 = .ok (.aload_n 0, 1) := by decide +kernel
theorem dX10_learns_210 : decode cX10_learns 210 = .ok (.getfield 292, 3) := by decide +kernel
theorem dX10_learns_213 : decode cX10_learns 213 = .ok (.goto 4, 3) := by decide +kernel
theorem dX10_learns_216 : decode cX10_learns 216 = .ok (.iconst (-1), 1) := by decide +kernel
theorem dX10_learns_217 : decode cX10_learns 217 = .ok (.putfield 292, 3) := by decide +kernel
theorem dX10_learns_220 : decode cX10_learns 220 = .ok (.return_, 1) := by decide +kernel
theorem dX10_goesThrough_0 : decode cX10_goesThrough 0 = .ok (.aload_n 0, 1) := by decide +kernel
theorem dX10_goesThrough_1 : decode cX10_goesThrough 1 = .ok (.getfield 64, 3) := by decide +kernel
theorem dX10_goesThrough_4 : decode cX10_goesThrough 4 = .ok (.iload_n 2, 1) := by decide +kernel
theorem dX10_goesThrough_5 : decode cX10_goesThrough 5 = .ok (.iaload, 1) := by decide +kernel
theorem dX10_goesThrough_6 : decode cX10_goesThrough 6 = .ok (.istore_n 3, 1) := by decide +kernel
theorem dX10_goesThrough_7 : decode cX10_goesThrough 7 = .ok (.aload_n 0, 1) := by decide +kernel
theorem dX10_goesThrough_8 : decode cX10_goesThrough 8 = .ok (.getfield 116, 3) := by decide +kernel
theorem dX10_goesThrough_11 : decode cX10_goesThrough 11 = .ok (.bipush 9, 2) := by decide +kernel
theorem dX10_goesThrough_13 : decode cX10_goesThrough 13 = .ok (.iload_n 1, 1) := by decide +kernel
theorem dX10_goesThrough_14 : decode cX10_goesThrough 14 = .ok (.imul, 1) := by decide +kernel
theorem dX10_goesThrough_15 : decode cX10_goesThrough 15 = .ok (.aload_n 0, 1) := by decide +kernel
theorem dX10_goesThrough_16 : decode cX10_goesThrough 16 = .ok (.getfield 119, 3) := by decide +kernel
theorem dX10_goesThrough_19 : decode cX10_goesThrough 19 = .ok (.iconst 0, 1) := by decide +kernel
theorem dX10_goesThrough_20 : decode cX10_goesThrough 20 = .ok (.invokestatic 371, 3) := by decide +kernel
theorem dX10_goesThrough_23 : decode cX10_goesThrough 23 = .ok (.iload_n 1, 1) := by decide +kernel
theorem dX10_goesThrough_24 : decode cX10_goesThrough 24 = .ok (.bipush 12, 2) := by decide +kernel
theorem dX10_goesThrough_26 : decode cX10_goesThrough 26 = .ok (.if_icmp .ge 22, 3) := by decide +kernel
theorem dX10_goesThrough_29 : decode cX10_goesThrough 29 = .ok (.aload_n 0, 1) := by decide +kernel
theorem dX10_goesThrough_30 : decode cX10_goesThrough 30 = .ok (.getfield 70, 3) := by decide +kernel
theorem dX10_goesThrough_33 : decode cX10_goesThrough 33 = .ok (.iload_n 1, 1) := by decide +kernel
theorem dX10_goesThrough_34 : decode cX10_goesThrough 34 = .ok (.baload, 1) := by decide +kernel
theorem dX10_goesThrough_35 : decode cX10_goesThrough 35 = .ok (.ifCond .eq 13, 3) := by decide +kernel
theorem dX10_goesThrough_38 : decode cX10_goesThrough 38 = .ok (.aload_n 0, 1) := by decide +kernel
theorem dX10_goesThrough_39 : decode cX10_goesThrough 39 = .ok (.getfield 119, 3) := by decide +kernel
theorem dX10_goesThrough_42 : decode cX10_goesThrough 42 = .ok (.bipush 8, 2) := by decide +kernel
theorem dX10_goesThrough_44 : decode cX10_goesThrough 44 = .ok (.iconst 1, 1) := by decide +kernel
theorem dX10_goesThrough_45 : decode cX10_goesThrough 45 = .ok (.iload_n 1, 1) := by decide +kernel
theorem dX10_goesThrough_46 : decode cX10_goesThrough 46 = .ok (.ishl, 1) := by decide +kernel
theorem dX10_goesThrough_47 : decode cX10_goesThrough 47 = .ok (.iastore, 1) := by decide +kernel
theorem dX10_goesThrough_48 : decode cX10_goesThrough 48 = .ok (.aload_n 0, 1) := by decide +kernel
theorem dX10_goesThrough_49 : decode cX10_goesThrough 49 = .ok (.iconst 0, 1) := by decide +kernel
theorem dX10_goesThrough_50 : decode cX10_goesThrough 50 = .ok (.putfield 393, 3) := by decide +kernel
theorem dX10_goesThrough_53 : decode cX10_goesThrough 53 = .ok (.aload_n 0, 1) := by decide +kernel
theorem dX10_goesThrough_54 : decode cX10_goesThrough 54 = .ok (.iconst 0, 1) := by decide +kernel
theorem dX10_goesThrough_55 : decode cX10_goesThrough 55 = .ok (.putfield 396, 3) := by decide +kernel
theorem dX10_goesThrough_58 : decode cX10_goesThrough 58 = .ok (.aload_n 0, 1) := by decide +kernel
theorem dX10_goesThrough_59 : decode cX10_goesThrough 59 = .ok (.iconst 0, 1) := by decide +kernel
theorem dX10_goesThrough_60 : decode cX10_goesThrough 60 = .ok (.putfield 390, 3) := by decide +kernel
theorem dX10_goesThrough_63 : decode cX10_goesThrough 63 = .ok (.aload_n 0, 1) := by decide +kernel
theorem dX10_goesThrough_64 : decode cX10_goesThrough 64 = .ok (.iload_n 2, 1) := by decide +kernel
theorem dX10_goesThrough_65 : decode cX10_goesThrough 65 = .ok (.putfield 289, 3) := by decide +kernel
theorem dX10_goesThrough_68 : decode cX10_goesThrough 68 = .ok (.aload_n 0, 1) := by decide +kernel
theorem dX10_goesThrough_69 : decode cX10_goesThrough 69 = .ok (.aload_n 0, 1) := by decide +kernel
theorem dX10_goesThrough_70 : decode cX10_goesThrough 70 = .ok (.getfield 58, 3) := by decide +kernel
theorem dX10_goesThrough_73 : decode cX10_goesThrough 73 = .ok (.iload_n 2, 1) := by decide +kernel
theorem dX10_goesThrough_74 : decode cX10_goesThrough 74 = .ok (.iaload, 1) := by decide +kernel
theorem dX10_goesThrough_75 : decode cX10_goesThrough 75 = .ok (.putfield 292, 3) := by decide +kernel
theorem dX10_goesThrough_78 : decode cX10_goesThrough 78 = .ok (.aload_n 0, 1) := by decide +kernel
theorem dX10_goesThrough_79 : decode cX10_goesThrough 79 = .ok (.getfield 292, 3) := by decide +kernel
theorem dX10_goesThrough_82 : decode cX10_goesThrough 82 = .ok (.iconst (-1), 1) := by decide +kernel
theorem dX10_goesThrough_83 : decode cX10_goesThrough 83 = .ok (.if_icmp .ne 10, 3) := by decide +kernel
theorem dX10_goesThrough_86 : decode cX10_goesThrough 86 = .ok (.aload_n 0, 1) := by decide +kernel
theorem dX10_goesThrough_87 : decode cX10_goesThrough 87 = .ok (.getfield 390, 3) := by decide +kernel
theorem dX10_goesThrough_90 : decode cX10_goesThrough 90 = .ok (.ifCond .le 26, 3) := by decide +kernel
theorem dX10_goesThrough_93 : decode cX10_goesThrough 93 = .ok (.aload_n 0, 1) := by decide +kernel
theorem dX10_goesThrough_94 : decode cX10_goesThrough 94 = .ok (.getfield 292, 3) := by decide +kernel
theorem dX10_goesThrough_97 : decode cX10_goesThrough 97 = .ok (.iconst (-1), 1) := by decide +kernel
theorem dX10_goesThrough_98 : decode cX10_goesThrough 98 = .ok (.if_icmp .ne 10, 3) := by decide +kernel
theorem dX10_goesThrough_101 : decode cX10_goesThrough 101 = .ok (.aload_n 0, 1) := by decide +kernel
theorem dX10_goesThrough_102 : decode cX10_goesThrough 102 = .ok (.invokevirtual 432, 3) := by decide +kernel
theorem dX10_goesThrough_105 : decode cX10_goesThrough 105 = .ok (.goto (-27), 3) := by decide +kernel
theorem dX10_goesThrough_108 : decode cX10_goesThrough 108 = .ok (.aload_n 0, 1) := by decide +kernel
theorem dX10_goesThrough_109 : decode cX10_goesThrough 109 = .ok (.iload_n 3, 1) := by decide +kernel
theorem dX10_goesThrough_110 : decode cX10_goesThrough 110 = .ok (.invokevirtual 435, 3) := by decide +kernel
theorem dX10_goesThrough_113 : decode cX10_goesThrough 113 = .ok (.goto (-35), 3) := by decide +kernel
theorem dX10_goesThrough_116 : decode cX10_goesThrough 116 = .ok (.aload_n 0, 1) := by decide +kernel
theorem dX10_goesThrough_117 : decode cX10_goesThrough 117 = .ok (.getfield 119, 3) := by decide +kernel
theorem dX10_goesThrough_120 : decode cX10_goesThrough 120 = .ok (.iconst 0, 1) := by decide +kernel
theorem dX10_goesThrough_121 : decode cX10_goesThrough 121 = .ok (.iaload, 1) := by decide +kernel
theorem dX10_goesThrough_122 : decode cX10_goesThrough 122 = .ok (.ifCond .ne 4, 3) := by decide +kernel
theorem dX10_goesThrough_125 : decode cX10_goesThrough 125 = .ok (.return_, 1) := by decide +kernel
theorem dX10_goesThrough_126 : decode cX10_goesThrough 126 = .ok (.iconst 0, 1) := by decide +kernel
theorem dX10_goesThrough_127 : decode cX10_goesThrough 127 = .ok (.istore 4, 2) := by decide +kernel
theorem dX10_goesThrough_129 : decode cX10_goesThrough 129 = .ok (.iload 4, 2) := by decide +kernel
theorem dX10_goesThrough_131 : decode cX10_goesThrough 131 = .ok (.aload_n 0, 1) := by decide +kernel
theorem dX10_goesThrough_132 : decode cX10_goesThrough 132 = .ok (.getfield 222, 3) := by decide +kernel
theorem dX10_goesThrough_135 : decode cX10_goesThrough 135 = .ok (.if_icmp .ge 31, 3) := by decide +kernel
theorem dX10_goesThrough_138 : decode cX10_goesThrough 138 = .ok (.aload_n 0, 1) := by decide +kernel
theorem dX10_goesThrough_139 : decode cX10_goesThrough 139 = .ok (.getfield 393, 3) := by decide +kernel
theorem dX10_goesThrough_142 : decode cX10_goesThrough 142 = .ok (.iload 4, 2) := by decide +kernel
theorem dX10_goesThrough_144 : decode cX10_goesThrough 144 = .ok (.ishr, 1) := by decide +kernel
theorem dX10_goesThrough_145 : decode cX10_goesThrough 145 = .ok (.iconst 1, 1) := by decide +kernel
theorem dX10_goesThrough_146 : decode cX10_goesThrough 146 = .ok (.iand, 1) := by decide +kernel
theorem dX10_goesThrough_147 : decode cX10_goesThrough 147 = .ok (.iconst 1, 1) := by decide +kernel
theorem dX10_goesThrough_148 : decode cX10_goesThrough 148 = .ok (.if_icmp .ne 12, 3) := by decide +kernel
theorem dX10_goesThrough_151 : decode cX10_goesThrough 151 = .ok (.aload_n 0, 1) := by decide +kernel
theorem dX10_goesThrough_152 : decode cX10_goesThrough 152 = .ok (.bipush 12, 2) := by decide +kernel
theorem dX10_goesThrough_154 : decode cX10_goesThrough 154 = .ok (.iload 4, 2) := by decide +kernel
theorem dX10_goesThrough_156 : decode cX10_goesThrough 156 = .ok (.iadd, 1) := by decide +kernel
theorem dX10_goesThrough_157 : decode cX10_goesThrough 157 = .ok (.invokevirtual 411, 3) := by decide +kernel
theorem dX10_goesThrough_160 : decode cX10_goesThrough 160 = .ok (.iinc 4 1, 3) := by decide +kernel
theorem dX10_goesThrough_163 : decode cX10_goesThrough 163 = .ok (.goto (-34), 3) := by decide +kernel
theorem dX10_goesThrough_166 : decode cX10_goesThrough 166 = .ok (.aload_n 0, 1) := by decide +kernel
theorem dX10_goesThrough_167 : decode cX10_goesThrough 167 = .ok (.getfield 396, 3) := by decide +kernel
theorem dX10_goesThrough_170 : decode cX10_goesThrough 170 = .ok (.ifCond .ne 17, 3) := by decide +kernel
theorem dX10_goesThrough_173 : decode cX10_goesThrough 173 = .ok (.iload_n 1, 1) := by decide +kernel
theorem dX10_goesThrough_174 : decode cX10_goesThrough 174 = .ok (.bipush 12, 2) := by decide +kernel
theorem dX10_goesThrough_176 : decode cX10_goesThrough 176 = .ok (.if_icmp .lt 11, 3) := by decide +kernel
theorem dX10_goesThrough_179 : decode cX10_goesThrough 179 = .ok (.aload_n 0, 1) := by decide +kernel
theorem dX10_goesThrough_180 : decode cX10_goesThrough 180 = .ok (.iload_n 3, 1) := by decide +kernel
theorem dX10_goesThrough_181 : decode cX10_goesThrough 181 = .ok (.invokevirtual 411, 3) := by decide +kernel
theorem dX10_goesThrough_184 : decode cX10_goesThrough 184 = .ok (.goto 22, 3) := by decide +kernel
theorem dX10_goesThrough_187 : decode cX10_goesThrough 187 = .ok (.aload_n 0, 1) := by decide +kernel
theorem dX10_goesThrough_188 : decode cX10_goesThrough 188 = .ok (.getfield 396, 3) := by decide +kernel
theorem dX10_goesThrough_191 : decode cX10_goesThrough 191 = .ok (.ifCond .ne 15, 3) := by decide +kernel
theorem dX10_goesThrough_194 : decode cX10_goesThrough 194 = .ok (.aload_n 0, 1) := by decide +kernel
theorem dX10_goesThrough_195 : decode cX10_goesThrough 195 = .ok (.dup, 1) := by decide +kernel
theorem dX10_goesThrough_196 : decode cX10_goesThrough 196 = .ok (.getfield 414, 3) := by decide +kernel
theorem dX10_goesThrough_199 : decode cX10_goesThrough 199 = .ok (.iconst 1, 1) := by decide +kernel
theorem dX10_goesThrough_200 : decode cX10_goesThrough 200 = .ok (.iload_n 3, 1) := by decide +kernel
theorem dX10_goesThrough_201 : decode cX10_goesThrough 201 = .ok (.ishl, 1) := by decide +kernel
theorem dX10_goesThrough_202 : decode cX10_goesThrough 202 = .ok (.ior, 1) := by decide +kernel
theorem dX10_goesThrough_203 : decode cX10_goesThrough 203 = .ok (.putfield 414, 3) := by decide +kernel
theorem dX10_goesThrough_206 : decode cX10_goesThrough 206 = .ok (.return_, 1) := by decide +kernel
theorem dX10_begins_0 : decode cX10_begins 0 = .ok (.iconst 0, 1) := by decide +kernel
theorem dX10_begins_1 : decode cX10_begins 1 = .ok (.istore_n 1, 1) := by decide +kernel
theorem dX10_begins_2 : decode cX10_begins 2 = .ok (.iload_n 1, 1) := by decide +kernel
theorem dX10_begins_3 : decode cX10_begins 3 = .ok (.sipush 252, 3) := by decide +kernel
theorem dX10_begins_6 : decode cX10_begins 6 = .ok (.if_icmp .ge 16, 3) := by decide +kernel
theorem dX10_begins_9 : decode cX10_begins 9 = .ok (.aload_n 0, 1) := by decide +kernel
theorem dX10_begins_10 : decode cX10_begins 10 = .ok (.getfield 116, 3) := by decide +kernel
theorem dX10_begins_13 : decode cX10_begins 13 = .ok (.iload_n 1, 1) := by decide +kernel
theorem dX10_begins_14 : decode cX10_begins 14 = .ok (.iconst 0, 1) := by decide +kernel
theorem dX10_begins_15 : decode cX10_begins 15 = .ok (.iastore, 1) := by decide +kernel
theorem dX10_begins_16 : decode cX10_begins 16 = .ok (.iinc 1 1, 3) := by decide +kernel
theorem dX10_begins_19 : decode cX10_begins 19 = .ok (.goto (-17), 3) := by decide +kernel
theorem dX10_begins_22 : decode cX10_begins 22 = .ok (.aload_n 0, 1) := by decide +kernel
theorem dX10_begins_23 : decode cX10_begins 23 = .ok (.getfield 116, 3) := by decide +kernel
theorem dX10_begins_26 : decode cX10_begins 26 = .ok (.iconst 0, 1) := by decide +kernel
theorem dX10_begins_27 : decode cX10_begins 27 = .ok (.iconst 1, 1) := by decide +kernel
theorem dX10_begins_28 : decode cX10_begins 28 = .ok (.iastore, 1) := by decide +kernel
theorem dX10_begins_29 : decode cX10_begins 29 = .ok (.iconst 0, 1) := by decide +kernel
theorem dX10_begins_30 : decode cX10_begins 30 = .ok (.istore_n 1, 1) := by decide +kernel
theorem dX10_begins_31 : decode cX10_begins 31 = .ok (.iload_n 1, 1) := by decide +kernel
theorem dX10_begins_32 : decode cX10_begins 32 = .ok (.bipush 6, 2) := by decide +kernel
theorem dX10_begins_34 : decode cX10_begins 34 = .ok (.if_icmp .ge 24, 3) := by decide +kernel
theorem dX10_begins_37 : decode cX10_begins 37 = .ok (.aload_n 0, 1) := by decide +kernel
theorem dX10_begins_38 : decode cX10_begins 38 = .ok (.getfield 116, 3) := by decide +kernel
theorem dX10_begins_41 : decode cX10_begins 41 = .ok (.bipush 7, 2) := by decide +kernel
theorem dX10_begins_43 : decode cX10_begins 43 = .ok (.dup2, 1) := by decide +kernel
theorem dX10_begins_44 : decode cX10_begins 44 = .ok (.iaload, 1) := by decide +kernel
theorem dX10_begins_45 : decode cX10_begins 45 = .ok (.iconst 1, 1) := by decide +kernel
theorem dX10_begins_46 : decode cX10_begins 46 = .ok (.iconst 2, 1) := by decide +kernel
theorem dX10_begins_47 : decode cX10_begins 47 = .ok (.iload_n 1, 1) := by decide +kernel
theorem dX10_begins_48 : decode cX10_begins 48 = .ok (.imul, 1) := by decide +kernel
theorem dX10_begins_49 : decode cX10_begins 49 = .ok (.ishl, 1) := by decide +kernel
theorem dX10_begins_50 : decode cX10_begins 50 = .ok (.ior, 1) := by decide +kernel
theorem dX10_begins_51 : decode cX10_begins 51 = .ok (.iastore, 1) := by decide +kernel
theorem dX10_begins_52 : decode cX10_begins 52 = .ok (.iinc 1 1, 3) := by decide +kernel
theorem dX10_begins_55 : decode cX10_begins 55 = .ok (.goto (-24), 3) := by decide +kernel
theorem dX10_begins_58 : decode cX10_begins 58 = .ok (.aload_n 0, 1) := by decide +kernel
theorem dX10_begins_59 : decode cX10_begins 59 = .ok (.getfield 116, 3) := by decide +kernel
theorem dX10_begins_62 : decode cX10_begins 62 = .ok (.bipush 8, 2) := by decide +kernel
theorem dX10_begins_64 : decode cX10_begins 64 = .ok (.sipush 4096, 3) := by decide +kernel
theorem dX10_begins_67 : decode cX10_begins 67 = .ok (.iastore, 1) := by decide +kernel
theorem dX10_begins_68 : decode cX10_begins 68 = .ok (.return_, 1) := by decide +kernel
theorem dX10_analyze_0 : decode cX10_analyze 0 = .ok (.aload_n 0, 1) := by decide +kernel
theorem dX10_analyze_1 : decode cX10_analyze 1 = .ok (.iconst 0, 1) := by decide +kernel
theorem dX10_analyze_2 : decode cX10_analyze 2 = .ok (.putfield 143, 3) := by decide +kernel
theorem dX10_analyze_5 : decode cX10_analyze 5 = .ok (.aload_n 0, 1) := by decide +kernel
theorem dX10_analyze_6 : decode cX10_analyze 6 = .ok (.getfield 261, 3) := by decide +kernel
theorem dX10_analyze_9 : decode cX10_analyze 9 = .ok (.ifCond .ne 9, 3) := by decide +kernel
theorem dX10_analyze_12 : decode cX10_analyze 12 = .ok (.aload_n 0, 1) := by decide +kernel
theorem dX10_analyze_13 : decode cX10_analyze 13 = .ok (.iconst 1, 1) := by decide +kernel
theorem dX10_analyze_14 : decode cX10_analyze 14 = .ok (.invokevirtual 253, 3) := by decide +kernel
theorem dX10_analyze_17 : decode cX10_analyze 17 = .ok (.ireturn, 1) := by decide +kernel
theorem dX10_analyze_18 : decode cX10_analyze 18 = .ok (.aload_n 0, 1) := by decide +kernel
theorem dX10_analyze_19 : decode cX10_analyze 19 = .ok (.invokevirtual 438, 3) := by decide +kernel
theorem dX10_analyze_22 : decode cX10_analyze 22 = .ok (.aload_n 0, 1) := by decide +kernel
theorem dX10_analyze_23 : decode cX10_analyze 23 = .ok (.iconst 1, 1) := by decide +kernel
theorem dX10_analyze_24 : decode cX10_analyze 24 = .ok (.putfield 378, 3) := by decide +kernel
theorem dX10_analyze_27 : decode cX10_analyze 27 = .ok (.aload_n 0, 1) := by decide +kernel
theorem dX10_analyze_28 : decode cX10_analyze 28 = .ok (.getfield 378, 3) := by decide +kernel
theorem dX10_analyze_31 : decode cX10_analyze 31 = .ok (.ifCond .eq 133, 3) := by decide +kernel
theorem dX10_analyze_34 : decode cX10_analyze 34 = .ok (.aload_n 0, 1) := by decide +kernel
theorem dX10_analyze_35 : decode cX10_analyze 35 = .ok (.iconst 0, 1) := by decide +kernel
theorem dX10_analyze_36 : decode cX10_analyze 36 = .ok (.putfield 378, 3) := by decide +kernel
theorem dX10_analyze_39 : decode cX10_analyze 39 = .ok (.aload_n 0, 1) := by decide +kernel
theorem dX10_analyze_40 : decode cX10_analyze 40 = .ok (.iconst 0, 1) := by decide +kernel
theorem dX10_analyze_41 : decode cX10_analyze 41 = .ok (.putfield 429, 3) := by decide +kernel
theorem dX10_analyze_44 : decode cX10_analyze 44 = .ok (.aload_n 0, 1) := by decide +kernel
theorem dX10_analyze_45 : decode cX10_analyze 45 = .ok (.iconst 0, 1) := by decide +kernel
theorem dX10_analyze_46 : decode cX10_analyze 46 = .ok (.putfield 414, 3) := by decide +kernel
theorem dX10_analyze_49 : decode cX10_analyze 49 = .ok (.iconst 0, 1) := by decide +kernel
theorem dX10_analyze_50 : decode cX10_analyze 50 = .ok (.istore_n 1, 1) := by decide +kernel
theorem dX10_analyze_51 : decode cX10_analyze 51 = .ok (.iload_n 1, 1) := by decide +kernel
theorem dX10_analyze_52 : decode cX10_analyze 52 = .ok (.bipush 16, 2) := by decide +kernel
theorem dX10_analyze_54 : decode cX10_analyze 54 = .ok (.if_icmp .ge 16, 3) := by decide +kernel
theorem dX10_analyze_57 : decode cX10_analyze 57 = .ok (.aload_n 0, 1) := by decide +kernel
theorem dX10_analyze_58 : decode cX10_analyze 58 = .ok (.getfield 140, 3) := by decide +kernel
theorem dX10_analyze_61 : decode cX10_analyze 61 = .ok (.iload_n 1, 1) := by decide +kernel
theorem dX10_analyze_62 : decode cX10_analyze 62 = .ok (.iconst 0, 1) := by decide +kernel
theorem dX10_analyze_63 : decode cX10_analyze 63 = .ok (.iastore, 1) := by decide +kernel
theorem dX10_analyze_64 : decode cX10_analyze 64 = .ok (.iinc 1 1, 3) := by decide +kernel
theorem dX10_analyze_67 : decode cX10_analyze 67 = .ok (.goto (-16), 3) := by decide +kernel
theorem dX10_analyze_70 : decode cX10_analyze 70 = .ok (.iconst 0, 1) := by decide +kernel
theorem dX10_analyze_71 : decode cX10_analyze 71 = .ok (.istore_n 1, 1) := by decide +kernel
theorem dX10_analyze_72 : decode cX10_analyze 72 = .ok (.iload_n 1, 1) := by decide +kernel
theorem dX10_analyze_73 : decode cX10_analyze 73 = .ok (.aload_n 0, 1) := by decide +kernel
theorem dX10_analyze_74 : decode cX10_analyze 74 = .ok (.getfield 195, 3) := by decide +kernel
theorem dX10_analyze_77 : decode cX10_analyze 77 = .ok (.if_icmp .ge 33, 3) := by decide +kernel
theorem dX10_analyze_80 : decode cX10_analyze 80 = .ok (.aload_n 0, 1) := by decide +kernel
theorem dX10_analyze_81 : decode cX10_analyze 81 = .ok (.getfield 116, 3) := by decide +kernel
theorem dX10_analyze_84 : decode cX10_analyze 84 = .ok (.bipush 9, 2) := by decide +kernel
theorem dX10_analyze_86 : decode cX10_analyze 86 = .ok (.iload_n 1, 1) := by decide +kernel
theorem dX10_analyze_87 : decode cX10_analyze 87 = .ok (.imul, 1) := by decide +kernel
theorem dX10_analyze_88 : decode cX10_analyze 88 = .ok (.iaload, 1) := by decide +kernel
theorem dX10_analyze_89 : decode cX10_analyze 89 = .ok (.iconst 1, 1) := by decide +kernel
theorem dX10_analyze_90 : decode cX10_analyze 90 = .ok (.if_icmp .ne 14, 3) := by decide +kernel
theorem dX10_analyze_93 : decode cX10_analyze 93 = .ok (.aload_n 0, 1) := by decide +kernel
theorem dX10_analyze_94 : decode cX10_analyze 94 = .ok (.iload_n 1, 1) := by decide +kernel
theorem dX10_analyze_95 : decode cX10_analyze 95 = .ok (.aload_n 0, 1) := by decide +kernel
theorem dX10_analyze_96 : decode cX10_analyze 96 = .ok (.getfield 74, 3) := by decide +kernel
theorem dX10_analyze_99 : decode cX10_analyze 99 = .ok (.iload_n 1, 1) := by decide +kernel
theorem dX10_analyze_100 : decode cX10_analyze 100 = .ok (.iaload, 1) := by decide +kernel
theorem dX10_analyze_101 : decode cX10_analyze 101 = .ok (.invokevirtual 441, 3) := by decide +kernel
theorem dX10_analyze_104 : decode cX10_analyze 104 = .ok (.iinc 1 1, 3) := by decide +kernel
theorem dX10_analyze_107 : decode cX10_analyze 107 = .ok (.goto (-35), 3) := by decide +kernel
theorem dX10_analyze_110 : decode cX10_analyze 110 = .ok (.iconst 0, 1) := by decide +kernel
theorem dX10_analyze_111 : decode cX10_analyze 111 = .ok (.istore_n 1, 1) := by decide +kernel
theorem dX10_analyze_112 : decode cX10_analyze 112 = .ok (.iload_n 1, 1) := by decide +kernel
theorem dX10_analyze_113 : decode cX10_analyze 113 = .ok (.aload_n 0, 1) := by decide +kernel
theorem dX10_analyze_114 : decode cX10_analyze 114 = .ok (.getfield 222, 3) := by decide +kernel
theorem dX10_analyze_117 : decode cX10_analyze 117 = .ok (.if_icmp .ge 44, 3) := by decide +kernel
theorem dX10_analyze_120 : decode cX10_analyze 120 = .ok (.aload_n 0, 1) := by decide +kernel
theorem dX10_analyze_121 : decode cX10_analyze 121 = .ok (.getfield 116, 3) := by decide +kernel
theorem dX10_analyze_124 : decode cX10_analyze 124 = .ok (.bipush 9, 2) := by decide +kernel
theorem dX10_analyze_126 : decode cX10_analyze 126 = .ok (.bipush 12, 2) := by decide +kernel
theorem dX10_analyze_128 : decode cX10_analyze 128 = .ok (.iload_n 1, 1) := by decide +kernel
theorem dX10_analyze_129 : decode cX10_analyze 129 = .ok (.iadd, 1) := by decide +kernel
theorem dX10_analyze_130 : decode cX10_analyze 130 = .ok (.imul, 1) := by decide +kernel
theorem dX10_analyze_131 : decode cX10_analyze 131 = .ok (.iaload, 1) := by decide +kernel
theorem dX10_analyze_132 : decode cX10_analyze 132 = .ok (.iconst 1, 1) := by decide +kernel
theorem dX10_analyze_133 : decode cX10_analyze 133 = .ok (.if_icmp .ne 22, 3) := by decide +kernel
theorem dX10_analyze_136 : decode cX10_analyze 136 = .ok (.aload_n 0, 1) := by decide +kernel
theorem dX10_analyze_137 : decode cX10_analyze 137 = .ok (.bipush 12, 2) := by decide +kernel
theorem dX10_analyze_139 : decode cX10_analyze 139 = .ok (.iload_n 1, 1) := by decide +kernel
theorem dX10_analyze_140 : decode cX10_analyze 140 = .ok (.iadd, 1) := by decide +kernel
theorem dX10_analyze_141 : decode cX10_analyze 141 = .ok (.aload_n 0, 1) := by decide +kernel
theorem dX10_analyze_142 : decode cX10_analyze 142 = .ok (.getfield 31, 3) := by decide +kernel
theorem dX10_analyze_145 : decode cX10_analyze 145 = .ok (.aload_n 0, 1) := by decide +kernel
theorem dX10_analyze_146 : decode cX10_analyze 146 = .ok (.getfield 80, 3) := by decide +kernel
theorem dX10_analyze_149 : decode cX10_analyze 149 = .ok (.iload_n 1, 1) := by decide +kernel
theorem dX10_analyze_150 : decode cX10_analyze 150 = .ok (.iaload, 1) := by decide +kernel
theorem dX10_analyze_151 : decode cX10_analyze 151 = .ok (.iaload, 1) := by decide +kernel
theorem dX10_analyze_152 : decode cX10_analyze 152 = .ok (.invokevirtual 441, 3) := by decide +kernel
theorem dX10_analyze_155 : decode cX10_analyze 155 = .ok (.iinc 1 1, 3) := by decide +kernel
theorem dX10_analyze_158 : decode cX10_analyze 158 = .ok (.goto (-46), 3) := by decide +kernel
theorem dX10_analyze_161 : decode cX10_analyze 161 = .ok (.goto (-134), 3) := by decide +kernel
theorem dX10_analyze_164 : decode cX10_analyze 164 = .ok (.aload_n 0, 1) := by decide +kernel
theorem dX10_analyze_165 : decode cX10_analyze 165 = .ok (.iconst 1, 1) := by decide +kernel
theorem dX10_analyze_166 : decode cX10_analyze 166 = .ok (.putfield 273, 3) := by decide +kernel
theorem dX10_analyze_169 : decode cX10_analyze 169 = .ok (.iconst 0, 1) := by decide +kernel
theorem dX10_analyze_170 : decode cX10_analyze 170 = .ok (.istore_n 1, 1) := by decide +kernel
theorem dX10_analyze_171 : decode cX10_analyze 171 = .ok (.iconst 0, 1) := by decide +kernel
theorem dX10_analyze_172 : decode cX10_analyze 172 = .ok (.istore_n 2, 1) := by decide +kernel
theorem dX10_analyze_173 : decode cX10_analyze 173 = .ok (.iload_n 2, 1) := by decide +kernel
theorem dX10_analyze_174 : decode cX10_analyze 174 = .ok (.aload_n 0, 1) := by decide +kernel
theorem dX10_analyze_175 : decode cX10_analyze 175 = .ok (.getfield 195, 3) := by decide +kernel
theorem dX10_analyze_178 : decode cX10_analyze 178 = .ok (.if_icmp .ge 21, 3) := by decide +kernel
theorem dX10_analyze_181 : decode cX10_analyze 181 = .ok (.iload_n 1, 1) := by decide +kernel
theorem dX10_analyze_182 : decode cX10_analyze 182 = .ok (.aload_n 0, 1) := by decide +kernel
theorem dX10_analyze_183 : decode cX10_analyze 183 = .ok (.getfield 116, 3) := by decide +kernel
theorem dX10_analyze_186 : decode cX10_analyze 186 = .ok (.bipush 9, 2) := by decide +kernel
theorem dX10_analyze_188 : decode cX10_analyze 188 = .ok (.iload_n 2, 1) := by decide +kernel
theorem dX10_analyze_189 : decode cX10_analyze 189 = .ok (.imul, 1) := by decide +kernel
theorem dX10_analyze_190 : decode cX10_analyze 190 = .ok (.iaload, 1) := by decide +kernel
theorem dX10_analyze_191 : decode cX10_analyze 191 = .ok (.iadd, 1) := by decide +kernel
theorem dX10_analyze_192 : decode cX10_analyze 192 = .ok (.istore_n 1, 1) := by decide +kernel
theorem dX10_analyze_193 : decode cX10_analyze 193 = .ok (.iinc 2 1, 3) := by decide +kernel
theorem dX10_analyze_196 : decode cX10_analyze 196 = .ok (.goto (-23), 3) := by decide +kernel
theorem dX10_analyze_199 : decode cX10_analyze 199 = .ok (.iload_n 1, 1) := by decide +kernel
theorem dX10_analyze_200 : decode cX10_analyze 200 = .ok (.ireturn, 1) := by decide +kernel
theorem dX10_isReached_0 : decode cX10_isReached 0 = .ok (.aload_n 0, 1) := by decide +kernel
theorem dX10_isReached_1 : decode cX10_isReached 1 = .ok (.iload_n 1, 1) := by decide +kernel
theorem dX10_isReached_2 : decode cX10_isReached 2 = .ok (.iconst 0, 1) := by decide +kernel
theorem dX10_isReached_3 : decode cX10_isReached 3 = .ok (.iconst 1, 1) := by decide +kernel
theorem dX10_isReached_4 : decode cX10_isReached 4 = .ok (.invokestatic 168, 3) := by decide +kernel
theorem dX10_isReached_7 : decode cX10_isReached 7 = .ok (.ifCond .ne 7, 3) := by decide +kernel
theorem dX10_isReached_10 : decode cX10_isReached 10 = .ok (.iconst 1, 1) := by decide +kernel
theorem dX10_isReached_11 : decode cX10_isReached 11 = .ok (.goto 46, 3) := by decide +kernel
theorem dX10_isReached_14 : decode cX10_isReached 14 = .ok (.aload_n 0, 1) := by decide +kernel
theorem dX10_isReached_15 : decode cX10_isReached 15 = .ok (.getfield 273, 3) := by decide +kernel
theorem dX10_isReached_18 : decode cX10_isReached 18 = .ok (.ifCond .ne 7, 3) := by decide +kernel
theorem dX10_isReached_21 : decode cX10_isReached 21 = .ok (.iconst 2, 1) := by decide +kernel
theorem dX10_isReached_22 : decode cX10_isReached 22 = .ok (.goto 35, 3) := by decide +kernel
theorem dX10_isReached_25 : decode cX10_isReached 25 = .ok (.iload_n 2, 1) := by decide +kernel
theorem dX10_isReached_26 : decode cX10_isReached 26 = .ok (.iconst 0, 1) := by decide +kernel
theorem dX10_isReached_27 : decode cX10_isReached 27 = .ok (.iload_n 1, 1) := by decide +kernel
theorem dX10_isReached_28 : decode cX10_isReached 28 = .ok (.ifCond .ne 12, 3) := by decide +kernel
theorem dX10_isReached_31 : decode cX10_isReached 31 = .ok (.aload_n 0, 1) := by decide +kernel
theorem dX10_isReached_32 : decode cX10_isReached 32 = .ok (.getfield 195, 3) := by decide +kernel
theorem dX10_isReached_35 : decode cX10_isReached 35 = .ok (.iconst 1, 1) := by decide +kernel
theorem dX10_isReached_36 : decode cX10_isReached 36 = .ok (.isub, 1) := by decide +kernel
theorem dX10_isReached_37 : decode cX10_isReached 37 = .ok (.goto 9, 3) := by decide +kernel
theorem dX10_isReached_40 : decode cX10_isReached 40 = .ok (.aload_n 0, 1) := by decide +kernel
theorem dX10_isReached_41 : decode cX10_isReached 41 = .ok (.getfield 222, 3) := by decide +kernel
theorem dX10_isReached_44 : decode cX10_isReached 44 = .ok (.iconst 1, 1) := by decide +kernel
theorem dX10_isReached_45 : decode cX10_isReached 45 = .ok (.isub, 1) := by decide +kernel
theorem dX10_isReached_46 : decode cX10_isReached 46 = .ok (.invokestatic 168, 3) := by decide +kernel
theorem dX10_isReached_49 : decode cX10_isReached 49 = .ok (.ifCond .ne 7, 3) := by decide +kernel
theorem dX10_isReached_52 : decode cX10_isReached 52 = .ok (.iconst 3, 1) := by decide +kernel
theorem dX10_isReached_53 : decode cX10_isReached 53 = .ok (.goto 4, 3) := by decide +kernel
theorem dX10_isReached_56 : decode cX10_isReached 56 = .ok (.iconst 0, 1) := by decide +kernel
theorem dX10_isReached_57 : decode cX10_isReached 57 = .ok (.putfield 143, 3) := by decide +kernel
theorem dX10_isReached_60 : decode cX10_isReached 60 = .ok (.aload_n 0, 1) := by decide +kernel
theorem dX10_isReached_61 : decode cX10_isReached 61 = .ok (.getfield 143, 3) := by decide +kernel
theorem dX10_isReached_64 : decode cX10_isReached 64 = .ok (.ifCond .ne 25, 3) := by decide +kernel
theorem dX10_isReached_67 : decode cX10_isReached 67 = .ok (.aload_n 0, 1) := by decide +kernel
theorem dX10_isReached_68 : decode cX10_isReached 68 = .ok (.getfield 116, 3) := by decide +kernel
theorem dX10_isReached_71 : decode cX10_isReached 71 = .ok (.bipush 9, 2) := by decide +kernel
theorem dX10_isReached_73 : decode cX10_isReached 73 = .ok (.bipush 12, 2) := by decide +kernel
theorem dX10_isReached_75 : decode cX10_isReached 75 = .ok (.iload_n 1, 1) := by decide +kernel
theorem dX10_isReached_76 : decode cX10_isReached 76 = .ok (.imul, 1) := by decide +kernel
theorem dX10_isReached_77 : decode cX10_isReached 77 = .ok (.iload_n 2, 1) := by decide +kernel
theorem dX10_isReached_78 : decode cX10_isReached 78 = .ok (.iadd, 1) := by decide +kernel
theorem dX10_isReached_79 : decode cX10_isReached 79 = .ok (.imul, 1) := by decide +kernel
theorem dX10_isReached_80 : decode cX10_isReached 80 = .ok (.iaload, 1) := by decide +kernel
theorem dX10_isReached_81 : decode cX10_isReached 81 = .ok (.iconst 1, 1) := by decide +kernel
theorem dX10_isReached_82 : decode cX10_isReached 82 = .ok (.if_icmp .ne 7, 3) := by decide +kernel
theorem dX10_isReached_85 : decode cX10_isReached 85 = .ok (.iconst 1, 1) := by decide +kernel
theorem dX10_isReached_86 : decode cX10_isReached 86 = .ok (.goto 4, 3) := by decide +kernel
theorem dX10_isReached_89 : decode cX10_isReached 89 = .ok (.iconst 0, 1) := by decide +kernel
theorem dX10_isReached_90 : decode cX10_isReached 90 = .ok (.ireturn, 1) := by decide +kernel
theorem dX10_ofEntry_0 : decode cX10_ofEntry 0 = .ok (.aload_n 0, 1) := by decide +kernel
theorem dX10_ofEntry_1 : decode cX10_ofEntry 1 = .ok (.iload_n 2, 1) := by decide +kernel
theorem dX10_ofEntry_2 : decode cX10_ofEntry 2 = .ok (.iconst 0, 1) := by decide +kernel
theorem dX10_ofEntry_3 : decode cX10_ofEntry 3 = .ok (.iload_n 3, 1) := by decide +kernel
theorem dX10_ofEntry_4 : decode cX10_ofEntry 4 = .ok (.invokestatic 168, 3) := by decide +kernel
theorem dX10_ofEntry_7 : decode cX10_ofEntry 7 = .ok (.ifCond .ne 7, 3) := by decide +kernel
theorem dX10_ofEntry_10 : decode cX10_ofEntry 10 = .ok (.iconst 1, 1) := by decide +kernel
theorem dX10_ofEntry_11 : decode cX10_ofEntry 11 = .ok (.goto 33, 3) := by decide +kernel
theorem dX10_ofEntry_14 : decode cX10_ofEntry 14 = .ok (.aload_n 0, 1) := by decide +kernel
theorem dX10_ofEntry_15 : decode cX10_ofEntry 15 = .ok (.getfield 273, 3) := by decide +kernel
theorem dX10_ofEntry_18 : decode cX10_ofEntry 18 = .ok (.ifCond .ne 7, 3) := by decide +kernel
theorem dX10_ofEntry_21 : decode cX10_ofEntry 21 = .ok (.iconst 2, 1) := by decide +kernel
theorem dX10_ofEntry_22 : decode cX10_ofEntry 22 = .ok (.goto 22, 3) := by decide +kernel
theorem dX10_ofEntry_25 : decode cX10_ofEntry 25 = .ok (.iload_n 1, 1) := by decide +kernel
theorem dX10_ofEntry_26 : decode cX10_ofEntry 26 = .ok (.iconst 0, 1) := by decide +kernel
theorem dX10_ofEntry_27 : decode cX10_ofEntry 27 = .ok (.aload_n 0, 1) := by decide +kernel
theorem dX10_ofEntry_28 : decode cX10_ofEntry 28 = .ok (.getfield 195, 3) := by decide +kernel
theorem dX10_ofEntry_31 : decode cX10_ofEntry 31 = .ok (.iconst 1, 1) := by decide +kernel
theorem dX10_ofEntry_32 : decode cX10_ofEntry 32 = .ok (.isub, 1) := by decide +kernel
theorem dX10_ofEntry_33 : decode cX10_ofEntry 33 = .ok (.invokestatic 168, 3) := by decide +kernel
theorem dX10_ofEntry_36 : decode cX10_ofEntry 36 = .ok (.ifCond .ne 7, 3) := by decide +kernel
theorem dX10_ofEntry_39 : decode cX10_ofEntry 39 = .ok (.iconst 3, 1) := by decide +kernel
theorem dX10_ofEntry_40 : decode cX10_ofEntry 40 = .ok (.goto 4, 3) := by decide +kernel
theorem dX10_ofEntry_43 : decode cX10_ofEntry 43 = .ok (.iconst 0, 1) := by decide +kernel
theorem dX10_ofEntry_44 : decode cX10_ofEntry 44 = .ok (.putfield 143, 3) := by decide +kernel
theorem dX10_ofEntry_47 : decode cX10_ofEntry 47 = .ok (.aload_n 0, 1) := by decide +kernel
theorem dX10_ofEntry_48 : decode cX10_ofEntry 48 = .ok (.getfield 143, 3) := by decide +kernel
theorem dX10_ofEntry_51 : decode cX10_ofEntry 51 = .ok (.ifCond .le 5, 3) := by decide +kernel
theorem dX10_ofEntry_54 : decode cX10_ofEntry 54 = .ok (.iconst 0, 1) := by decide +kernel
theorem dX10_ofEntry_55 : decode cX10_ofEntry 55 = .ok (.ireturn, 1) := by decide +kernel
theorem dX10_ofEntry_56 : decode cX10_ofEntry 56 = .ok (.aload_n 0, 1) := by decide +kernel
theorem dX10_ofEntry_57 : decode cX10_ofEntry 57 = .ok (.getfield 116, 3) := by decide +kernel
theorem dX10_ofEntry_60 : decode cX10_ofEntry 60 = .ok (.bipush 9, 2) := by decide +kernel
theorem dX10_ofEntry_62 : decode cX10_ofEntry 62 = .ok (.iload_n 1, 1) := by decide +kernel
theorem dX10_ofEntry_63 : decode cX10_ofEntry 63 = .ok (.imul, 1) := by decide +kernel
theorem dX10_ofEntry_64 : decode cX10_ofEntry 64 = .ok (.iaload, 1) := by decide +kernel
theorem dX10_ofEntry_65 : decode cX10_ofEntry 65 = .ok (.ifCond .ne 7, 3) := by decide +kernel
theorem dX10_ofEntry_68 : decode cX10_ofEntry 68 = .ok (.iconst (-1), 1) := by decide +kernel
theorem dX10_ofEntry_69 : decode cX10_ofEntry 69 = .ok (.goto 15, 3) := by decide +kernel
theorem dX10_ofEntry_72 : decode cX10_ofEntry 72 = .ok (.aload_n 0, 1) := by decide +kernel
theorem dX10_ofEntry_73 : decode cX10_ofEntry 73 = .ok (.getfield 116, 3) := by decide +kernel
theorem dX10_ofEntry_76 : decode cX10_ofEntry 76 = .ok (.bipush 9, 2) := by decide +kernel
theorem dX10_ofEntry_78 : decode cX10_ofEntry 78 = .ok (.iload_n 1, 1) := by decide +kernel
theorem dX10_ofEntry_79 : decode cX10_ofEntry 79 = .ok (.imul, 1) := by decide +kernel
theorem dX10_ofEntry_80 : decode cX10_ofEntry 80 = .ok (.iload 4, 2) := by decide +kernel
theorem dX10_ofEntry_82 : decode cX10_ofEntry 82 = .ok (.iadd, 1) := by decide +kernel
theorem dX10_ofEntry_83 : decode cX10_ofEntry 83 = .ok (.iaload, 1) := by decide +kernel
theorem dX10_ofEntry_84 : decode cX10_ofEntry 84 = .ok (.ireturn, 1) := by decide +kernel
theorem dX10_lowest_0 : decode cX10_lowest 0 = .ok (.aload_n 0, 1) := by decide +kernel
theorem dX10_lowest_1 : decode cX10_lowest 1 = .ok (.iload_n 1, 1) := by decide +kernel
theorem dX10_lowest_2 : decode cX10_lowest 2 = .ok (.iload_n 2, 1) := by decide +kernel
theorem dX10_lowest_3 : decode cX10_lowest 3 = .ok (.iconst 2, 1) := by decide +kernel
theorem dX10_lowest_4 : decode cX10_lowest 4 = .ok (.iconst 1, 1) := by decide +kernel
theorem dX10_lowest_5 : decode cX10_lowest 5 = .ok (.iload_n 2, 1) := by decide +kernel
theorem dX10_lowest_6 : decode cX10_lowest 6 = .ok (.iadd, 1) := by decide +kernel
theorem dX10_lowest_7 : decode cX10_lowest 7 = .ok (.invokevirtual 444, 3) := by decide +kernel
theorem dX10_lowest_10 : decode cX10_lowest 10 = .ok (.ireturn, 1) := by decide +kernel
theorem dX10_greatest_0 : decode cX10_greatest 0 = .ok (.aload_n 0, 1) := by decide +kernel
theorem dX10_greatest_1 : decode cX10_greatest 1 = .ok (.iload_n 1, 1) := by decide +kernel
theorem dX10_greatest_2 : decode cX10_greatest 2 = .ok (.iload_n 2, 1) := by decide +kernel
theorem dX10_greatest_3 : decode cX10_greatest 3 = .ok (.iconst 2, 1) := by decide +kernel
theorem dX10_greatest_4 : decode cX10_greatest 4 = .ok (.iconst 4, 1) := by decide +kernel
theorem dX10_greatest_5 : decode cX10_greatest 5 = .ok (.iload_n 2, 1) := by decide +kernel
theorem dX10_greatest_6 : decode cX10_greatest 6 = .ok (.iadd, 1) := by decide +kernel
theorem dX10_greatest_7 : decode cX10_greatest 7 = .ok (.invokevirtual 444, 3) := by decide +kernel
theorem dX10_greatest_10 : decode cX10_greatest 10 = .ok (.ireturn, 1) := by decide +kernel
theorem dX10_values_0 : decode cX10_values 0 = .ok (.aload_n 0, 1) := by decide +kernel
theorem dX10_values_1 : decode cX10_values 1 = .ok (.iload_n 1, 1) := by decide +kernel
theorem dX10_values_2 : decode cX10_values 2 = .ok (.iload_n 2, 1) := by decide +kernel
theorem dX10_values_3 : decode cX10_values 3 = .ok (.iconst 5, 1) := by decide +kernel
theorem dX10_values_4 : decode cX10_values 4 = .ok (.bipush 7, 2) := by decide +kernel
theorem dX10_values_6 : decode cX10_values 6 = .ok (.invokevirtual 444, 3) := by decide +kernel
theorem dX10_values_9 : decode cX10_values 9 = .ok (.istore_n 3, 1) := by decide +kernel
theorem dX10_values_10 : decode cX10_values 10 = .ok (.aload_n 0, 1) := by decide +kernel
theorem dX10_values_11 : decode cX10_values 11 = .ok (.getfield 143, 3) := by decide +kernel
theorem dX10_values_14 : decode cX10_values 14 = .ok (.ifCond .gt 8, 3) := by decide +kernel
theorem dX10_values_17 : decode cX10_values 17 = .ok (.iload_n 3, 1) := by decide +kernel
theorem dX10_values_18 : decode cX10_values 18 = .ok (.iconst (-1), 1) := by decide +kernel
theorem dX10_values_19 : decode cX10_values 19 = .ok (.if_icmp .ne 7, 3) := by decide +kernel
theorem dX10_values_22 : decode cX10_values 22 = .ok (.iconst 0, 1) := by decide +kernel
theorem dX10_values_23 : decode cX10_values 23 = .ok (.goto 10, 3) := by decide +kernel
theorem dX10_values_26 : decode cX10_values 26 = .ok (.iload_n 3, 1) := by decide +kernel
theorem dX10_values_27 : decode cX10_values 27 = .ok (.iconst 2, 1) := by decide +kernel
theorem dX10_values_28 : decode cX10_values 28 = .ok (.iload_n 2, 1) := by decide +kernel
theorem dX10_values_29 : decode cX10_values 29 = .ok (.imul, 1) := by decide +kernel
theorem dX10_values_30 : decode cX10_values 30 = .ok (.ishr, 1) := by decide +kernel
theorem dX10_values_31 : decode cX10_values 31 = .ok (.iconst 3, 1) := by decide +kernel
theorem dX10_values_32 : decode cX10_values 32 = .ok (.iand, 1) := by decide +kernel
theorem dX10_values_33 : decode cX10_values 33 = .ok (.ireturn, 1) := by decide +kernel
theorem dX10_hubs_0 : decode cX10_hubs 0 = .ok (.aload_n 0, 1) := by decide +kernel
theorem dX10_hubs_1 : decode cX10_hubs 1 = .ok (.aload_n 0, 1) := by decide +kernel
theorem dX10_hubs_2 : decode cX10_hubs 2 = .ok (.getfield 273, 3) := by decide +kernel
theorem dX10_hubs_5 : decode cX10_hubs 5 = .ok (.ifCond .ne 7, 3) := by decide +kernel
theorem dX10_hubs_8 : decode cX10_hubs 8 = .ok (.iconst 1, 1) := by decide +kernel
theorem dX10_hubs_9 : decode cX10_hubs 9 = .ok (.goto 22, 3) := by decide +kernel
theorem dX10_hubs_12 : decode cX10_hubs 12 = .ok (.iload_n 1, 1) := by decide +kernel
theorem dX10_hubs_13 : decode cX10_hubs 13 = .ok (.iconst 0, 1) := by decide +kernel
theorem dX10_hubs_14 : decode cX10_hubs 14 = .ok (.aload_n 0, 1) := by decide +kernel
theorem dX10_hubs_15 : decode cX10_hubs 15 = .ok (.getfield 195, 3) := by decide +kernel
theorem dX10_hubs_18 : decode cX10_hubs 18 = .ok (.iconst 1, 1) := by decide +kernel
theorem dX10_hubs_19 : decode cX10_hubs 19 = .ok (.isub, 1) := by decide +kernel
theorem dX10_hubs_20 : decode cX10_hubs 20 = .ok (.invokestatic 168, 3) := by decide +kernel
theorem dX10_hubs_23 : decode cX10_hubs 23 = .ok (.ifCond .ne 7, 3) := by decide +kernel
theorem dX10_hubs_26 : decode cX10_hubs 26 = .ok (.iconst 2, 1) := by decide +kernel
theorem dX10_hubs_27 : decode cX10_hubs 27 = .ok (.goto 4, 3) := by decide +kernel
theorem dX10_hubs_30 : decode cX10_hubs 30 = .ok (.iconst 0, 1) := by decide +kernel
theorem dX10_hubs_31 : decode cX10_hubs 31 = .ok (.putfield 143, 3) := by decide +kernel
theorem dX10_hubs_34 : decode cX10_hubs 34 = .ok (.aload_n 0, 1) := by decide +kernel
theorem dX10_hubs_35 : decode cX10_hubs 35 = .ok (.getfield 143, 3) := by decide +kernel
theorem dX10_hubs_38 : decode cX10_hubs 38 = .ok (.ifCond .gt 15, 3) := by decide +kernel
theorem dX10_hubs_41 : decode cX10_hubs 41 = .ok (.aload_n 0, 1) := by decide +kernel
theorem dX10_hubs_42 : decode cX10_hubs 42 = .ok (.getfield 116, 3) := by decide +kernel
theorem dX10_hubs_45 : decode cX10_hubs 45 = .ok (.bipush 9, 2) := by decide +kernel
theorem dX10_hubs_47 : decode cX10_hubs 47 = .ok (.iload_n 1, 1) := by decide +kernel
theorem dX10_hubs_48 : decode cX10_hubs 48 = .ok (.imul, 1) := by decide +kernel
theorem dX10_hubs_49 : decode cX10_hubs 49 = .ok (.iaload, 1) := by decide +kernel
theorem dX10_hubs_50 : decode cX10_hubs 50 = .ok (.ifCond .ne 7, 3) := by decide +kernel
theorem dX10_hubs_53 : decode cX10_hubs 53 = .ok (.iconst 0, 1) := by decide +kernel
theorem dX10_hubs_54 : decode cX10_hubs 54 = .ok (.goto 15, 3) := by decide +kernel
theorem dX10_hubs_57 : decode cX10_hubs 57 = .ok (.aload_n 0, 1) := by decide +kernel
theorem dX10_hubs_58 : decode cX10_hubs 58 = .ok (.getfield 116, 3) := by decide +kernel
theorem dX10_hubs_61 : decode cX10_hubs 61 = .ok (.bipush 9, 2) := by decide +kernel
theorem dX10_hubs_63 : decode cX10_hubs 63 = .ok (.iload_n 1, 1) := by decide +kernel
theorem dX10_hubs_64 : decode cX10_hubs 64 = .ok (.imul, 1) := by decide +kernel
theorem dX10_hubs_65 : decode cX10_hubs 65 = .ok (.bipush 8, 2) := by decide +kernel
theorem dX10_hubs_67 : decode cX10_hubs 67 = .ok (.iadd, 1) := by decide +kernel
theorem dX10_hubs_68 : decode cX10_hubs 68 = .ok (.iaload, 1) := by decide +kernel
theorem dX10_hubs_69 : decode cX10_hubs 69 = .ok (.ireturn, 1) := by decide +kernel
theorem wt_1369 : (Jvm.Cond.fieldLink "BranchingStoryModel" (131 : Nat) "BranchingStoryModel" "firstOffered" "[I") ∈ lw_tbl := in_tb 1369 (by decide +kernel)
theorem wt_1370 : (Jvm.Cond.fieldLink "BranchingStoryModel" (134 : Nat) "BranchingStoryModel" "firstCertain" "[I") ∈ lw_tbl := in_tb 1370 (by decide +kernel)
theorem wt_1378 : (Jvm.Cond.fieldLink "BranchingStoryModel" (429 : Nat) "BranchingStoryModel" "possibleEndings" "I") ∈ lw_tbl := in_tb 1378 (by decide +kernel)
theorem wt_1379 : (Jvm.Cond.fieldLink "BranchingStoryModel" (414 : Nat) "BranchingStoryModel" "possibleDeadEnds" "I") ∈ lw_tbl := in_tb 1379 (by decide +kernel)
theorem wt_1832 : (Jvm.Cond.methodLink "BranchingStoryModel" (438 : Nat) ({ cls := "BranchingStoryModel", name := "begins", desc := "()V" } : Jvm.MethodName)) ∈ lw_tbl := in_tb 1832 (by decide +kernel)
theorem wt_1834 : (Jvm.Cond.instanceMethod ({ cls := "BranchingStoryModel", name := "begins", desc := "()V" } : Jvm.MethodName)) ∈ lw_tbl := in_tb 1834 (by decide +kernel)
theorem wt_1835 : (Jvm.Cond.code ({ cls := "BranchingStoryModel", name := "begins", desc := "()V" } : Jvm.MethodName) prog_12_method_94_code (2 : Nat) (Option.none : Option Jvm.ClassFile.FieldType)) ∈ lw_tbl := in_tb 1835 (by decide +kernel)
theorem wt_1836 : (Jvm.Cond.methodLink "BranchingStoryModel" (441 : Nat) ({ cls := "BranchingStoryModel", name := "goesThrough", desc := "(II)V" } : Jvm.MethodName)) ∈ lw_tbl := in_tb 1836 (by decide +kernel)
theorem wt_1838 : (Jvm.Cond.instanceMethod ({ cls := "BranchingStoryModel", name := "goesThrough", desc := "(II)V" } : Jvm.MethodName)) ∈ lw_tbl := in_tb 1838 (by decide +kernel)
theorem wt_1839 : (Jvm.Cond.code ({ cls := "BranchingStoryModel", name := "goesThrough", desc := "(II)V" } : Jvm.MethodName) prog_12_method_93_code (5 : Nat) (Option.none : Option Jvm.ClassFile.FieldType)) ∈ lw_tbl := in_tb 1839 (by decide +kernel)
theorem wt_1843 : (Jvm.Cond.methodLink "BranchingStoryModel" (432 : Nat) ({ cls := "BranchingStoryModel", name := "leavesTest", desc := "()V" } : Jvm.MethodName)) ∈ lw_tbl := in_tb 1843 (by decide +kernel)
theorem wt_1845 : (Jvm.Cond.instanceMethod ({ cls := "BranchingStoryModel", name := "leavesTest", desc := "()V" } : Jvm.MethodName)) ∈ lw_tbl := in_tb 1845 (by decide +kernel)
theorem wt_1846 : (Jvm.Cond.code ({ cls := "BranchingStoryModel", name := "leavesTest", desc := "()V" } : Jvm.MethodName) prog_12_method_88_code (3 : Nat) (Option.none : Option Jvm.ClassFile.FieldType)) ∈ lw_tbl := in_tb 1846 (by decide +kernel)
theorem wt_1847 : (Jvm.Cond.methodLink "BranchingStoryModel" (408 : Nat) ({ cls := "BranchingStoryModel", name := "firstOf", desc := "(I)I" } : Jvm.MethodName)) ∈ lw_tbl := in_tb 1847 (by decide +kernel)
theorem wt_1848 : (Jvm.Cond.static ({ cls := "BranchingStoryModel", name := "firstOf", desc := "(I)I" } : Jvm.MethodName)) ∈ lw_tbl := in_tb 1848 (by decide +kernel)
theorem wt_1849 : (Jvm.Cond.code ({ cls := "BranchingStoryModel", name := "firstOf", desc := "(I)I" } : Jvm.MethodName) prog_12_method_86_code (1 : Nat) (Option.some Jvm.ClassFile.FieldType.int)) ∈ lw_tbl := in_tb 1849 (by decide +kernel)
theorem wt_1856 : (Jvm.Cond.methodLink "BranchingStoryModel" (435 : Nat) ({ cls := "BranchingStoryModel", name := "learns", desc := "(I)V" } : Jvm.MethodName)) ∈ lw_tbl := in_tb 1856 (by decide +kernel)
theorem wt_1858 : (Jvm.Cond.instanceMethod ({ cls := "BranchingStoryModel", name := "learns", desc := "(I)V" } : Jvm.MethodName)) ∈ lw_tbl := in_tb 1858 (by decide +kernel)
theorem wt_1859 : (Jvm.Cond.code ({ cls := "BranchingStoryModel", name := "learns", desc := "(I)V" } : Jvm.MethodName) prog_12_method_92_code (3 : Nat) (Option.none : Option Jvm.ClassFile.FieldType)) ∈ lw_tbl := in_tb 1859 (by decide +kernel)
theorem wt_1860 : (Jvm.Cond.methodLink "BranchingStoryModel" (417 : Nat) ({ cls := "BranchingStoryModel", name := "learnsMeter", desc := "(I)V" } : Jvm.MethodName)) ∈ lw_tbl := in_tb 1860 (by decide +kernel)
theorem wt_1862 : (Jvm.Cond.instanceMethod ({ cls := "BranchingStoryModel", name := "learnsMeter", desc := "(I)V" } : Jvm.MethodName)) ∈ lw_tbl := in_tb 1862 (by decide +kernel)
theorem wt_1863 : (Jvm.Cond.code ({ cls := "BranchingStoryModel", name := "learnsMeter", desc := "(I)V" } : Jvm.MethodName) prog_12_method_90_code (5 : Nat) (Option.none : Option Jvm.ClassFile.FieldType)) ∈ lw_tbl := in_tb 1863 (by decide +kernel)
theorem wt_1864 : (Jvm.Cond.methodLink "BranchingStoryModel" (420 : Nat) ({ cls := "BranchingStoryModel", name := "opensTest", desc := "(I)V" } : Jvm.MethodName)) ∈ lw_tbl := in_tb 1864 (by decide +kernel)
theorem wt_1866 : (Jvm.Cond.instanceMethod ({ cls := "BranchingStoryModel", name := "opensTest", desc := "(I)V" } : Jvm.MethodName)) ∈ lw_tbl := in_tb 1866 (by decide +kernel)
theorem wt_1867 : (Jvm.Cond.code ({ cls := "BranchingStoryModel", name := "opensTest", desc := "(I)V" } : Jvm.MethodName) prog_12_method_87_code (3 : Nat) (Option.none : Option Jvm.ClassFile.FieldType)) ∈ lw_tbl := in_tb 1867 (by decide +kernel)
theorem wt_1888 : (Jvm.Cond.methodLink "BranchingStoryModel" (423 : Nat) ({ cls := "BranchingStoryModel", name := "offers", desc := "(I)V" } : Jvm.MethodName)) ∈ lw_tbl := in_tb 1888 (by decide +kernel)
theorem wt_1890 : (Jvm.Cond.instanceMethod ({ cls := "BranchingStoryModel", name := "offers", desc := "(I)V" } : Jvm.MethodName)) ∈ lw_tbl := in_tb 1890 (by decide +kernel)
theorem wt_1891 : (Jvm.Cond.code ({ cls := "BranchingStoryModel", name := "offers", desc := "(I)V" } : Jvm.MethodName) prog_12_method_89_code (3 : Nat) (Option.none : Option Jvm.ClassFile.FieldType)) ∈ lw_tbl := in_tb 1891 (by decide +kernel)
theorem wt_1892 : (Jvm.Cond.methodLink "BranchingStoryModel" (411 : Nat) ({ cls := "BranchingStoryModel", name := "comesTo", desc := "(I)V" } : Jvm.MethodName)) ∈ lw_tbl := in_tb 1892 (by decide +kernel)
theorem wt_1894 : (Jvm.Cond.instanceMethod ({ cls := "BranchingStoryModel", name := "comesTo", desc := "(I)V" } : Jvm.MethodName)) ∈ lw_tbl := in_tb 1894 (by decide +kernel)
theorem wt_1895 : (Jvm.Cond.code ({ cls := "BranchingStoryModel", name := "comesTo", desc := "(I)V" } : Jvm.MethodName) prog_12_method_79_code (4 : Nat) (Option.none : Option Jvm.ClassFile.FieldType)) ∈ lw_tbl := in_tb 1895 (by decide +kernel)
theorem wt_1896 : (Jvm.Cond.methodLink "BranchingStoryModel" (426 : Nat) ({ cls := "BranchingStoryModel", name := "goesToHubs", desc := "(I)V" } : Jvm.MethodName)) ∈ lw_tbl := in_tb 1896 (by decide +kernel)
theorem wt_1898 : (Jvm.Cond.instanceMethod ({ cls := "BranchingStoryModel", name := "goesToHubs", desc := "(I)V" } : Jvm.MethodName)) ∈ lw_tbl := in_tb 1898 (by decide +kernel)
theorem wt_1899 : (Jvm.Cond.code ({ cls := "BranchingStoryModel", name := "goesToHubs", desc := "(I)V" } : Jvm.MethodName) prog_12_method_91_code (4 : Nat) (Option.none : Option Jvm.ClassFile.FieldType)) ∈ lw_tbl := in_tb 1899 (by decide +kernel)
theorem wt_1908 : (Jvm.Cond.methodLink "BranchingStoryModel" (444 : Nat) ({ cls := "BranchingStoryModel", name := "ofEntry", desc := "(IIII)I" } : Jvm.MethodName)) ∈ lw_tbl := in_tb 1908 (by decide +kernel)
theorem wt_1910 : (Jvm.Cond.instanceMethod ({ cls := "BranchingStoryModel", name := "ofEntry", desc := "(IIII)I" } : Jvm.MethodName)) ∈ lw_tbl := in_tb 1910 (by decide +kernel)
theorem wt_1911 : (Jvm.Cond.code ({ cls := "BranchingStoryModel", name := "ofEntry", desc := "(IIII)I" } : Jvm.MethodName) prog_12_method_97_code (5 : Nat) (Option.some Jvm.ClassFile.FieldType.int)) ∈ lw_tbl := in_tb 1911 (by decide +kernel)
theorem fl_X10_131 : FL RX10 131 9 63 := ⟨RX10, TX10, 74, rfl, by decide, inX10, Or.inl wt_1369⟩
theorem fl_X10_134 : FL RX10 134 9 64 := ⟨RX10, TX10, 74, rfl, by decide, inX10, Or.inl wt_1370⟩
theorem fl_X10_414 : FL RX10 414 9 73 := ⟨RX10, TX10, 74, rfl, by decide, inX10, Or.inl wt_1379⟩
theorem fl_X10_429 : FL RX10 429 9 72 := ⟨RX10, TX10, 74, rfl, by decide, inX10, Or.inl wt_1378⟩
theorem fp_X10_393 : FP RX10 393 9 67 .int := ⟨RX10, TX10, 74, tyX10, rfl, by decide, inX10, tyX10_ok, nmX10, rfl, by decide +kernel, Or.inl wt_1373⟩
theorem fp_X10_396 : FP RX10 396 9 68 .int := ⟨RX10, TX10, 74, tyX10, rfl, by decide, inX10, tyX10_ok, nmX10, rfl, by decide +kernel, Or.inl wt_1374⟩
theorem fp_X10_414 : FP RX10 414 9 73 .int := ⟨RX10, TX10, 74, tyX10, rfl, by decide, inX10, tyX10_ok, nmX10, rfl, by decide +kernel, Or.inl wt_1379⟩
theorem fp_X10_429 : FP RX10 429 9 72 .int := ⟨RX10, TX10, 74, tyX10, rfl, by decide, inX10, tyX10_ok, nmX10, rfl, by decide +kernel, Or.inl wt_1378⟩
theorem cs_X10_408 : CSw RX10 408 yX10_firstOf cX10_firstOf 1 (some .int) 1 := ⟨Or.inl wt_1847, wt_1848, wt_10, wt_1849, by decide, by decide, by decide +kernel⟩
theorem cs_X10_411 : CVw RX10 411 yX10_comesTo cX10_comesTo 4 none 1 := ⟨Or.inl wt_1892, wt_1894, in_sl (n := 74) 149 (by decide +kernel), wt_10, wt_1895, by decide, by decide, by decide +kernel⟩
theorem cs_X10_417 : CVw RX10 417 yX10_learnsMeter cX10_learnsMeter 5 none 1 := ⟨Or.inl wt_1860, wt_1862, in_sl (n := 74) 141 (by decide +kernel), wt_10, wt_1863, by decide, by decide, by decide +kernel⟩
theorem cs_X10_420 : CVw RX10 420 yX10_opensTest cX10_opensTest 3 none 1 := ⟨Or.inl wt_1864, wt_1866, in_sl (n := 74) 142 (by decide +kernel), wt_10, wt_1867, by decide, by decide, by decide +kernel⟩
theorem cs_X10_423 : CVw RX10 423 yX10_offers cX10_offers 3 none 1 := ⟨Or.inl wt_1888, wt_1890, in_sl (n := 74) 148 (by decide +kernel), wt_10, wt_1891, by decide, by decide, by decide +kernel⟩
theorem cs_X10_426 : CVw RX10 426 yX10_goesToHubs cX10_goesToHubs 4 none 1 := ⟨Or.inl wt_1896, wt_1898, in_sl (n := 74) 150 (by decide +kernel), wt_10, wt_1899, by decide, by decide, by decide +kernel⟩
theorem cs_X10_432 : CVw RX10 432 yX10_leavesTest cX10_leavesTest 3 none 0 := ⟨Or.inl wt_1843, wt_1845, in_sl (n := 74) 139 (by decide +kernel), wt_10, wt_1846, by decide, by decide, by decide +kernel⟩
theorem cs_X10_435 : CVw RX10 435 yX10_learns cX10_learns 3 none 1 := ⟨Or.inl wt_1856, wt_1858, in_sl (n := 74) 140 (by decide +kernel), wt_10, wt_1859, by decide, by decide, by decide +kernel⟩
theorem cs_X10_438 : CVw RX10 438 yX10_begins cX10_begins 2 none 0 := ⟨Or.inl wt_1832, wt_1834, in_sl (n := 74) 137 (by decide +kernel), wt_10, wt_1835, by decide, by decide, by decide +kernel⟩
theorem cs_X10_441 : CVw RX10 441 yX10_goesThrough cX10_goesThrough 5 none 2 := ⟨Or.inl wt_1836, wt_1838, in_sl (n := 74) 138 (by decide +kernel), wt_10, wt_1839, by decide, by decide, by decide +kernel⟩
theorem cs_X10_444 : CVw RX10 444 yX10_ofEntry cX10_ofEntry 5 (some .int) 4 := ⟨Or.inl wt_1908, wt_1910, in_sl (n := 74) 151 (by decide +kernel), wt_10, wt_1911, by decide, by decide, by decide +kernel⟩
/-! BranchingStoryModel.leavesTest()V -/
def f_X10_leavesTest_J253 (Q : St → Prop) (σ : St) (v2 : Int) : Prop :=
  ∀ σ1 : St, σ1 = sset σ 0 66 ((σ 0 66) - 1) → 0 ≤ v2 ∧ v2 < 401 ∧ ∀ σ2 : St, σ2 = sset σ1 0 49 (σ1 7 v2.toNat) → inR (σ2 37 0) ∧ ((¬ (σ2 37 0) = 1 → ∀ σ3 : St, σ3 = sset σ2 0 48 (-1) → Q σ3) ∧ ((σ2 37 0) = 1 → 0 ≤ v2 ∧ v2 < 401 ∧ ∀ σ4 : St, σ4 = sset σ2 0 48 (σ2 6 v2.toNat) → Q σ4))
def f_X10_leavesTest_J146 (Q : St → Prop) (σ : St) (v1 : Int) (v2 : Int) : Prop :=
  inR (σ 37 0) ∧ ((¬ (σ 37 0) = 0 → f_X10_firstOf v1 σ (fun σ1 r1 => 0 ≤ r1 ∧ r1 < 150 ∧ inR (σ1 37 r1.toNat) ∧ ((¬ (σ1 37 r1.toNat) = 1 → f_X10_leavesTest_J253 Q σ1 v2) ∧ ((σ1 37 r1.toNat) = 1 → f_X10_firstOf v1 σ1 (fun σ2 r2 => f_X10_joins 37 0 37 r2 σ2 (fun σ3 => 0 ≤ v1 ∧ v1 < 8 ∧ ∀ σ4 : St, σ4 = sset σ3 0 67 (ior32 (σ3 0 67) (σ3 41 v1.toNat)) → 0 ≤ v1 ∧ v1 < 8 ∧ ∀ σ5 : St, σ5 = sset σ4 0 68 (iand32 (σ4 0 68) (σ4 42 v1.toNat)) → f_X10_leavesTest_J253 Q σ5 v2)))))) ∧ ((σ 37 0) = 0 → f_X10_firstOf v1 σ (fun σ6 r3 => f_X10_copies 37 r3 37 0 σ6 (fun σ7 => 0 ≤ v1 ∧ v1 < 8 ∧ ∀ σ8 : St, σ8 = sset σ7 0 67 (σ7 41 v1.toNat) → 0 ≤ v1 ∧ v1 < 8 ∧ ∀ σ9 : St, σ9 = sset σ8 0 68 (σ8 42 v1.toNat) → f_X10_leavesTest_J253 Q σ9 v2))))
def f_X10_leavesTest (σ : St) (Q : St → Prop) : Prop :=
  ∀ x1 : Int, x1 = ((σ 0 66) - 1) → 0 ≤ x1 ∧ x1 < 8 ∧ ∀ x2 : Int, x2 = (σ 38 x1.toNat) → 0 ≤ x1 ∧ x1 < 8 ∧ inR (σ 43 x1.toNat) ∧ ((¬ (σ 43 x1.toNat) = 0 → f_X10_leavesTest_J146 Q σ x1 x2) ∧ ((σ 43 x1.toNat) = 0 → f_X10_firstOf x1 σ (fun σ1 r1 => f_X10_copies 37 0 37 r1 σ1 (fun σ2 => 0 ≤ x1 ∧ x1 < 8 ∧ ∀ σ3 : St, σ3 = sset σ2 41 x1.toNat (σ2 0 67) → 0 ≤ x1 ∧ x1 < 8 ∧ ∀ σ4 : St, σ4 = sset σ3 42 x1.toNat (σ3 0 68) → f_X10_falseOf x1 σ4 (fun σ5 r2 => f_X10_copies 37 r2 37 0 σ5 (fun σ6 => 0 ≤ x1 ∧ x1 < 8 ∧ ∀ σ7 : St, σ7 = sset σ6 0 67 (σ6 39 x1.toNat) → 0 ≤ x1 ∧ x1 < 8 ∧ ∀ σ8 : St, σ8 = sset σ7 0 68 (σ7 40 x1.toNat) → 0 ≤ x1 ∧ x1 < 8 ∧ ∀ σ9 : St, σ9 = sset σ8 43 x1.toNat 1 → 0 ≤ x2 ∧ x2 < 401 ∧ inR (σ9 9 x2.toNat) ∧ (((σ9 9 x2.toNat) = (-1) → f_X10_leavesTest_J146 Q σ9 x1 x2) ∧ (¬ (σ9 9 x2.toNat) = (-1) → inR (σ9 37 0) ∧ ((¬ (σ9 37 0) = 1 → f_X10_leavesTest_J146 Q σ9 x1 x2) ∧ ((σ9 37 0) = 1 → 0 ≤ x2 ∧ x2 < 401 ∧ ∀ σ10 : St, σ10 = sset σ9 0 49 (σ9 9 x2.toNat) → 0 ≤ (σ10 0 49) ∧ (σ10 0 49) < 64 ∧ ∀ σ11 : St, σ11 = sset σ10 0 48 (σ10 17 (σ10 0 49).toNat) → Q σ11))))))))))
set_option maxRecDepth 100000 in
set_option maxHeartbeats 4000000 in
theorem w_X10_leavesTest_J253 {X : Cx} {Y : Cy} {Q : St → Prop} (ok : Ok X Y KM cX10_leavesTest 3 RX10 (rm0q 2 48) none) (σ : St) (v2 : Int) (h : f_X10_leavesTest_J253 Q σ v2) : Wq X Y KM 3 (QF X Y (Qvq Y KM Q)) σ 253 [(0, .inr (.inr 0)), (2, .inl v2)] [] := by
  unfold f_X10_leavesTest_J253 at h
  refine q_aload_n ok dX10_leavesTest_253 0 rfl ?_
  refine q_dup ok dX10_leavesTest_254 rfl ?_
  refine q_getI ok fl_X10_390 kM_0 fM_0_66 dX10_leavesTest_255 ?_
  refine q_iconst ok dX10_leavesTest_258 ?_
  refine q_isub ok dX10_leavesTest_259 ?_
  refine q_putI ok fp_X10_390 kM_0 fM_0_66 dX10_leavesTest_260 (wq_s (fun σ1 eσ1 => ?_))
  have h := h σ1 eσ1
  refine q_aload_n ok dX10_leavesTest_263 0 rfl ?_
  refine q_aload_n ok dX10_leavesTest_264 0 rfl ?_
  refine q_getC ok fl_X10_28 kM_0 fM_0_10 dX10_leavesTest_265 ?_
  refine q_iload_n ok dX10_leavesTest_268 1 rfl ?_
  obtain ⟨g1, g2, h⟩ := h
  refine q_iald ok kM_ok kM_7 g1 g2 dX10_leavesTest_269 ?_
  refine q_putI ok fp_X10_289 kM_0 fM_0_49 dX10_leavesTest_270 (wq_s (fun σ2 eσ2 => ?_))
  have h := h σ2 eσ2
  refine q_aload_n ok dX10_leavesTest_273 0 rfl ?_
  refine q_aload_n ok dX10_leavesTest_274 0 rfl ?_
  refine q_getC ok fl_X10_119 kM_0 fM_0_59 dX10_leavesTest_275 ?_
  refine q_iconst ok dX10_leavesTest_278 ?_
  refine q_iald ok kM_ok kM_37 (by decide) (by decide) dX10_leavesTest_279 ?_
  refine q_iconst ok dX10_leavesTest_280 ?_
  obtain ⟨g3, hT1a, hT1b⟩ := h
  refine q_icmp_ne (tgt := 293) ok dX10_leavesTest_281 (by decide) g3 (by unfold inR; decide) (fun c1 => ?_) (fun c1 => ?_)
  · have h := hT1a c1
    refine q_iconst ok dX10_leavesTest_293 ?_
    refine q_putI ok fp_X10_292 kM_0 fM_0_48 dX10_leavesTest_294 (wq_s (fun σ3 eσ3 => ?_))
    have h := h σ3 eσ3
    exact q_vret ok dX10_leavesTest_297 h
  · have h := hT1b c1
    refine q_aload_n ok dX10_leavesTest_284 0 rfl ?_
    refine q_getC ok fl_X10_25 kM_0 fM_0_9 dX10_leavesTest_285 ?_
    refine q_iload_n ok dX10_leavesTest_288 1 rfl ?_
    obtain ⟨g4, g5, h⟩ := h
    refine q_iald ok kM_ok kM_6 g4 g5 dX10_leavesTest_289 ?_
    refine q_goto (tgt := 294) ok dX10_leavesTest_290 (by decide) ?_
    refine q_putI ok fp_X10_292 kM_0 fM_0_48 dX10_leavesTest_294 (wq_s (fun σ4 eσ4 => ?_))
    have h := h σ4 eσ4
    exact q_vret ok dX10_leavesTest_297 h
set_option maxRecDepth 100000 in
set_option maxHeartbeats 4000000 in
theorem w_X10_leavesTest_J146 {X : Cx} {Y : Cy} {Q : St → Prop} (ok : Ok X Y KM cX10_leavesTest 3 RX10 (rm0q 2 48) none) (σ : St) (v1 : Int) (v2 : Int) (h : f_X10_leavesTest_J146 Q σ v1 v2) : Wq X Y KM 3 (QF X Y (Qvq Y KM Q)) σ 146 [(0, .inr (.inr 0)), (1, .inl v1), (2, .inl v2)] [] := by
  unfold f_X10_leavesTest_J146 at h
  refine q_aload_n ok dX10_leavesTest_146 0 rfl ?_
  refine q_getC ok fl_X10_119 kM_0 fM_0_59 dX10_leavesTest_147 ?_
  refine q_iconst ok dX10_leavesTest_150 ?_
  refine q_iald ok kM_ok kM_37 (by decide) (by decide) dX10_leavesTest_151 ?_
  obtain ⟨g1, hT2a, hT2b⟩ := h
  refine q_if_ne (tgt := 194) ok dX10_leavesTest_152 (by decide) g1 (fun c2 => ?_) (fun c2 => ?_)
  · have h := hT2a c2
    refine q_aload_n ok dX10_leavesTest_194 0 rfl ?_
    refine q_getC ok fl_X10_119 kM_0 fM_0_59 dX10_leavesTest_195 ?_
    refine q_iload_n ok dX10_leavesTest_198 1 rfl ?_
    refine q_callSI (st := [.inr (.inr 37)]) ok cs_X10_408 (c_X10_firstOf X.2.1 Y ok.2.2.2.2.2.2.2.2 h) ⟨rfl, rfl, Nat.le_of_ble_eq_true rfl, Nat.le_of_ble_eq_true rfl⟩ rfl rfl (Nat.le_of_ble_eq_true rfl) dX10_leavesTest_199 (fun σ1 r1 h => ?_)
    obtain ⟨g2, g3, h⟩ := h
    refine q_iald ok kM_ok kM_37 g2 g3 dX10_leavesTest_202 ?_
    refine q_iconst ok dX10_leavesTest_203 ?_
    obtain ⟨g4, hT1a, hT1b⟩ := h
    refine q_icmp_ne (tgt := 253) ok dX10_leavesTest_204 (by decide) g4 (by unfold inR; decide) (fun c1 => ?_) (fun c1 => ?_)
    · have h := hT1a c1
      refine q_sub [0, 2] rfl ?_
      exact w_X10_leavesTest_J253 ok σ1 v2 h
    · have h := hT1b c1
      refine q_aload_n ok dX10_leavesTest_207 0 rfl ?_
      refine q_getC ok fl_X10_119 kM_0 fM_0_59 dX10_leavesTest_208 ?_
      refine q_iconst ok dX10_leavesTest_211 ?_
      refine q_aload_n ok dX10_leavesTest_212 0 rfl ?_
      refine q_getC ok fl_X10_119 kM_0 fM_0_59 dX10_leavesTest_213 ?_
      refine q_iload_n ok dX10_leavesTest_216 1 rfl ?_
      refine q_callSI (st := [.inr (.inr 37), .inl 0, .inr (.inr 37)]) ok cs_X10_408 (c_X10_firstOf X.2.1 Y ok.2.2.2.2.2.2.2.2 h) ⟨rfl, rfl, Nat.le_of_ble_eq_true rfl, Nat.le_of_ble_eq_true rfl⟩ rfl rfl (Nat.le_of_ble_eq_true rfl) dX10_leavesTest_217 (fun σ2 r2 h => ?_)
      refine q_callSV (st := []) ok cs_X10_375 (c_X10_joins X.2.1 Y ok.2.2.2.2.2.2.2.2 h) ⟨rfl, rfl, Nat.le_of_ble_eq_true rfl, Nat.le_of_ble_eq_true rfl⟩ rfl rfl (Nat.le_of_ble_eq_true rfl) dX10_leavesTest_220 (fun σ3 h => ?_)
      refine q_aload_n ok dX10_leavesTest_223 0 rfl ?_
      refine q_dup ok dX10_leavesTest_224 rfl ?_
      refine q_getI ok fl_X10_393 kM_0 fM_0_67 dX10_leavesTest_225 ?_
      refine q_aload_n ok dX10_leavesTest_228 0 rfl ?_
      refine q_getC ok fl_X10_131 kM_0 fM_0_63 dX10_leavesTest_229 ?_
      refine q_iload_n ok dX10_leavesTest_232 1 rfl ?_
      obtain ⟨g5, g6, h⟩ := h
      refine q_iald ok kM_ok kM_41 g5 g6 dX10_leavesTest_233 ?_
      refine q_ior ok dX10_leavesTest_234 ?_
      refine q_putI ok fp_X10_393 kM_0 fM_0_67 dX10_leavesTest_235 (wq_s (fun σ4 eσ4 => ?_))
      have h := h σ4 eσ4
      refine q_aload_n ok dX10_leavesTest_238 0 rfl ?_
      refine q_dup ok dX10_leavesTest_239 rfl ?_
      refine q_getI ok fl_X10_396 kM_0 fM_0_68 dX10_leavesTest_240 ?_
      refine q_aload_n ok dX10_leavesTest_243 0 rfl ?_
      refine q_getC ok fl_X10_134 kM_0 fM_0_64 dX10_leavesTest_244 ?_
      refine q_iload_n ok dX10_leavesTest_247 1 rfl ?_
      obtain ⟨g7, g8, h⟩ := h
      refine q_iald ok kM_ok kM_42 g7 g8 dX10_leavesTest_248 ?_
      refine q_iand ok dX10_leavesTest_249 ?_
      refine q_putI ok fp_X10_396 kM_0 fM_0_68 dX10_leavesTest_250 (wq_s (fun σ5 eσ5 => ?_))
      have h := h σ5 eσ5
      refine q_sub [0, 2] rfl ?_
      exact w_X10_leavesTest_J253 ok σ5 v2 h
  · have h := hT2b c2
    refine q_aload_n ok dX10_leavesTest_155 0 rfl ?_
    refine q_getC ok fl_X10_119 kM_0 fM_0_59 dX10_leavesTest_156 ?_
    refine q_iload_n ok dX10_leavesTest_159 1 rfl ?_
    refine q_callSI (st := [.inr (.inr 37)]) ok cs_X10_408 (c_X10_firstOf X.2.1 Y ok.2.2.2.2.2.2.2.2 h) ⟨rfl, rfl, Nat.le_of_ble_eq_true rfl, Nat.le_of_ble_eq_true rfl⟩ rfl rfl (Nat.le_of_ble_eq_true rfl) dX10_leavesTest_160 (fun σ6 r3 h => ?_)
    refine q_aload_n ok dX10_leavesTest_163 0 rfl ?_
    refine q_getC ok fl_X10_119 kM_0 fM_0_59 dX10_leavesTest_164 ?_
    refine q_iconst ok dX10_leavesTest_167 ?_
    refine q_callSV (st := []) ok cs_X10_371 (c_X10_copies X.2.1 Y ok.2.2.2.2.2.2.2.2 h) ⟨rfl, rfl, Nat.le_of_ble_eq_true rfl, Nat.le_of_ble_eq_true rfl⟩ rfl rfl (Nat.le_of_ble_eq_true rfl) dX10_leavesTest_168 (fun σ7 h => ?_)
    refine q_aload_n ok dX10_leavesTest_171 0 rfl ?_
    refine q_aload_n ok dX10_leavesTest_172 0 rfl ?_
    refine q_getC ok fl_X10_131 kM_0 fM_0_63 dX10_leavesTest_173 ?_
    refine q_iload_n ok dX10_leavesTest_176 1 rfl ?_
    obtain ⟨g9, g10, h⟩ := h
    refine q_iald ok kM_ok kM_41 g9 g10 dX10_leavesTest_177 ?_
    refine q_putI ok fp_X10_393 kM_0 fM_0_67 dX10_leavesTest_178 (wq_s (fun σ8 eσ8 => ?_))
    have h := h σ8 eσ8
    refine q_aload_n ok dX10_leavesTest_181 0 rfl ?_
    refine q_aload_n ok dX10_leavesTest_182 0 rfl ?_
    refine q_getC ok fl_X10_134 kM_0 fM_0_64 dX10_leavesTest_183 ?_
    refine q_iload_n ok dX10_leavesTest_186 1 rfl ?_
    obtain ⟨g11, g12, h⟩ := h
    refine q_iald ok kM_ok kM_42 g11 g12 dX10_leavesTest_187 ?_
    refine q_putI ok fp_X10_396 kM_0 fM_0_68 dX10_leavesTest_188 (wq_s (fun σ9 eσ9 => ?_))
    have h := h σ9 eσ9
    refine q_goto (tgt := 253) ok dX10_leavesTest_191 (by decide) ?_
    refine q_sub [0, 2] rfl ?_
    exact w_X10_leavesTest_J253 ok σ9 v2 h
set_option maxRecDepth 100000 in
set_option maxHeartbeats 4000000 in
theorem c_X10_leavesTest (l : Launch) (Y : Cy) (hD : ∀ σ, va_D Y.2.2.2 (wsOf KM Y.2.1 Y.2.2.1 σ)) {σ : St} {Q : St → Prop} (h : f_X10_leavesTest  σ Q) : ConV l yX10_leavesTest cX10_leavesTest 3 (rm0q 2 48) Y KM σ [.inr (.inr 0)] Q := con_of (lv := [(0, .inr (.inr 0))]) (by decide) hD (Nat.le_of_ble_eq_true rfl) rfl (fun X _ ok => by
  have ok : Ok X Y KM cX10_leavesTest 3 RX10 (rm0q 2 48) none := ok
  unfold f_X10_leavesTest at h
  refine q_aload_n ok dX10_leavesTest_0 0 rfl ?_
  refine q_getI ok fl_X10_390 kM_0 fM_0_66 dX10_leavesTest_1 ?_
  refine q_iconst ok dX10_leavesTest_4 ?_
  refine q_isub ok dX10_leavesTest_5 ?_
  refine wq_i (fun x1 ex1 => ?_)
  have h := h x1 ex1
  refine q_istore_n (lv' := [(1, .inl x1), (0, .inr (.inr 0))]) ok dX10_leavesTest_6 (by decide) rfl ?_
  refine q_aload_n ok dX10_leavesTest_7 1 rfl ?_
  refine q_getC ok fl_X10_122 kM_0 fM_0_60 dX10_leavesTest_8 ?_
  refine q_iload_n ok dX10_leavesTest_11 0 rfl ?_
  obtain ⟨g1, g2, h⟩ := h
  refine q_iald ok kM_ok kM_38 g1 g2 dX10_leavesTest_12 ?_
  refine wq_i (fun x2 ex2 => ?_)
  have h := h x2 ex2
  refine q_istore_n (lv' := [(2, .inl x2), (1, .inl x1), (0, .inr (.inr 0))]) ok dX10_leavesTest_13 (by decide) rfl ?_
  refine q_aload_n ok dX10_leavesTest_14 2 rfl ?_
  refine q_getC ok fl_X10_137 kM_0 fM_0_65 dX10_leavesTest_15 ?_
  refine q_iload_n ok dX10_leavesTest_18 1 rfl ?_
  obtain ⟨g3, g4, h⟩ := h
  refine q_zald ok kM_ok kM_43 g3 g4 dX10_leavesTest_19 ?_
  obtain ⟨g5, hT3a, hT3b⟩ := h
  refine q_if_ne (tgt := 146) ok dX10_leavesTest_20 (by decide) g5 (fun c3 => ?_) (fun c3 => ?_)
  · have h := hT3a c3
    refine q_sub [2, 1, 0] rfl ?_
    exact w_X10_leavesTest_J146 ok σ x1 x2 h
  · have h := hT3b c3
    refine q_aload_n ok dX10_leavesTest_23 2 rfl ?_
    refine q_getC ok fl_X10_119 kM_0 fM_0_59 dX10_leavesTest_24 ?_
    refine q_iconst ok dX10_leavesTest_27 ?_
    refine q_aload_n ok dX10_leavesTest_28 2 rfl ?_
    refine q_getC ok fl_X10_119 kM_0 fM_0_59 dX10_leavesTest_29 ?_
    refine q_iload_n ok dX10_leavesTest_32 1 rfl ?_
    refine q_callSI (st := [.inr (.inr 37), .inl 0, .inr (.inr 37)]) ok cs_X10_408 (c_X10_firstOf X.2.1 Y ok.2.2.2.2.2.2.2.2 h) ⟨rfl, rfl, Nat.le_of_ble_eq_true rfl, Nat.le_of_ble_eq_true rfl⟩ rfl rfl (Nat.le_of_ble_eq_true rfl) dX10_leavesTest_33 (fun σ1 r1 h => ?_)
    refine q_callSV (st := []) ok cs_X10_371 (c_X10_copies X.2.1 Y ok.2.2.2.2.2.2.2.2 h) ⟨rfl, rfl, Nat.le_of_ble_eq_true rfl, Nat.le_of_ble_eq_true rfl⟩ rfl rfl (Nat.le_of_ble_eq_true rfl) dX10_leavesTest_36 (fun σ2 h => ?_)
    refine q_aload_n ok dX10_leavesTest_39 2 rfl ?_
    refine q_getC ok fl_X10_131 kM_0 fM_0_63 dX10_leavesTest_40 ?_
    refine q_iload_n ok dX10_leavesTest_43 1 rfl ?_
    refine q_aload_n ok dX10_leavesTest_44 2 rfl ?_
    refine q_getI ok fl_X10_393 kM_0 fM_0_67 dX10_leavesTest_45 ?_
    obtain ⟨g6, g7, h⟩ := h
    refine q_iast ok kM_ok kM_41 g6 g7 dX10_leavesTest_48 (wq_s (fun σ3 eσ3 => ?_))
    have h := h σ3 eσ3
    refine q_aload_n ok dX10_leavesTest_49 2 rfl ?_
    refine q_getC ok fl_X10_134 kM_0 fM_0_64 dX10_leavesTest_50 ?_
    refine q_iload_n ok dX10_leavesTest_53 1 rfl ?_
    refine q_aload_n ok dX10_leavesTest_54 2 rfl ?_
    refine q_getI ok fl_X10_396 kM_0 fM_0_68 dX10_leavesTest_55 ?_
    obtain ⟨g8, g9, h⟩ := h
    refine q_iast ok kM_ok kM_42 g8 g9 dX10_leavesTest_58 (wq_s (fun σ4 eσ4 => ?_))
    have h := h σ4 eσ4
    refine q_aload_n ok dX10_leavesTest_59 2 rfl ?_
    refine q_getC ok fl_X10_119 kM_0 fM_0_59 dX10_leavesTest_60 ?_
    refine q_iload_n ok dX10_leavesTest_63 1 rfl ?_
    refine q_callSI (st := [.inr (.inr 37)]) ok cs_X10_399 (c_X10_falseOf X.2.1 Y ok.2.2.2.2.2.2.2.2 h) ⟨rfl, rfl, Nat.le_of_ble_eq_true rfl, Nat.le_of_ble_eq_true rfl⟩ rfl rfl (Nat.le_of_ble_eq_true rfl) dX10_leavesTest_64 (fun σ5 r2 h => ?_)
    refine q_aload_n ok dX10_leavesTest_67 2 rfl ?_
    refine q_getC ok fl_X10_119 kM_0 fM_0_59 dX10_leavesTest_68 ?_
    refine q_iconst ok dX10_leavesTest_71 ?_
    refine q_callSV (st := []) ok cs_X10_371 (c_X10_copies X.2.1 Y ok.2.2.2.2.2.2.2.2 h) ⟨rfl, rfl, Nat.le_of_ble_eq_true rfl, Nat.le_of_ble_eq_true rfl⟩ rfl rfl (Nat.le_of_ble_eq_true rfl) dX10_leavesTest_72 (fun σ6 h => ?_)
    refine q_aload_n ok dX10_leavesTest_75 2 rfl ?_
    refine q_aload_n ok dX10_leavesTest_76 2 rfl ?_
    refine q_getC ok fl_X10_125 kM_0 fM_0_61 dX10_leavesTest_77 ?_
    refine q_iload_n ok dX10_leavesTest_80 1 rfl ?_
    obtain ⟨g10, g11, h⟩ := h
    refine q_iald ok kM_ok kM_39 g10 g11 dX10_leavesTest_81 ?_
    refine q_putI ok fp_X10_393 kM_0 fM_0_67 dX10_leavesTest_82 (wq_s (fun σ7 eσ7 => ?_))
    have h := h σ7 eσ7
    refine q_aload_n ok dX10_leavesTest_85 2 rfl ?_
    refine q_aload_n ok dX10_leavesTest_86 2 rfl ?_
    refine q_getC ok fl_X10_128 kM_0 fM_0_62 dX10_leavesTest_87 ?_
    refine q_iload_n ok dX10_leavesTest_90 1 rfl ?_
    obtain ⟨g12, g13, h⟩ := h
    refine q_iald ok kM_ok kM_40 g12 g13 dX10_leavesTest_91 ?_
    refine q_putI ok fp_X10_396 kM_0 fM_0_68 dX10_leavesTest_92 (wq_s (fun σ8 eσ8 => ?_))
    have h := h σ8 eσ8
    refine q_aload_n ok dX10_leavesTest_95 2 rfl ?_
    refine q_getC ok fl_X10_137 kM_0 fM_0_65 dX10_leavesTest_96 ?_
    refine q_iload_n ok dX10_leavesTest_99 1 rfl ?_
    refine q_iconst ok dX10_leavesTest_100 ?_
    obtain ⟨g14, g15, h⟩ := h
    refine q_zast ok kM_ok kM_43 g14 g15 (by decide) dX10_leavesTest_101 (wq_s (fun σ9 eσ9 => ?_))
    have h := h σ9 eσ9
    refine q_aload_n ok dX10_leavesTest_102 2 rfl ?_
    refine q_getC ok fl_X10_34 kM_0 fM_0_12 dX10_leavesTest_103 ?_
    refine q_iload_n ok dX10_leavesTest_106 0 rfl ?_
    obtain ⟨g16, g17, h⟩ := h
    refine q_iald ok kM_ok kM_9 g16 g17 dX10_leavesTest_107 ?_
    refine q_iconst ok dX10_leavesTest_108 ?_
    obtain ⟨g18, hT2a, hT2b⟩ := h
    refine q_icmp_eq (tgt := 146) ok dX10_leavesTest_109 (by decide) g18 (by unfold inR; decide) (fun c2 => ?_) (fun c2 => ?_)
    · have h := hT2a c2
      refine q_sub [2, 1, 0] rfl ?_
      exact w_X10_leavesTest_J146 ok σ9 x1 x2 h
    · have h := hT2b c2
      refine q_aload_n ok dX10_leavesTest_112 2 rfl ?_
      refine q_getC ok fl_X10_119 kM_0 fM_0_59 dX10_leavesTest_113 ?_
      refine q_iconst ok dX10_leavesTest_116 ?_
      refine q_iald ok kM_ok kM_37 (by decide) (by decide) dX10_leavesTest_117 ?_
      refine q_iconst ok dX10_leavesTest_118 ?_
      obtain ⟨g19, hT1a, hT1b⟩ := h
      refine q_icmp_ne (tgt := 146) ok dX10_leavesTest_119 (by decide) g19 (by unfold inR; decide) (fun c1 => ?_) (fun c1 => ?_)
      · have h := hT1a c1
        refine q_sub [2, 1, 0] rfl ?_
        exact w_X10_leavesTest_J146 ok σ9 x1 x2 h
      · have h := hT1b c1
        refine q_aload_n ok dX10_leavesTest_122 2 rfl ?_
        refine q_aload_n ok dX10_leavesTest_123 2 rfl ?_
        refine q_getC ok fl_X10_34 kM_0 fM_0_12 dX10_leavesTest_124 ?_
        refine q_iload_n ok dX10_leavesTest_127 0 rfl ?_
        obtain ⟨g20, g21, h⟩ := h
        refine q_iald ok kM_ok kM_9 g20 g21 dX10_leavesTest_128 ?_
        refine q_putI ok fp_X10_289 kM_0 fM_0_49 dX10_leavesTest_129 (wq_s (fun σ10 eσ10 => ?_))
        have h := h σ10 eσ10
        refine q_aload_n ok dX10_leavesTest_132 2 rfl ?_
        refine q_aload_n ok dX10_leavesTest_133 2 rfl ?_
        refine q_getC ok fl_X10_58 kM_0 fM_0_22 dX10_leavesTest_134 ?_
        refine q_aload_n ok dX10_leavesTest_137 2 rfl ?_
        refine q_getI ok fl_X10_289 kM_0 fM_0_49 dX10_leavesTest_138 ?_
        obtain ⟨g22, g23, h⟩ := h
        refine q_iald ok kM_ok kM_17 g22 g23 dX10_leavesTest_141 ?_
        refine q_putI ok fp_X10_292 kM_0 fM_0_48 dX10_leavesTest_142 (wq_s (fun σ11 eσ11 => ?_))
        have h := h σ11 eσ11
        exact q_vret ok dX10_leavesTest_145 h)
/-! BranchingStoryModel.offers(I)V -/
def f_X10_offers_J99 (Q : St → Prop) (σ : St) (v1 : Int) : Prop :=
  0 ≤ v1 ∧ v1 < 401 ∧ ∀ σ1 : St, σ1 = sset σ 0 68 (ior32 (σ 0 68) (ishl32 1 (σ 4 v1.toNat))) → Q σ1
def f_X10_offers_J20 (Q : St → Prop) (σ : St) (v1 : Int) (s0 : Int) : Prop :=
  f_X10_truePart v1 132 σ (fun σ1 => inR (σ1 37 132) ∧ ((¬ (σ1 37 132) = 0 → 0 ≤ v1 ∧ v1 < 401 ∧ ∀ σ2 : St, σ2 = sset σ1 0 67 (ior32 (σ1 0 67) (ishl32 1 (σ1 4 v1.toNat))) → f_X10_falsePart v1 132 σ2 (fun σ3 => 0 ≤ v1 ∧ v1 < 401 ∧ f_X10_nodeOfChoice (σ3 4 v1.toNat) σ3 (fun σ4 r1 => 0 ≤ r1 ∧ r1 < 12 ∧ inR (σ4 21 r1.toNat) ∧ ((¬ (σ4 21 r1.toNat) = 0 → Q σ4) ∧ ((σ4 21 r1.toNat) = 0 → inR s0 ∧ ((s0 = 0 → f_X10_offers_J99 Q σ4 v1) ∧ (¬ s0 = 0 → inR (σ4 37 132) ∧ ((¬ (σ4 37 132) = 0 → Q σ4) ∧ ((σ4 37 132) = 0 → f_X10_offers_J99 Q σ4 v1))))))))) ∧ ((σ1 37 132) = 0 → Q σ1)))
def f_X10_offers (a0 : Int) (σ : St) (Q : St → Prop) : Prop :=
  0 ≤ a0 ∧ a0 < 401 ∧ 0 ≤ a0 ∧ a0 < 401 ∧ inR (σ 11 a0.toNat) ∧ inR (σ 10 a0.toNat) ∧ (((σ 11 a0.toNat) ≤ (σ 10 a0.toNat) → f_X10_offers_J20 Q σ a0 0) ∧ (¬ (σ 11 a0.toNat) ≤ (σ 10 a0.toNat) → f_X10_offers_J20 Q σ a0 1))
set_option maxRecDepth 100000 in
set_option maxHeartbeats 4000000 in
theorem w_X10_offers_J99 {X : Cx} {Y : Cy} {Q : St → Prop} (ok : Ok X Y KM cX10_offers 3 RX10 (rm0q 3 72) none) (σ : St) (v1 : Int) (h : f_X10_offers_J99 Q σ v1) : Wq X Y KM 3 (QF X Y (Qvq Y KM Q)) σ 99 [(0, .inr (.inr 0)), (1, .inl v1)] [] := by
  unfold f_X10_offers_J99 at h
  refine q_aload_n ok dX10_offers_99 0 rfl ?_
  refine q_dup ok dX10_offers_100 rfl ?_
  refine q_getI ok fl_X10_396 kM_0 fM_0_68 dX10_offers_101 ?_
  refine q_iconst ok dX10_offers_104 ?_
  refine q_aload_n ok dX10_offers_105 0 rfl ?_
  refine q_getC ok fl_X10_19 kM_0 fM_0_7 dX10_offers_106 ?_
  refine q_iload_n ok dX10_offers_109 1 rfl ?_
  obtain ⟨g1, g2, h⟩ := h
  refine q_iald ok kM_ok kM_4 g1 g2 dX10_offers_110 ?_
  refine q_ishl ok dX10_offers_111 ?_
  refine q_ior ok dX10_offers_112 ?_
  refine q_putI ok fp_X10_396 kM_0 fM_0_68 dX10_offers_113 (wq_s (fun σ1 eσ1 => ?_))
  have h := h σ1 eσ1
  exact q_vret ok dX10_offers_116 h
set_option maxRecDepth 100000 in
set_option maxHeartbeats 4000000 in
theorem w_X10_offers_J20 {X : Cx} {Y : Cy} {Q : St → Prop} (ok : Ok X Y KM cX10_offers 3 RX10 (rm0q 3 72) none) (σ : St) (v1 : Int) (s0 : Int) (h : f_X10_offers_J20 Q σ v1 s0) : Wq X Y KM 3 (QF X Y (Qvq Y KM Q)) σ 20 [(0, .inr (.inr 0)), (1, .inl v1)] [.inl s0] := by
  unfold f_X10_offers_J20 at h
  refine q_istore_n (lv' := [(2, .inl s0), (0, .inr (.inr 0)), (1, .inl v1)]) ok dX10_offers_20 (by decide) rfl ?_
  refine q_aload_n ok dX10_offers_21 1 rfl ?_
  refine q_iload_n ok dX10_offers_22 2 rfl ?_
  refine q_sipush ok dX10_offers_23 rfl ?_
  refine q_callVV (st := []) ok cs_X10_405 kM_0 rfl (c_X10_truePart X.2.1 Y ok.2.2.2.2.2.2.2.2 h) ⟨rfl, rfl, Nat.le_of_ble_eq_true rfl, Nat.le_of_ble_eq_true rfl⟩ rfl rfl (Nat.le_of_ble_eq_true rfl) dX10_offers_26 (fun σ1 h => ?_)
  refine q_aload_n ok dX10_offers_29 1 rfl ?_
  refine q_getC ok fl_X10_119 kM_0 fM_0_59 dX10_offers_30 ?_
  refine q_sipush ok dX10_offers_33 rfl ?_
  refine q_iald ok kM_ok kM_37 (by decide) (by decide) dX10_offers_36 ?_
  obtain ⟨g1, hT4a, hT4b⟩ := h
  refine q_if_ne (tgt := 41) ok dX10_offers_37 (by decide) g1 (fun c4 => ?_) (fun c4 => ?_)
  · have h := hT4a c4
    refine q_aload_n ok dX10_offers_41 1 rfl ?_
    refine q_dup ok dX10_offers_42 rfl ?_
    refine q_getI ok fl_X10_393 kM_0 fM_0_67 dX10_offers_43 ?_
    refine q_iconst ok dX10_offers_46 ?_
    refine q_aload_n ok dX10_offers_47 1 rfl ?_
    refine q_getC ok fl_X10_19 kM_0 fM_0_7 dX10_offers_48 ?_
    refine q_iload_n ok dX10_offers_51 2 rfl ?_
    obtain ⟨g2, g3, h⟩ := h
    refine q_iald ok kM_ok kM_4 g2 g3 dX10_offers_52 ?_
    refine q_ishl ok dX10_offers_53 ?_
    refine q_ior ok dX10_offers_54 ?_
    refine q_putI ok fp_X10_393 kM_0 fM_0_67 dX10_offers_55 (wq_s (fun σ2 eσ2 => ?_))
    have h := h σ2 eσ2
    refine q_aload_n ok dX10_offers_58 1 rfl ?_
    refine q_iload_n ok dX10_offers_59 2 rfl ?_
    refine q_sipush ok dX10_offers_60 rfl ?_
    refine q_callVV (st := []) ok cs_X10_402 kM_0 rfl (c_X10_falsePart X.2.1 Y ok.2.2.2.2.2.2.2.2 h) ⟨rfl, rfl, Nat.le_of_ble_eq_true rfl, Nat.le_of_ble_eq_true rfl⟩ rfl rfl (Nat.le_of_ble_eq_true rfl) dX10_offers_63 (fun σ3 h => ?_)
    refine q_aload_n ok dX10_offers_66 1 rfl ?_
    refine q_getC ok fl_X10_70 kM_0 fM_0_27 dX10_offers_67 ?_
    refine q_aload_n ok dX10_offers_70 1 rfl ?_
    refine q_aload_n ok dX10_offers_71 1 rfl ?_
    refine q_getC ok fl_X10_19 kM_0 fM_0_7 dX10_offers_72 ?_
    refine q_iload_n ok dX10_offers_75 2 rfl ?_
    obtain ⟨g4, g5, h⟩ := h
    refine q_iald ok kM_ok kM_4 g4 g5 dX10_offers_76 ?_
    refine q_callVI (st := [.inr (.inr 21)]) ok cs_X10_283 kM_0 rfl (c_X10_nodeOfChoice X.2.1 Y ok.2.2.2.2.2.2.2.2 h) ⟨rfl, rfl, Nat.le_of_ble_eq_true rfl, Nat.le_of_ble_eq_true rfl⟩ rfl rfl (Nat.le_of_ble_eq_true rfl) dX10_offers_77 (fun σ4 r1 h => ?_)
    obtain ⟨g6, g7, h⟩ := h
    refine q_zald ok kM_ok kM_21 g6 g7 dX10_offers_80 ?_
    obtain ⟨g8, hT3a, hT3b⟩ := h
    refine q_if_ne (tgt := 116) ok dX10_offers_81 (by decide) g8 (fun c3 => ?_) (fun c3 => ?_)
    · have h := hT3a c3
      exact q_vret ok dX10_offers_116 h
    · have h := hT3b c3
      refine q_iload_n ok dX10_offers_84 0 rfl ?_
      obtain ⟨g9, hT2a, hT2b⟩ := h
      refine q_if_eq (tgt := 99) ok dX10_offers_85 (by decide) g9 (fun c2 => ?_) (fun c2 => ?_)
      · have h := hT2a c2
        refine q_sub [1, 2] rfl ?_
        exact w_X10_offers_J99 ok σ4 v1 h
      · have h := hT2b c2
        refine q_aload_n ok dX10_offers_88 1 rfl ?_
        refine q_getC ok fl_X10_119 kM_0 fM_0_59 dX10_offers_89 ?_
        refine q_sipush ok dX10_offers_92 rfl ?_
        refine q_iald ok kM_ok kM_37 (by decide) (by decide) dX10_offers_95 ?_
        obtain ⟨g10, hT1a, hT1b⟩ := h
        refine q_if_ne (tgt := 116) ok dX10_offers_96 (by decide) g10 (fun c1 => ?_) (fun c1 => ?_)
        · have h := hT1a c1
          exact q_vret ok dX10_offers_116 h
        · have h := hT1b c1
          refine q_sub [1, 2] rfl ?_
          exact w_X10_offers_J99 ok σ4 v1 h
  · have h := hT4b c4
    exact q_vret ok dX10_offers_40 h
set_option maxRecDepth 100000 in
set_option maxHeartbeats 4000000 in
theorem c_X10_offers (l : Launch) (Y : Cy) (hD : ∀ σ, va_D Y.2.2.2 (wsOf KM Y.2.1 Y.2.2.1 σ)) {a0 : Int} {σ : St} {Q : St → Prop} (h : f_X10_offers a0 σ Q) : ConV l yX10_offers cX10_offers 3 (rm0q 3 72) Y KM σ [.inr (.inr 0), .inl a0] Q := con_of (lv := [(0, .inr (.inr 0)), (1, .inl a0)]) (by decide) hD (Nat.le_of_ble_eq_true rfl) rfl (fun X _ ok => by
  have ok : Ok X Y KM cX10_offers 3 RX10 (rm0q 3 72) none := ok
  unfold f_X10_offers at h
  refine q_aload_n ok dX10_offers_0 0 rfl ?_
  refine q_getC ok fl_X10_40 kM_0 fM_0_14 dX10_offers_1 ?_
  refine q_iload_n ok dX10_offers_4 1 rfl ?_
  obtain ⟨g1, g2, h⟩ := h
  refine q_iald ok kM_ok kM_11 g1 g2 dX10_offers_5 ?_
  refine q_aload_n ok dX10_offers_6 0 rfl ?_
  refine q_getC ok fl_X10_37 kM_0 fM_0_13 dX10_offers_7 ?_
  refine q_iload_n ok dX10_offers_10 1 rfl ?_
  obtain ⟨g3, g4, h⟩ := h
  refine q_iald ok kM_ok kM_10 g3 g4 dX10_offers_11 ?_
  obtain ⟨g5, g6, hT1a, hT1b⟩ := h
  refine q_icmp_le (tgt := 19) ok dX10_offers_12 (by decide) g5 g6 (fun c1 => ?_) (fun c1 => ?_)
  · have h := hT1a c1
    refine q_iconst ok dX10_offers_19 ?_
    exact w_X10_offers_J20 ok σ a0 0 h
  · have h := hT1b c1
    refine q_iconst ok dX10_offers_15 ?_
    refine q_goto (tgt := 20) ok dX10_offers_16 (by decide) ?_
    exact w_X10_offers_J20 ok σ a0 1 h)
/-! BranchingStoryModel.learnsMeter(I)V -/
def f_X10_learnsMeter_J84 (k2 : St → Int → Int → Prop) (Q : St → Prop) (σ : St) (v1 : Int) (v2 : Int) (v3 : Int) (s0 : Int) : Prop :=
  inR s0 ∧ ((s0 ≤ 9 → inR s0 ∧ ((0 ≤ s0 → 0 ≤ v3 ∧ v3 < 150 ∧ ∀ σ1 : St, σ1 = sset σ 37 v3.toNat s0 → k2 σ1 v1 (v2 + 1)) ∧ (¬ 0 ≤ s0 → 0 ≤ v3 ∧ v3 < 150 ∧ ∀ σ2 : St, σ2 = sset σ 37 v3.toNat 0 → k2 σ2 v1 (v2 + 1)))) ∧ (¬ s0 ≤ 9 → 0 ≤ v3 ∧ v3 < 150 ∧ ∀ σ3 : St, σ3 = sset σ 37 v3.toNat 9 → k2 σ3 v1 (v2 + 1)))
def f_X10_learnsMeter_J16 (k2 : St → Int → Int → Prop) (Q : St → Prop) (σ : St) (v1 : Int) (v2 : Int) (s0 : Int) : Prop :=
  0 ≤ v1 ∧ v1 < 401 ∧ ∀ x1 : Int, x1 = (s0 + (σ 4 v1.toNat)) → 0 ≤ v1 ∧ v1 < 401 ∧ inR (σ 8 v1.toNat) ∧ ((¬ (σ 8 v1.toNat) = 61 → 0 ≤ v1 ∧ v1 < 401 ∧ inR (σ 8 v1.toNat) ∧ ((¬ (σ 8 v1.toNat) = 43 → 0 ≤ x1 ∧ x1 < 150 ∧ 0 ≤ v1 ∧ v1 < 401 ∧ f_X10_learnsMeter_J84 k2 Q σ v1 v2 x1 ((σ 37 x1.toNat) - (σ 5 v1.toNat))) ∧ ((σ 8 v1.toNat) = 43 → 0 ≤ x1 ∧ x1 < 150 ∧ 0 ≤ v1 ∧ v1 < 401 ∧ f_X10_learnsMeter_J84 k2 Q σ v1 v2 x1 ((σ 37 x1.toNat) + (σ 5 v1.toNat))))) ∧ ((σ 8 v1.toNat) = 61 → 0 ≤ v1 ∧ v1 < 401 ∧ f_X10_learnsMeter_J84 k2 Q σ v1 v2 x1 (σ 5 v1.toNat)))
def f_X10_learnsMeter_L2 (Q : St → Prop) : Nat → St → Int → Int → Prop
  | 0, _, _, _ => False
  | n + 1, σ, v1, v2 => inR v2 ∧ ((2 ≤ v2 → Q σ) ∧ (¬ 2 ≤ v2 → inR v2 ∧ ((¬ v2 = 0 → f_X10_learnsMeter_J16 (fun σ' v1' v2' => f_X10_learnsMeter_L2 Q n σ' v1' v2') Q σ v1 v2 4) ∧ (v2 = 0 → f_X10_learnsMeter_J16 (fun σ' v1' v2' => f_X10_learnsMeter_L2 Q n σ' v1' v2') Q σ v1 v2 1))))
def f_X10_learnsMeter (a0 : Int) (σ : St) (Q : St → Prop) : Prop :=
  f_X10_learnsMeter_L2 Q FU σ a0 0
set_option maxRecDepth 100000 in
set_option maxHeartbeats 4000000 in
theorem w_X10_learnsMeter_J84 {X : Cx} {Y : Cy} {k2 : St → Int → Int → Prop} {Q : St → Prop} (ok : Ok X Y KM cX10_learnsMeter 5 RX10 (rm0q 0 0) none) (hk2 : ∀ (σ : St) (v1 : Int) (v2 : Int) , k2 σ v1 v2 → Wq X Y KM 5 (QF X Y (Qvq Y KM Q)) σ 2 [(0, .inr (.inr 0)), (1, .inl v1), (2, .inl v2)] []) (σ : St) (v1 : Int) (v2 : Int) (v3 : Int) (s0 : Int) (h : f_X10_learnsMeter_J84 k2 Q σ v1 v2 v3 s0) : Wq X Y KM 5 (QF X Y (Qvq Y KM Q)) σ 84 [(0, .inr (.inr 0)), (1, .inl v1), (2, .inl v2), (3, .inl v3)] [.inl s0] := by
  unfold f_X10_learnsMeter_J84 at h
  refine q_istore (lv' := [(4, .inl s0), (0, .inr (.inr 0)), (1, .inl v1), (2, .inl v2), (3, .inl v3)]) ok dX10_learnsMeter_84 (by decide) rfl ?_
  refine q_aload_n ok dX10_learnsMeter_86 1 rfl ?_
  refine q_getC ok fl_X10_119 kM_0 fM_0_59 dX10_learnsMeter_87 ?_
  refine q_iload_n ok dX10_learnsMeter_90 4 rfl ?_
  refine q_iload ok dX10_learnsMeter_91 0 rfl ?_
  refine q_bipush ok dX10_learnsMeter_93 rfl ?_
  obtain ⟨g1, hT2a, hT2b⟩ := h
  refine q_icmp_le (tgt := 103) ok dX10_learnsMeter_95 (by decide) g1 (by unfold inR; decide) (fun c2 => ?_) (fun c2 => ?_)
  · have h := hT2a c2
    refine q_iload ok dX10_learnsMeter_103 0 rfl ?_
    obtain ⟨g2, hT1a, hT1b⟩ := h
    refine q_if_ge (tgt := 112) ok dX10_learnsMeter_105 (by decide) g2 (fun c1 => ?_) (fun c1 => ?_)
    · have h := hT1a c1
      refine q_iload ok dX10_learnsMeter_112 0 rfl ?_
      obtain ⟨g3, g4, h⟩ := h
      refine q_iast ok kM_ok kM_37 g3 g4 dX10_learnsMeter_114 (wq_s (fun σ1 eσ1 => ?_))
      have h := h σ1 eσ1
      refine q_iinc (lv' := [(2, .inl (v2 + 1)), (4, .inl s0), (0, .inr (.inr 0)), (1, .inl v1), (3, .inl v3)]) ok dX10_learnsMeter_115 3 rfl (by decide) rfl ?_
      refine q_goto (tgt := 2) ok dX10_learnsMeter_118 (by decide) ?_
      refine q_sub [2, 3, 0] rfl ?_
      exact hk2 σ1 v1 (v2 + 1) h
    · have h := hT1b c1
      refine q_iconst ok dX10_learnsMeter_108 ?_
      refine q_goto (tgt := 114) ok dX10_learnsMeter_109 (by decide) ?_
      obtain ⟨g5, g6, h⟩ := h
      refine q_iast ok kM_ok kM_37 g5 g6 dX10_learnsMeter_114 (wq_s (fun σ2 eσ2 => ?_))
      have h := h σ2 eσ2
      refine q_iinc (lv' := [(2, .inl (v2 + 1)), (4, .inl s0), (0, .inr (.inr 0)), (1, .inl v1), (3, .inl v3)]) ok dX10_learnsMeter_115 3 rfl (by decide) rfl ?_
      refine q_goto (tgt := 2) ok dX10_learnsMeter_118 (by decide) ?_
      refine q_sub [2, 3, 0] rfl ?_
      exact hk2 σ2 v1 (v2 + 1) h
  · have h := hT2b c2
    refine q_bipush ok dX10_learnsMeter_98 rfl ?_
    refine q_goto (tgt := 114) ok dX10_learnsMeter_100 (by decide) ?_
    obtain ⟨g7, g8, h⟩ := h
    refine q_iast ok kM_ok kM_37 g7 g8 dX10_learnsMeter_114 (wq_s (fun σ3 eσ3 => ?_))
    have h := h σ3 eσ3
    refine q_iinc (lv' := [(2, .inl (v2 + 1)), (4, .inl s0), (0, .inr (.inr 0)), (1, .inl v1), (3, .inl v3)]) ok dX10_learnsMeter_115 3 rfl (by decide) rfl ?_
    refine q_goto (tgt := 2) ok dX10_learnsMeter_118 (by decide) ?_
    refine q_sub [2, 3, 0] rfl ?_
    exact hk2 σ3 v1 (v2 + 1) h
set_option maxRecDepth 100000 in
set_option maxHeartbeats 4000000 in
theorem w_X10_learnsMeter_J16 {X : Cx} {Y : Cy} {k2 : St → Int → Int → Prop} {Q : St → Prop} (ok : Ok X Y KM cX10_learnsMeter 5 RX10 (rm0q 0 0) none) (hk2 : ∀ (σ : St) (v1 : Int) (v2 : Int) , k2 σ v1 v2 → Wq X Y KM 5 (QF X Y (Qvq Y KM Q)) σ 2 [(0, .inr (.inr 0)), (1, .inl v1), (2, .inl v2)] []) (σ : St) (v1 : Int) (v2 : Int) (s0 : Int) (h : f_X10_learnsMeter_J16 k2 Q σ v1 v2 s0) : Wq X Y KM 5 (QF X Y (Qvq Y KM Q)) σ 16 [(0, .inr (.inr 0)), (1, .inl v1), (2, .inl v2)] [.inl s0] := by
  unfold f_X10_learnsMeter_J16 at h
  refine q_aload_n ok dX10_learnsMeter_16 0 rfl ?_
  refine q_getC ok fl_X10_19 kM_0 fM_0_7 dX10_learnsMeter_17 ?_
  refine q_iload_n ok dX10_learnsMeter_20 1 rfl ?_
  obtain ⟨g1, g2, h⟩ := h
  refine q_iald ok kM_ok kM_4 g1 g2 dX10_learnsMeter_21 ?_
  refine q_iadd ok dX10_learnsMeter_22 ?_
  refine wq_i (fun x1 ex1 => ?_)
  have h := h x1 ex1
  refine q_istore_n (lv' := [(3, .inl x1), (0, .inr (.inr 0)), (1, .inl v1), (2, .inl v2)]) ok dX10_learnsMeter_23 (by decide) rfl ?_
  refine q_aload_n ok dX10_learnsMeter_24 1 rfl ?_
  refine q_getC ok fl_X10_31 kM_0 fM_0_11 dX10_learnsMeter_25 ?_
  refine q_iload_n ok dX10_learnsMeter_28 2 rfl ?_
  obtain ⟨g3, g4, h⟩ := h
  refine q_iald ok kM_ok kM_8 g3 g4 dX10_learnsMeter_29 ?_
  refine q_bipush ok dX10_learnsMeter_30 rfl ?_
  obtain ⟨g5, hT2a, hT2b⟩ := h
  refine q_icmp_ne (tgt := 44) ok dX10_learnsMeter_32 (by decide) g5 (by unfold inR; decide) (fun c2 => ?_) (fun c2 => ?_)
  · have h := hT2a c2
    refine q_aload_n ok dX10_learnsMeter_44 1 rfl ?_
    refine q_getC ok fl_X10_31 kM_0 fM_0_11 dX10_learnsMeter_45 ?_
    refine q_iload_n ok dX10_learnsMeter_48 2 rfl ?_
    obtain ⟨g6, g7, h⟩ := h
    refine q_iald ok kM_ok kM_8 g6 g7 dX10_learnsMeter_49 ?_
    refine q_bipush ok dX10_learnsMeter_50 rfl ?_
    obtain ⟨g8, hT1a, hT1b⟩ := h
    refine q_icmp_ne (tgt := 71) ok dX10_learnsMeter_52 (by decide) g8 (by unfold inR; decide) (fun c1 => ?_) (fun c1 => ?_)
    · have h := hT1a c1
      refine q_aload_n ok dX10_learnsMeter_71 1 rfl ?_
      refine q_getC ok fl_X10_119 kM_0 fM_0_59 dX10_learnsMeter_72 ?_
      refine q_iload_n ok dX10_learnsMeter_75 0 rfl ?_
      obtain ⟨g9, g10, h⟩ := h
      refine q_iald ok kM_ok kM_37 g9 g10 dX10_learnsMeter_76 ?_
      refine q_aload_n ok dX10_learnsMeter_77 1 rfl ?_
      refine q_getC ok fl_X10_22 kM_0 fM_0_8 dX10_learnsMeter_78 ?_
      refine q_iload_n ok dX10_learnsMeter_81 2 rfl ?_
      obtain ⟨g11, g12, h⟩ := h
      refine q_iald ok kM_ok kM_5 g11 g12 dX10_learnsMeter_82 ?_
      refine q_isub ok dX10_learnsMeter_83 ?_
      refine q_sub [1, 2, 3, 0] rfl ?_
      exact w_X10_learnsMeter_J84 ok hk2 σ v1 v2 x1 ((σ 37 x1.toNat) - (σ 5 v1.toNat)) h
    · have h := hT1b c1
      refine q_aload_n ok dX10_learnsMeter_55 1 rfl ?_
      refine q_getC ok fl_X10_119 kM_0 fM_0_59 dX10_learnsMeter_56 ?_
      refine q_iload_n ok dX10_learnsMeter_59 0 rfl ?_
      obtain ⟨g13, g14, h⟩ := h
      refine q_iald ok kM_ok kM_37 g13 g14 dX10_learnsMeter_60 ?_
      refine q_aload_n ok dX10_learnsMeter_61 1 rfl ?_
      refine q_getC ok fl_X10_22 kM_0 fM_0_8 dX10_learnsMeter_62 ?_
      refine q_iload_n ok dX10_learnsMeter_65 2 rfl ?_
      obtain ⟨g15, g16, h⟩ := h
      refine q_iald ok kM_ok kM_5 g15 g16 dX10_learnsMeter_66 ?_
      refine q_iadd ok dX10_learnsMeter_67 ?_
      refine q_goto (tgt := 84) ok dX10_learnsMeter_68 (by decide) ?_
      refine q_sub [1, 2, 3, 0] rfl ?_
      exact w_X10_learnsMeter_J84 ok hk2 σ v1 v2 x1 ((σ 37 x1.toNat) + (σ 5 v1.toNat)) h
  · have h := hT2b c2
    refine q_aload_n ok dX10_learnsMeter_35 1 rfl ?_
    refine q_getC ok fl_X10_22 kM_0 fM_0_8 dX10_learnsMeter_36 ?_
    refine q_iload_n ok dX10_learnsMeter_39 2 rfl ?_
    obtain ⟨g17, g18, h⟩ := h
    refine q_iald ok kM_ok kM_5 g17 g18 dX10_learnsMeter_40 ?_
    refine q_goto (tgt := 84) ok dX10_learnsMeter_41 (by decide) ?_
    refine q_sub [1, 2, 3, 0] rfl ?_
    exact w_X10_learnsMeter_J84 ok hk2 σ v1 v2 x1 (σ 5 v1.toNat) h
set_option maxRecDepth 100000 in
set_option maxHeartbeats 4000000 in
theorem w_X10_learnsMeter_L2 {X : Cx} {Y : Cy} {Q : St → Prop} (ok : Ok X Y KM cX10_learnsMeter 5 RX10 (rm0q 0 0) none) : ∀ (n : Nat) (σ : St) (v1 : Int) (v2 : Int) , f_X10_learnsMeter_L2 Q n σ v1 v2 → Wq X Y KM 5 (QF X Y (Qvq Y KM Q)) σ 2 [(0, .inr (.inr 0)), (1, .inl v1), (2, .inl v2)] [] := by
  intro n
  induction n with
  | zero => intro σ v1 v2 h; exact h.elim
  | succ n ih =>
    intro σ v1 v2 h
    rw [f_X10_learnsMeter_L2] at h
    refine q_iload_n ok dX10_learnsMeter_2 2 rfl ?_
    refine q_iconst ok dX10_learnsMeter_3 ?_
    obtain ⟨g1, hT2a, hT2b⟩ := h
    refine q_icmp_ge (tgt := 121) ok dX10_learnsMeter_4 (by decide) g1 (by unfold inR; decide) (fun c2 => ?_) (fun c2 => ?_)
    · have h := hT2a c2
      exact q_vret ok dX10_learnsMeter_121 h
    · have h := hT2b c2
      refine q_iload_n ok dX10_learnsMeter_7 2 rfl ?_
      obtain ⟨g2, hT1a, hT1b⟩ := h
      refine q_if_ne (tgt := 15) ok dX10_learnsMeter_8 (by decide) g2 (fun c1 => ?_) (fun c1 => ?_)
      · have h := hT1a c1
        refine q_iconst ok dX10_learnsMeter_15 ?_
        exact w_X10_learnsMeter_J16 ok ih σ v1 v2 4 h
      · have h := hT1b c1
        refine q_iconst ok dX10_learnsMeter_11 ?_
        refine q_goto (tgt := 16) ok dX10_learnsMeter_12 (by decide) ?_
        exact w_X10_learnsMeter_J16 ok ih σ v1 v2 1 h
set_option maxRecDepth 100000 in
set_option maxHeartbeats 4000000 in
theorem c_X10_learnsMeter (l : Launch) (Y : Cy) (hD : ∀ σ, va_D Y.2.2.2 (wsOf KM Y.2.1 Y.2.2.1 σ)) {a0 : Int} {σ : St} {Q : St → Prop} (h : f_X10_learnsMeter a0 σ Q) : ConV l yX10_learnsMeter cX10_learnsMeter 5 (rm0q 0 0) Y KM σ [.inr (.inr 0), .inl a0] Q := con_of (lv := [(0, .inr (.inr 0)), (1, .inl a0)]) (by decide) hD (Nat.le_of_ble_eq_true rfl) rfl (fun X _ ok => by
  have ok : Ok X Y KM cX10_learnsMeter 5 RX10 (rm0q 0 0) none := ok
  unfold f_X10_learnsMeter at h
  refine q_iconst ok dX10_learnsMeter_0 ?_
  refine q_istore_n (lv' := [(2, .inl 0), (0, .inr (.inr 0)), (1, .inl a0)]) ok dX10_learnsMeter_1 (by decide) rfl ?_
  refine q_sub [1, 2, 0] rfl ?_
  exact w_X10_learnsMeter_L2 ok FU σ a0 0 h)
/-! BranchingStoryModel.goesToHubs(I)V -/
def f_X10_goesToHubs_L10 (Q : St → Prop) : Nat → St → Int → Int → Int → Prop
  | 0, _, _, _, _ => False
  | n + 1, σ, v1, v2, v3 => inR v3 ∧ ((12 ≤ v3 → inR (iand32 (ishr32 v2 12) 1) ∧ ((¬ (iand32 (ishr32 v2 12) 1) = 1 → ∀ σ1 : St, σ1 = sset σ 0 73 (ior32 (σ 0 73) 0) → Q σ1) ∧ ((iand32 (ishr32 v2 12) 1) = 1 → ∀ σ2 : St, σ2 = sset σ 0 73 (ior32 (σ 0 73) (ishl32 1 v1)) → Q σ2))) ∧ (¬ 12 ≤ v3 → inR (iand32 (ishr32 v2 v3) 1) ∧ ((¬ (iand32 (ishr32 v2 v3) 1) = 1 → f_X10_goesToHubs_L10 Q n σ v1 v2 (v3 + 1)) ∧ ((iand32 (ishr32 v2 v3) 1) = 1 → f_X10_comesTo v3 σ (fun σ3 => f_X10_goesToHubs_L10 Q n σ3 v1 v2 (v3 + 1))))))
def f_X10_goesToHubs (a0 : Int) (σ : St) (Q : St → Prop) : Prop :=
  ∀ x1 : Int, x1 = (σ 37 8) → f_X10_goesToHubs_L10 Q FU σ a0 x1 0
set_option maxRecDepth 100000 in
set_option maxHeartbeats 4000000 in
theorem w_X10_goesToHubs_L10 {X : Cx} {Y : Cy} {Q : St → Prop} (ok : Ok X Y KM cX10_goesToHubs 4 RX10 (rm0q 3 71) none) : ∀ (n : Nat) (σ : St) (v1 : Int) (v2 : Int) (v3 : Int) , f_X10_goesToHubs_L10 Q n σ v1 v2 v3 → Wq X Y KM 4 (QF X Y (Qvq Y KM Q)) σ 10 [(0, .inr (.inr 0)), (1, .inl v1), (2, .inl v2), (3, .inl v3)] [] := by
  intro n
  induction n with
  | zero => intro σ v1 v2 v3 h; exact h.elim
  | succ n ih =>
    intro σ v1 v2 v3 h
    rw [f_X10_goesToHubs_L10] at h
    refine q_iload_n ok dX10_goesToHubs_10 3 rfl ?_
    refine q_bipush ok dX10_goesToHubs_11 rfl ?_
    obtain ⟨g1, hT3a, hT3b⟩ := h
    refine q_icmp_ge (tgt := 36) ok dX10_goesToHubs_13 (by decide) g1 (by unfold inR; decide) (fun c3 => ?_) (fun c3 => ?_)
    · have h := hT3a c3
      refine q_aload_n ok dX10_goesToHubs_36 0 rfl ?_
      refine q_dup ok dX10_goesToHubs_37 rfl ?_
      refine q_getI ok fl_X10_414 kM_0 fM_0_73 dX10_goesToHubs_38 ?_
      refine q_iload_n ok dX10_goesToHubs_41 2 rfl ?_
      refine q_bipush ok dX10_goesToHubs_42 rfl ?_
      refine q_ishr ok dX10_goesToHubs_44 ?_
      refine q_iconst ok dX10_goesToHubs_45 ?_
      refine q_iand ok dX10_goesToHubs_46 ?_
      refine q_iconst ok dX10_goesToHubs_47 ?_
      obtain ⟨g2, hT1a, hT1b⟩ := h
      refine q_icmp_ne (tgt := 57) ok dX10_goesToHubs_48 (by decide) g2 (by unfold inR; decide) (fun c1 => ?_) (fun c1 => ?_)
      · have h := hT1a c1
        refine q_iconst ok dX10_goesToHubs_57 ?_
        refine q_ior ok dX10_goesToHubs_58 ?_
        refine q_putI ok fp_X10_414 kM_0 fM_0_73 dX10_goesToHubs_59 (wq_s (fun σ1 eσ1 => ?_))
        have h := h σ1 eσ1
        exact q_vret ok dX10_goesToHubs_62 h
      · have h := hT1b c1
        refine q_iconst ok dX10_goesToHubs_51 ?_
        refine q_iload_n ok dX10_goesToHubs_52 1 rfl ?_
        refine q_ishl ok dX10_goesToHubs_53 ?_
        refine q_goto (tgt := 58) ok dX10_goesToHubs_54 (by decide) ?_
        refine q_ior ok dX10_goesToHubs_58 ?_
        refine q_putI ok fp_X10_414 kM_0 fM_0_73 dX10_goesToHubs_59 (wq_s (fun σ2 eσ2 => ?_))
        have h := h σ2 eσ2
        exact q_vret ok dX10_goesToHubs_62 h
    · have h := hT3b c3
      refine q_iload_n ok dX10_goesToHubs_16 2 rfl ?_
      refine q_iload_n ok dX10_goesToHubs_17 3 rfl ?_
      refine q_ishr ok dX10_goesToHubs_18 ?_
      refine q_iconst ok dX10_goesToHubs_19 ?_
      refine q_iand ok dX10_goesToHubs_20 ?_
      refine q_iconst ok dX10_goesToHubs_21 ?_
      obtain ⟨g3, hT2a, hT2b⟩ := h
      refine q_icmp_ne (tgt := 30) ok dX10_goesToHubs_22 (by decide) g3 (by unfold inR; decide) (fun c2 => ?_) (fun c2 => ?_)
      · have h := hT2a c2
        refine q_iinc (lv' := [(3, .inl (v3 + 1)), (0, .inr (.inr 0)), (1, .inl v1), (2, .inl v2)]) ok dX10_goesToHubs_30 3 rfl (by decide) rfl ?_
        refine q_goto (tgt := 10) ok dX10_goesToHubs_33 (by decide) ?_
        refine q_sub [1, 2, 3, 0] rfl ?_
        exact ih σ v1 v2 (v3 + 1) h
      · have h := hT2b c2
        refine q_aload_n ok dX10_goesToHubs_25 0 rfl ?_
        refine q_iload_n ok dX10_goesToHubs_26 3 rfl ?_
        refine q_callVV (st := []) ok cs_X10_411 kM_0 rfl (c_X10_comesTo X.2.1 Y ok.2.2.2.2.2.2.2.2 h) ⟨rfl, rfl, Nat.le_of_ble_eq_true rfl, Nat.le_of_ble_eq_true rfl⟩ rfl rfl (Nat.le_of_ble_eq_true rfl) dX10_goesToHubs_27 (fun σ3 h => ?_)
        refine q_iinc (lv' := [(3, .inl (v3 + 1)), (0, .inr (.inr 0)), (1, .inl v1), (2, .inl v2)]) ok dX10_goesToHubs_30 3 rfl (by decide) rfl ?_
        refine q_goto (tgt := 10) ok dX10_goesToHubs_33 (by decide) ?_
        refine q_sub [1, 2, 3, 0] rfl ?_
        exact ih σ3 v1 v2 (v3 + 1) h
set_option maxRecDepth 100000 in
set_option maxHeartbeats 4000000 in
theorem c_X10_goesToHubs (l : Launch) (Y : Cy) (hD : ∀ σ, va_D Y.2.2.2 (wsOf KM Y.2.1 Y.2.2.1 σ)) {a0 : Int} {σ : St} {Q : St → Prop} (h : f_X10_goesToHubs a0 σ Q) : ConV l yX10_goesToHubs cX10_goesToHubs 4 (rm0q 3 71) Y KM σ [.inr (.inr 0), .inl a0] Q := con_of (lv := [(0, .inr (.inr 0)), (1, .inl a0)]) (by decide) hD (Nat.le_of_ble_eq_true rfl) rfl (fun X _ ok => by
  have ok : Ok X Y KM cX10_goesToHubs 4 RX10 (rm0q 3 71) none := ok
  unfold f_X10_goesToHubs at h
  refine q_aload_n ok dX10_goesToHubs_0 0 rfl ?_
  refine q_getC ok fl_X10_119 kM_0 fM_0_59 dX10_goesToHubs_1 ?_
  refine q_bipush ok dX10_goesToHubs_4 rfl ?_
  refine q_iald ok kM_ok kM_37 (by decide) (by decide) dX10_goesToHubs_6 ?_
  refine wq_i (fun x1 ex1 => ?_)
  have h := h x1 ex1
  refine q_istore_n (lv' := [(2, .inl x1), (0, .inr (.inr 0)), (1, .inl a0)]) ok dX10_goesToHubs_7 (by decide) rfl ?_
  refine q_iconst ok dX10_goesToHubs_8 ?_
  refine q_istore_n (lv' := [(3, .inl 0), (2, .inl x1), (0, .inr (.inr 0)), (1, .inl a0)]) ok dX10_goesToHubs_9 (by decide) rfl ?_
  refine q_sub [2, 3, 1, 0] rfl ?_
  exact w_X10_goesToHubs_L10 ok FU σ a0 x1 0 h)
/-! BranchingStoryModel.learns(I)V -/
def f_X10_learns_J198 (Q : St → Prop) (σ : St) : Prop :=
  inR (σ 37 0) ∧ ((¬ (σ 37 0) = 1 → ∀ σ1 : St, σ1 = sset σ 0 48 (-1) → Q σ1) ∧ ((σ 37 0) = 1 → ∀ σ2 : St, σ2 = sset σ 0 48 (σ 0 48) → Q σ2))
def f_X10_learns (a0 : Int) (σ : St) (Q : St → Prop) : Prop :=
  ∀ x1 : Int, x1 = (σ 0 48) → 0 ≤ x1 ∧ x1 < 401 ∧ ∀ σ1 : St, σ1 = sset σ 0 48 (σ 6 x1.toNat) → 0 ≤ x1 ∧ x1 < 401 ∧ inR (σ1 3 x1.toNat) ∧ (((σ1 3 x1.toNat) = 1 → 0 ≤ x1 ∧ x1 < 401 ∧ 0 ≤ x1 ∧ x1 < 401 ∧ 0 ≤ x1 ∧ x1 < 401 ∧ ∀ σ2 : St, σ2 = sset σ1 37 7 (ior32 (iand32 (σ1 37 7) (ixor32 (ishl32 3 (2 * (σ1 4 x1.toNat))) (-1))) (ishl32 1 ((2 * (σ1 4 x1.toNat)) + (σ1 5 x1.toNat)))) → f_X10_learns_J198 Q σ2) ∧ ((σ1 3 x1.toNat) = 2 → f_X10_learnsMeter x1 σ1 (fun σ3 => f_X10_learns_J198 Q σ3)) ∧ ((σ1 3 x1.toNat) = 3 → f_X10_opensTest x1 σ1 (fun σ4 => f_X10_learns_J198 Q σ4)) ∧ ((σ1 3 x1.toNat) = 4 → f_X10_offers x1 σ1 (fun σ5 => f_X10_learns_J198 Q σ5)) ∧ ((σ1 3 x1.toNat) = 5 → 0 ≤ x1 ∧ x1 < 401 ∧ f_X10_comesTo (σ1 4 x1.toNat) σ1 (fun σ6 => ∀ σ7 : St, σ7 = sset σ6 37 0 0 → f_X10_learns_J198 Q σ7)) ∧ ((σ1 3 x1.toNat) = 6 → f_X10_goesToHubs a0 σ1 (fun σ8 => ∀ σ9 : St, σ9 = sset σ8 37 0 0 → f_X10_learns_J198 Q σ9)) ∧ ((σ1 3 x1.toNat) = 7 → 0 ≤ x1 ∧ x1 < 401 ∧ ∀ σ10 : St, σ10 = sset σ1 0 72 (ior32 (σ1 0 72) (ishl32 1 (σ1 4 x1.toNat))) → ∀ σ11 : St, σ11 = sset σ10 37 0 0 → f_X10_learns_J198 Q σ11) ∧ (((σ1 3 x1.toNat) < 1 ∨ 7 < (σ1 3 x1.toNat)) → f_X10_learns_J198 Q σ1))
set_option maxRecDepth 100000 in
set_option maxHeartbeats 4000000 in
theorem w_X10_learns_J198 {X : Cx} {Y : Cy} {Q : St → Prop} (ok : Ok X Y KM cX10_learns 3 RX10 (rm0q 4 94) none) (σ : St) (h : f_X10_learns_J198 Q σ ) : Wq X Y KM 3 (QF X Y (Qvq Y KM Q)) σ 198 [(0, .inr (.inr 0))] [] := by
  unfold f_X10_learns_J198 at h
  refine q_aload_n ok dX10_learns_198 0 rfl ?_
  refine q_aload_n ok dX10_learns_199 0 rfl ?_
  refine q_getC ok fl_X10_119 kM_0 fM_0_59 dX10_learns_200 ?_
  refine q_iconst ok dX10_learns_203 ?_
  refine q_iald ok kM_ok kM_37 (by decide) (by decide) dX10_learns_204 ?_
  refine q_iconst ok dX10_learns_205 ?_
  obtain ⟨g1, hT1a, hT1b⟩ := h
  refine q_icmp_ne (tgt := 216) ok dX10_learns_206 (by decide) g1 (by unfold inR; decide) (fun c1 => ?_) (fun c1 => ?_)
  · have h := hT1a c1
    refine q_iconst ok dX10_learns_216 ?_
    refine q_putI ok fp_X10_292 kM_0 fM_0_48 dX10_learns_217 (wq_s (fun σ1 eσ1 => ?_))
    have h := h σ1 eσ1
    exact q_vret ok dX10_learns_220 h
  · have h := hT1b c1
    refine q_aload_n ok dX10_learns_209 0 rfl ?_
    refine q_getI ok fl_X10_292 kM_0 fM_0_48 dX10_learns_210 ?_
    refine q_goto (tgt := 217) ok dX10_learns_213 (by decide) ?_
    refine q_putI ok fp_X10_292 kM_0 fM_0_48 dX10_learns_217 (wq_s (fun σ2 eσ2 => ?_))
    have h := h σ2 eσ2
    exact q_vret ok dX10_learns_220 h
set_option maxRecDepth 100000 in
set_option maxHeartbeats 4000000 in
theorem c_X10_learns (l : Launch) (Y : Cy) (hD : ∀ σ, va_D Y.2.2.2 (wsOf KM Y.2.1 Y.2.2.1 σ)) {a0 : Int} {σ : St} {Q : St → Prop} (h : f_X10_learns a0 σ Q) : ConV l yX10_learns cX10_learns 3 (rm0q 4 94) Y KM σ [.inr (.inr 0), .inl a0] Q := con_of (lv := [(0, .inr (.inr 0)), (1, .inl a0)]) (by decide) hD (Nat.le_of_ble_eq_true rfl) rfl (fun X _ ok => by
  have ok : Ok X Y KM cX10_learns 3 RX10 (rm0q 4 94) none := ok
  unfold f_X10_learns at h
  refine q_aload_n ok dX10_learns_0 0 rfl ?_
  refine q_getI ok fl_X10_292 kM_0 fM_0_48 dX10_learns_1 ?_
  refine wq_i (fun x1 ex1 => ?_)
  have h := h x1 ex1
  refine q_istore_n (lv' := [(2, .inl x1), (0, .inr (.inr 0)), (1, .inl a0)]) ok dX10_learns_4 (by decide) rfl ?_
  refine q_aload_n ok dX10_learns_5 1 rfl ?_
  refine q_aload_n ok dX10_learns_6 1 rfl ?_
  refine q_getC ok fl_X10_25 kM_0 fM_0_9 dX10_learns_7 ?_
  refine q_iload_n ok dX10_learns_10 0 rfl ?_
  obtain ⟨g1, g2, h⟩ := h
  refine q_iald ok kM_ok kM_6 g1 g2 dX10_learns_11 ?_
  refine q_putI ok fp_X10_292 kM_0 fM_0_48 dX10_learns_12 (wq_s (fun σ1 eσ1 => ?_))
  have h := h σ1 eσ1
  refine q_aload_n ok dX10_learns_15 1 rfl ?_
  refine q_getC ok fl_X10_16 kM_0 fM_0_6 dX10_learns_16 ?_
  refine q_iload_n ok dX10_learns_19 0 rfl ?_
  obtain ⟨g3, g4, h⟩ := h
  refine q_iald ok kM_ok kM_3 g3 g4 dX10_learns_20 ?_
  obtain ⟨g5, hs1, hs2, hs3, hs4, hs5, hs6, hs7, hs8⟩ := h
  by_cases c1 : (σ1 3 x1.toNat) = 1
  · have h := hs1 c1
    refine q_tsIn (tgt := 64) ok dX10_learns_21 g5 (by omega) (by omega) (by rw [c1]; rfl) (by decide) ?_
    refine q_aload_n ok dX10_learns_64 1 rfl ?_
    refine q_getC ok fl_X10_119 kM_0 fM_0_59 dX10_learns_65 ?_
    refine q_bipush ok dX10_learns_68 rfl ?_
    refine q_aload_n ok dX10_learns_70 1 rfl ?_
    refine q_getC ok fl_X10_119 kM_0 fM_0_59 dX10_learns_71 ?_
    refine q_bipush ok dX10_learns_74 rfl ?_
    refine q_iald ok kM_ok kM_37 (by decide) (by decide) dX10_learns_76 ?_
    refine q_iconst ok dX10_learns_77 ?_
    refine q_iconst ok dX10_learns_78 ?_
    refine q_aload_n ok dX10_learns_79 1 rfl ?_
    refine q_getC ok fl_X10_19 kM_0 fM_0_7 dX10_learns_80 ?_
    refine q_iload_n ok dX10_learns_83 0 rfl ?_
    obtain ⟨g6, g7, h⟩ := h
    refine q_iald ok kM_ok kM_4 g6 g7 dX10_learns_84 ?_
    refine q_imul ok dX10_learns_85 ?_
    refine q_ishl ok dX10_learns_86 ?_
    refine q_iconst ok dX10_learns_87 ?_
    refine q_ixor ok dX10_learns_88 ?_
    refine q_iand ok dX10_learns_89 ?_
    refine q_iconst ok dX10_learns_90 ?_
    refine q_iconst ok dX10_learns_91 ?_
    refine q_aload_n ok dX10_learns_92 1 rfl ?_
    refine q_getC ok fl_X10_19 kM_0 fM_0_7 dX10_learns_93 ?_
    refine q_iload_n ok dX10_learns_96 0 rfl ?_
    obtain ⟨g8, g9, h⟩ := h
    refine q_iald ok kM_ok kM_4 g8 g9 dX10_learns_97 ?_
    refine q_imul ok dX10_learns_98 ?_
    refine q_aload_n ok dX10_learns_99 1 rfl ?_
    refine q_getC ok fl_X10_22 kM_0 fM_0_8 dX10_learns_100 ?_
    refine q_iload_n ok dX10_learns_103 0 rfl ?_
    obtain ⟨g10, g11, h⟩ := h
    refine q_iald ok kM_ok kM_5 g10 g11 dX10_learns_104 ?_
    refine q_iadd ok dX10_learns_105 ?_
    refine q_ishl ok dX10_learns_106 ?_
    refine q_ior ok dX10_learns_107 ?_
    refine q_iast ok kM_ok kM_37 (by decide) (by decide) dX10_learns_108 (wq_s (fun σ2 eσ2 => ?_))
    have h := h σ2 eσ2
    refine q_goto (tgt := 198) ok dX10_learns_109 (by decide) ?_
    refine q_sub [1] rfl ?_
    exact w_X10_learns_J198 ok σ2 h
  by_cases c2 : (σ1 3 x1.toNat) = 2
  · have h := hs2 c2
    refine q_tsIn (tgt := 112) ok dX10_learns_21 g5 (by omega) (by omega) (by rw [c2]; rfl) (by decide) ?_
    refine q_aload_n ok dX10_learns_112 1 rfl ?_
    refine q_iload_n ok dX10_learns_113 0 rfl ?_
    refine q_callVV (st := []) ok cs_X10_417 kM_0 rfl (c_X10_learnsMeter X.2.1 Y ok.2.2.2.2.2.2.2.2 h) ⟨rfl, rfl, Nat.le_of_ble_eq_true rfl, Nat.le_of_ble_eq_true rfl⟩ rfl rfl (Nat.le_of_ble_eq_true rfl) dX10_learns_114 (fun σ3 h => ?_)
    refine q_goto (tgt := 198) ok dX10_learns_117 (by decide) ?_
    refine q_sub [1] rfl ?_
    exact w_X10_learns_J198 ok σ3 h
  by_cases c3 : (σ1 3 x1.toNat) = 3
  · have h := hs3 c3
    refine q_tsIn (tgt := 120) ok dX10_learns_21 g5 (by omega) (by omega) (by rw [c3]; rfl) (by decide) ?_
    refine q_aload_n ok dX10_learns_120 1 rfl ?_
    refine q_iload_n ok dX10_learns_121 0 rfl ?_
    refine q_callVV (st := []) ok cs_X10_420 kM_0 rfl (c_X10_opensTest X.2.1 Y ok.2.2.2.2.2.2.2.2 h) ⟨rfl, rfl, Nat.le_of_ble_eq_true rfl, Nat.le_of_ble_eq_true rfl⟩ rfl rfl (Nat.le_of_ble_eq_true rfl) dX10_learns_122 (fun σ4 h => ?_)
    refine q_goto (tgt := 198) ok dX10_learns_125 (by decide) ?_
    refine q_sub [1] rfl ?_
    exact w_X10_learns_J198 ok σ4 h
  by_cases c4 : (σ1 3 x1.toNat) = 4
  · have h := hs4 c4
    refine q_tsIn (tgt := 128) ok dX10_learns_21 g5 (by omega) (by omega) (by rw [c4]; rfl) (by decide) ?_
    refine q_aload_n ok dX10_learns_128 1 rfl ?_
    refine q_iload_n ok dX10_learns_129 0 rfl ?_
    refine q_callVV (st := []) ok cs_X10_423 kM_0 rfl (c_X10_offers X.2.1 Y ok.2.2.2.2.2.2.2.2 h) ⟨rfl, rfl, Nat.le_of_ble_eq_true rfl, Nat.le_of_ble_eq_true rfl⟩ rfl rfl (Nat.le_of_ble_eq_true rfl) dX10_learns_130 (fun σ5 h => ?_)
    refine q_goto (tgt := 198) ok dX10_learns_133 (by decide) ?_
    refine q_sub [1] rfl ?_
    exact w_X10_learns_J198 ok σ5 h
  by_cases c5 : (σ1 3 x1.toNat) = 5
  · have h := hs5 c5
    refine q_tsIn (tgt := 136) ok dX10_learns_21 g5 (by omega) (by omega) (by rw [c5]; rfl) (by decide) ?_
    refine q_aload_n ok dX10_learns_136 1 rfl ?_
    refine q_aload_n ok dX10_learns_137 1 rfl ?_
    refine q_getC ok fl_X10_19 kM_0 fM_0_7 dX10_learns_138 ?_
    refine q_iload_n ok dX10_learns_141 0 rfl ?_
    obtain ⟨g12, g13, h⟩ := h
    refine q_iald ok kM_ok kM_4 g12 g13 dX10_learns_142 ?_
    refine q_callVV (st := []) ok cs_X10_411 kM_0 rfl (c_X10_comesTo X.2.1 Y ok.2.2.2.2.2.2.2.2 h) ⟨rfl, rfl, Nat.le_of_ble_eq_true rfl, Nat.le_of_ble_eq_true rfl⟩ rfl rfl (Nat.le_of_ble_eq_true rfl) dX10_learns_143 (fun σ6 h => ?_)
    refine q_aload_n ok dX10_learns_146 1 rfl ?_
    refine q_getC ok fl_X10_119 kM_0 fM_0_59 dX10_learns_147 ?_
    refine q_iconst ok dX10_learns_150 ?_
    refine q_iconst ok dX10_learns_151 ?_
    refine q_iast ok kM_ok kM_37 (by decide) (by decide) dX10_learns_152 (wq_s (fun σ7 eσ7 => ?_))
    have h := h σ7 eσ7
    refine q_goto (tgt := 198) ok dX10_learns_153 (by decide) ?_
    refine q_sub [1] rfl ?_
    exact w_X10_learns_J198 ok σ7 h
  by_cases c6 : (σ1 3 x1.toNat) = 6
  · have h := hs6 c6
    refine q_tsIn (tgt := 156) ok dX10_learns_21 g5 (by omega) (by omega) (by rw [c6]; rfl) (by decide) ?_
    refine q_aload_n ok dX10_learns_156 1 rfl ?_
    refine q_iload_n ok dX10_learns_157 2 rfl ?_
    refine q_callVV (st := []) ok cs_X10_426 kM_0 rfl (c_X10_goesToHubs X.2.1 Y ok.2.2.2.2.2.2.2.2 h) ⟨rfl, rfl, Nat.le_of_ble_eq_true rfl, Nat.le_of_ble_eq_true rfl⟩ rfl rfl (Nat.le_of_ble_eq_true rfl) dX10_learns_158 (fun σ8 h => ?_)
    refine q_aload_n ok dX10_learns_161 1 rfl ?_
    refine q_getC ok fl_X10_119 kM_0 fM_0_59 dX10_learns_162 ?_
    refine q_iconst ok dX10_learns_165 ?_
    refine q_iconst ok dX10_learns_166 ?_
    refine q_iast ok kM_ok kM_37 (by decide) (by decide) dX10_learns_167 (wq_s (fun σ9 eσ9 => ?_))
    have h := h σ9 eσ9
    refine q_goto (tgt := 198) ok dX10_learns_168 (by decide) ?_
    refine q_sub [1] rfl ?_
    exact w_X10_learns_J198 ok σ9 h
  by_cases c7 : (σ1 3 x1.toNat) = 7
  · have h := hs7 c7
    refine q_tsIn (tgt := 171) ok dX10_learns_21 g5 (by omega) (by omega) (by rw [c7]; rfl) (by decide) ?_
    refine q_aload_n ok dX10_learns_171 1 rfl ?_
    refine q_dup ok dX10_learns_172 rfl ?_
    refine q_getI ok fl_X10_429 kM_0 fM_0_72 dX10_learns_173 ?_
    refine q_iconst ok dX10_learns_176 ?_
    refine q_aload_n ok dX10_learns_177 1 rfl ?_
    refine q_getC ok fl_X10_19 kM_0 fM_0_7 dX10_learns_178 ?_
    refine q_iload_n ok dX10_learns_181 0 rfl ?_
    obtain ⟨g14, g15, h⟩ := h
    refine q_iald ok kM_ok kM_4 g14 g15 dX10_learns_182 ?_
    refine q_ishl ok dX10_learns_183 ?_
    refine q_ior ok dX10_learns_184 ?_
    refine q_putI ok fp_X10_429 kM_0 fM_0_72 dX10_learns_185 (wq_s (fun σ10 eσ10 => ?_))
    have h := h σ10 eσ10
    refine q_aload_n ok dX10_learns_188 1 rfl ?_
    refine q_getC ok fl_X10_119 kM_0 fM_0_59 dX10_learns_189 ?_
    refine q_iconst ok dX10_learns_192 ?_
    refine q_iconst ok dX10_learns_193 ?_
    refine q_iast ok kM_ok kM_37 (by decide) (by decide) dX10_learns_194 (wq_s (fun σ11 eσ11 => ?_))
    have h := h σ11 eσ11
    refine q_goto (tgt := 198) ok dX10_learns_195 (by decide) ?_
    refine q_sub [1] rfl ?_
    exact w_X10_learns_J198 ok σ11 h
  have h := hs8 (by omega)
  refine q_tsOut (tgt := 198) ok dX10_learns_21 g5 (by omega) (by decide) ?_
  refine q_sub [1] rfl ?_
  exact w_X10_learns_J198 ok σ1 h)
/-! BranchingStoryModel.goesThrough(II)V -/
def f_X10_goesThrough_J93 (k78 : St → Int → Int → Prop) (Q : St → Prop) (σ : St) (v1 : Int) (v3 : Int) : Prop :=
  inR (σ 0 48) ∧ ((¬ (σ 0 48) = (-1) → f_X10_learns v3 σ (fun σ1 => k78 σ1 v1 v3)) ∧ ((σ 0 48) = (-1) → f_X10_leavesTest σ (fun σ2 => k78 σ2 v1 v3)))
def f_X10_goesThrough_J187 (Q : St → Prop) (σ : St) (v3 : Int) : Prop :=
  inR (σ 0 68) ∧ ((¬ (σ 0 68) = 0 → Q σ) ∧ ((σ 0 68) = 0 → ∀ σ1 : St, σ1 = sset σ 0 73 (ior32 (σ 0 73) (ishl32 1 v3)) → Q σ1))
def f_X10_goesThrough_L129 (Q : St → Prop) : Nat → St → Int → Int → Int → Prop
  | 0, _, _, _, _ => False
  | n + 1, σ, v1, v3, v4 => inR v4 ∧ inR (σ 0 32) ∧ (((σ 0 32) ≤ v4 → inR (σ 0 68) ∧ ((¬ (σ 0 68) = 0 → f_X10_goesThrough_J187 Q σ v3) ∧ ((σ 0 68) = 0 → inR v1 ∧ ((v1 < 12 → f_X10_goesThrough_J187 Q σ v3) ∧ (¬ v1 < 12 → f_X10_comesTo v3 σ (fun σ1 => Q σ1)))))) ∧ (¬ (σ 0 32) ≤ v4 → inR (iand32 (ishr32 (σ 0 67) v4) 1) ∧ ((¬ (iand32 (ishr32 (σ 0 67) v4) 1) = 1 → f_X10_goesThrough_L129 Q n σ v1 v3 (v4 + 1)) ∧ ((iand32 (ishr32 (σ 0 67) v4) 1) = 1 → f_X10_comesTo (12 + v4) σ (fun σ2 => f_X10_goesThrough_L129 Q n σ2 v1 v3 (v4 + 1))))))
def f_X10_goesThrough_L78 (Q : St → Prop) : Nat → St → Int → Int → Prop
  | 0, _, _, _ => False
  | n + 1, σ, v1, v3 => inR (σ 0 48) ∧ ((¬ (σ 0 48) = (-1) → f_X10_goesThrough_J93 (fun σ' v1' v3' => f_X10_goesThrough_L78 Q n σ' v1' v3') Q σ v1 v3) ∧ ((σ 0 48) = (-1) → inR (σ 0 66) ∧ (((σ 0 66) ≤ 0 → inR (σ 37 0) ∧ ((¬ (σ 37 0) = 0 → f_X10_goesThrough_L129 Q FU σ v1 v3 0) ∧ ((σ 37 0) = 0 → Q σ))) ∧ (¬ (σ 0 66) ≤ 0 → f_X10_goesThrough_J93 (fun σ' v1' v3' => f_X10_goesThrough_L78 Q n σ' v1' v3') Q σ v1 v3))))
def f_X10_goesThrough_J48 (Q : St → Prop) (σ : St) (v1 : Int) (v2 : Int) (v3 : Int) : Prop :=
  ∀ σ1 : St, σ1 = sset σ 0 67 0 → ∀ σ2 : St, σ2 = sset σ1 0 68 0 → ∀ σ3 : St, σ3 = sset σ2 0 66 0 → ∀ σ4 : St, σ4 = sset σ3 0 49 v2 → 0 ≤ v2 ∧ v2 < 64 ∧ ∀ σ5 : St, σ5 = sset σ4 0 48 (σ4 17 v2.toNat) → f_X10_goesThrough_L78 Q FU σ5 v1 v3
def f_X10_goesThrough (a0 : Int) (a1 : Int) (σ : St) (Q : St → Prop) : Prop :=
  0 ≤ a1 ∧ a1 < 64 ∧ ∀ x1 : Int, x1 = (σ 19 a1.toNat) → f_X10_copies 36 (9 * a0) 37 0 σ (fun σ1 => inR a0 ∧ ((12 ≤ a0 → f_X10_goesThrough_J48 Q σ1 a0 a1 x1) ∧ (¬ 12 ≤ a0 → 0 ≤ a0 ∧ a0 < 12 ∧ inR (σ1 21 a0.toNat) ∧ (((σ1 21 a0.toNat) = 0 → f_X10_goesThrough_J48 Q σ1 a0 a1 x1) ∧ (¬ (σ1 21 a0.toNat) = 0 → ∀ σ2 : St, σ2 = sset σ1 37 8 (ishl32 1 a0) → f_X10_goesThrough_J48 Q σ2 a0 a1 x1)))))
set_option maxRecDepth 100000 in
set_option maxHeartbeats 4000000 in
theorem w_X10_goesThrough_J93 {X : Cx} {Y : Cy} {k78 : St → Int → Int → Prop} {Q : St → Prop} (ok : Ok X Y KM cX10_goesThrough 5 RX10 (rm0q 5 116) none) (hk78 : ∀ (σ : St) (v1 : Int) (v3 : Int) , k78 σ v1 v3 → Wq X Y KM 5 (QF X Y (Qvq Y KM Q)) σ 78 [(0, .inr (.inr 0)), (1, .inl v1), (3, .inl v3)] []) (σ : St) (v1 : Int) (v3 : Int) (h : f_X10_goesThrough_J93 k78 Q σ v1 v3) : Wq X Y KM 5 (QF X Y (Qvq Y KM Q)) σ 93 [(0, .inr (.inr 0)), (1, .inl v1), (3, .inl v3)] [] := by
  unfold f_X10_goesThrough_J93 at h
  refine q_aload_n ok dX10_goesThrough_93 0 rfl ?_
  refine q_getI ok fl_X10_292 kM_0 fM_0_48 dX10_goesThrough_94 ?_
  refine q_iconst ok dX10_goesThrough_97 ?_
  obtain ⟨g1, hT1a, hT1b⟩ := h
  refine q_icmp_ne (tgt := 108) ok dX10_goesThrough_98 (by decide) g1 (by unfold inR; decide) (fun c1 => ?_) (fun c1 => ?_)
  · have h := hT1a c1
    refine q_aload_n ok dX10_goesThrough_108 0 rfl ?_
    refine q_iload_n ok dX10_goesThrough_109 2 rfl ?_
    refine q_callVV (st := []) ok cs_X10_435 kM_0 rfl (c_X10_learns X.2.1 Y ok.2.2.2.2.2.2.2.2 h) ⟨rfl, rfl, Nat.le_of_ble_eq_true rfl, Nat.le_of_ble_eq_true rfl⟩ rfl rfl (Nat.le_of_ble_eq_true rfl) dX10_goesThrough_110 (fun σ1 h => ?_)
    refine q_goto (tgt := 78) ok dX10_goesThrough_113 (by decide) ?_
    exact hk78 σ1 v1 v3 h
  · have h := hT1b c1
    refine q_aload_n ok dX10_goesThrough_101 0 rfl ?_
    refine q_callVV (st := []) ok cs_X10_432 kM_0 rfl (c_X10_leavesTest X.2.1 Y ok.2.2.2.2.2.2.2.2 h) ⟨rfl, rfl, Nat.le_of_ble_eq_true rfl, Nat.le_of_ble_eq_true rfl⟩ rfl rfl (Nat.le_of_ble_eq_true rfl) dX10_goesThrough_102 (fun σ2 h => ?_)
    refine q_goto (tgt := 78) ok dX10_goesThrough_105 (by decide) ?_
    exact hk78 σ2 v1 v3 h
set_option maxRecDepth 100000 in
set_option maxHeartbeats 4000000 in
theorem w_X10_goesThrough_J187 {X : Cx} {Y : Cy} {Q : St → Prop} (ok : Ok X Y KM cX10_goesThrough 5 RX10 (rm0q 5 116) none) (σ : St) (v3 : Int) (h : f_X10_goesThrough_J187 Q σ v3) : Wq X Y KM 5 (QF X Y (Qvq Y KM Q)) σ 187 [(0, .inr (.inr 0)), (3, .inl v3)] [] := by
  unfold f_X10_goesThrough_J187 at h
  refine q_aload_n ok dX10_goesThrough_187 0 rfl ?_
  refine q_getI ok fl_X10_396 kM_0 fM_0_68 dX10_goesThrough_188 ?_
  obtain ⟨g1, hT1a, hT1b⟩ := h
  refine q_if_ne (tgt := 206) ok dX10_goesThrough_191 (by decide) g1 (fun c1 => ?_) (fun c1 => ?_)
  · have h := hT1a c1
    exact q_vret ok dX10_goesThrough_206 h
  · have h := hT1b c1
    refine q_aload_n ok dX10_goesThrough_194 0 rfl ?_
    refine q_dup ok dX10_goesThrough_195 rfl ?_
    refine q_getI ok fl_X10_414 kM_0 fM_0_73 dX10_goesThrough_196 ?_
    refine q_iconst ok dX10_goesThrough_199 ?_
    refine q_iload_n ok dX10_goesThrough_200 1 rfl ?_
    refine q_ishl ok dX10_goesThrough_201 ?_
    refine q_ior ok dX10_goesThrough_202 ?_
    refine q_putI ok fp_X10_414 kM_0 fM_0_73 dX10_goesThrough_203 (wq_s (fun σ1 eσ1 => ?_))
    have h := h σ1 eσ1
    exact q_vret ok dX10_goesThrough_206 h
set_option maxRecDepth 100000 in
set_option maxHeartbeats 4000000 in
theorem w_X10_goesThrough_L129 {X : Cx} {Y : Cy} {Q : St → Prop} (ok : Ok X Y KM cX10_goesThrough 5 RX10 (rm0q 5 116) none) : ∀ (n : Nat) (σ : St) (v1 : Int) (v3 : Int) (v4 : Int) , f_X10_goesThrough_L129 Q n σ v1 v3 v4 → Wq X Y KM 5 (QF X Y (Qvq Y KM Q)) σ 129 [(0, .inr (.inr 0)), (1, .inl v1), (3, .inl v3), (4, .inl v4)] [] := by
  intro n
  induction n with
  | zero => intro σ v1 v3 v4 h; exact h.elim
  | succ n ih =>
    intro σ v1 v3 v4 h
    rw [f_X10_goesThrough_L129] at h
    refine q_iload ok dX10_goesThrough_129 3 rfl ?_
    refine q_aload_n ok dX10_goesThrough_131 0 rfl ?_
    refine q_getI ok fl_X10_222 kM_0 fM_0_32 dX10_goesThrough_132 ?_
    obtain ⟨g1, g2, hT4a, hT4b⟩ := h
    refine q_icmp_ge (tgt := 166) ok dX10_goesThrough_135 (by decide) g1 g2 (fun c4 => ?_) (fun c4 => ?_)
    · have h := hT4a c4
      refine q_aload_n ok dX10_goesThrough_166 0 rfl ?_
      refine q_getI ok fl_X10_396 kM_0 fM_0_68 dX10_goesThrough_167 ?_
      obtain ⟨g3, hT2a, hT2b⟩ := h
      refine q_if_ne (tgt := 187) ok dX10_goesThrough_170 (by decide) g3 (fun c2 => ?_) (fun c2 => ?_)
      · have h := hT2a c2
        refine q_sub [0, 2] rfl ?_
        exact w_X10_goesThrough_J187 ok σ v3 h
      · have h := hT2b c2
        refine q_iload_n ok dX10_goesThrough_173 1 rfl ?_
        refine q_bipush ok dX10_goesThrough_174 rfl ?_
        obtain ⟨g4, hT1a, hT1b⟩ := h
        refine q_icmp_lt (tgt := 187) ok dX10_goesThrough_176 (by decide) g4 (by unfold inR; decide) (fun c1 => ?_) (fun c1 => ?_)
        · have h := hT1a c1
          refine q_sub [0, 2] rfl ?_
          exact w_X10_goesThrough_J187 ok σ v3 h
        · have h := hT1b c1
          refine q_aload_n ok dX10_goesThrough_179 0 rfl ?_
          refine q_iload_n ok dX10_goesThrough_180 2 rfl ?_
          refine q_callVV (st := []) ok cs_X10_411 kM_0 rfl (c_X10_comesTo X.2.1 Y ok.2.2.2.2.2.2.2.2 h) ⟨rfl, rfl, Nat.le_of_ble_eq_true rfl, Nat.le_of_ble_eq_true rfl⟩ rfl rfl (Nat.le_of_ble_eq_true rfl) dX10_goesThrough_181 (fun σ1 h => ?_)
          refine q_goto (tgt := 206) ok dX10_goesThrough_184 (by decide) ?_
          exact q_vret ok dX10_goesThrough_206 h
    · have h := hT4b c4
      refine q_aload_n ok dX10_goesThrough_138 0 rfl ?_
      refine q_getI ok fl_X10_393 kM_0 fM_0_67 dX10_goesThrough_139 ?_
      refine q_iload ok dX10_goesThrough_142 3 rfl ?_
      refine q_ishr ok dX10_goesThrough_144 ?_
      refine q_iconst ok dX10_goesThrough_145 ?_
      refine q_iand ok dX10_goesThrough_146 ?_
      refine q_iconst ok dX10_goesThrough_147 ?_
      obtain ⟨g5, hT3a, hT3b⟩ := h
      refine q_icmp_ne (tgt := 160) ok dX10_goesThrough_148 (by decide) g5 (by unfold inR; decide) (fun c3 => ?_) (fun c3 => ?_)
      · have h := hT3a c3
        refine q_iinc (lv' := [(4, .inl (v4 + 1)), (0, .inr (.inr 0)), (1, .inl v1), (3, .inl v3)]) ok dX10_goesThrough_160 3 rfl (by decide) rfl ?_
        refine q_goto (tgt := 129) ok dX10_goesThrough_163 (by decide) ?_
        refine q_sub [1, 2, 3, 0] rfl ?_
        exact ih σ v1 v3 (v4 + 1) h
      · have h := hT3b c3
        refine q_aload_n ok dX10_goesThrough_151 0 rfl ?_
        refine q_bipush ok dX10_goesThrough_152 rfl ?_
        refine q_iload ok dX10_goesThrough_154 3 rfl ?_
        refine q_iadd ok dX10_goesThrough_156 ?_
        refine q_callVV (st := []) ok cs_X10_411 kM_0 rfl (c_X10_comesTo X.2.1 Y ok.2.2.2.2.2.2.2.2 h) ⟨rfl, rfl, Nat.le_of_ble_eq_true rfl, Nat.le_of_ble_eq_true rfl⟩ rfl rfl (Nat.le_of_ble_eq_true rfl) dX10_goesThrough_157 (fun σ2 h => ?_)
        refine q_iinc (lv' := [(4, .inl (v4 + 1)), (0, .inr (.inr 0)), (1, .inl v1), (3, .inl v3)]) ok dX10_goesThrough_160 3 rfl (by decide) rfl ?_
        refine q_goto (tgt := 129) ok dX10_goesThrough_163 (by decide) ?_
        refine q_sub [1, 2, 3, 0] rfl ?_
        exact ih σ2 v1 v3 (v4 + 1) h
set_option maxRecDepth 100000 in
set_option maxHeartbeats 4000000 in
theorem w_X10_goesThrough_L78 {X : Cx} {Y : Cy} {Q : St → Prop} (ok : Ok X Y KM cX10_goesThrough 5 RX10 (rm0q 5 116) none) : ∀ (n : Nat) (σ : St) (v1 : Int) (v3 : Int) , f_X10_goesThrough_L78 Q n σ v1 v3 → Wq X Y KM 5 (QF X Y (Qvq Y KM Q)) σ 78 [(0, .inr (.inr 0)), (1, .inl v1), (3, .inl v3)] [] := by
  intro n
  induction n with
  | zero => intro σ v1 v3 h; exact h.elim
  | succ n ih =>
    intro σ v1 v3 h
    rw [f_X10_goesThrough_L78] at h
    refine q_aload_n ok dX10_goesThrough_78 0 rfl ?_
    refine q_getI ok fl_X10_292 kM_0 fM_0_48 dX10_goesThrough_79 ?_
    refine q_iconst ok dX10_goesThrough_82 ?_
    obtain ⟨g1, hT3a, hT3b⟩ := h
    refine q_icmp_ne (tgt := 93) ok dX10_goesThrough_83 (by decide) g1 (by unfold inR; decide) (fun c3 => ?_) (fun c3 => ?_)
    · have h := hT3a c3
      exact w_X10_goesThrough_J93 ok ih σ v1 v3 h
    · have h := hT3b c3
      refine q_aload_n ok dX10_goesThrough_86 0 rfl ?_
      refine q_getI ok fl_X10_390 kM_0 fM_0_66 dX10_goesThrough_87 ?_
      obtain ⟨g2, hT2a, hT2b⟩ := h
      refine q_if_le (tgt := 116) ok dX10_goesThrough_90 (by decide) g2 (fun c2 => ?_) (fun c2 => ?_)
      · have h := hT2a c2
        refine q_aload_n ok dX10_goesThrough_116 0 rfl ?_
        refine q_getC ok fl_X10_119 kM_0 fM_0_59 dX10_goesThrough_117 ?_
        refine q_iconst ok dX10_goesThrough_120 ?_
        refine q_iald ok kM_ok kM_37 (by decide) (by decide) dX10_goesThrough_121 ?_
        obtain ⟨g3, hT1a, hT1b⟩ := h
        refine q_if_ne (tgt := 126) ok dX10_goesThrough_122 (by decide) g3 (fun c1 => ?_) (fun c1 => ?_)
        · have h := hT1a c1
          refine q_iconst ok dX10_goesThrough_126 ?_
          refine q_istore (lv' := [(4, .inl 0), (0, .inr (.inr 0)), (1, .inl v1), (3, .inl v3)]) ok dX10_goesThrough_127 (by decide) rfl ?_
          refine q_sub [1, 2, 3, 0] rfl ?_
          exact w_X10_goesThrough_L129 ok FU σ v1 v3 0 h
        · have h := hT1b c1
          exact q_vret ok dX10_goesThrough_125 h
      · have h := hT2b c2
        exact w_X10_goesThrough_J93 ok ih σ v1 v3 h
set_option maxRecDepth 100000 in
set_option maxHeartbeats 4000000 in
theorem w_X10_goesThrough_J48 {X : Cx} {Y : Cy} {Q : St → Prop} (ok : Ok X Y KM cX10_goesThrough 5 RX10 (rm0q 5 116) none) (σ : St) (v1 : Int) (v2 : Int) (v3 : Int) (h : f_X10_goesThrough_J48 Q σ v1 v2 v3) : Wq X Y KM 5 (QF X Y (Qvq Y KM Q)) σ 48 [(0, .inr (.inr 0)), (1, .inl v1), (2, .inl v2), (3, .inl v3)] [] := by
  unfold f_X10_goesThrough_J48 at h
  refine q_aload_n ok dX10_goesThrough_48 0 rfl ?_
  refine q_iconst ok dX10_goesThrough_49 ?_
  refine q_putI ok fp_X10_393 kM_0 fM_0_67 dX10_goesThrough_50 (wq_s (fun σ1 eσ1 => ?_))
  have h := h σ1 eσ1
  refine q_aload_n ok dX10_goesThrough_53 0 rfl ?_
  refine q_iconst ok dX10_goesThrough_54 ?_
  refine q_putI ok fp_X10_396 kM_0 fM_0_68 dX10_goesThrough_55 (wq_s (fun σ2 eσ2 => ?_))
  have h := h σ2 eσ2
  refine q_aload_n ok dX10_goesThrough_58 0 rfl ?_
  refine q_iconst ok dX10_goesThrough_59 ?_
  refine q_putI ok fp_X10_390 kM_0 fM_0_66 dX10_goesThrough_60 (wq_s (fun σ3 eσ3 => ?_))
  have h := h σ3 eσ3
  refine q_aload_n ok dX10_goesThrough_63 0 rfl ?_
  refine q_iload_n ok dX10_goesThrough_64 2 rfl ?_
  refine q_putI ok fp_X10_289 kM_0 fM_0_49 dX10_goesThrough_65 (wq_s (fun σ4 eσ4 => ?_))
  have h := h σ4 eσ4
  refine q_aload_n ok dX10_goesThrough_68 0 rfl ?_
  refine q_aload_n ok dX10_goesThrough_69 0 rfl ?_
  refine q_getC ok fl_X10_58 kM_0 fM_0_22 dX10_goesThrough_70 ?_
  refine q_iload_n ok dX10_goesThrough_73 2 rfl ?_
  obtain ⟨g1, g2, h⟩ := h
  refine q_iald ok kM_ok kM_17 g1 g2 dX10_goesThrough_74 ?_
  refine q_putI ok fp_X10_292 kM_0 fM_0_48 dX10_goesThrough_75 (wq_s (fun σ5 eσ5 => ?_))
  have h := h σ5 eσ5
  refine q_sub [0, 1, 3] rfl ?_
  exact w_X10_goesThrough_L78 ok FU σ5 v1 v3 h
set_option maxRecDepth 100000 in
set_option maxHeartbeats 4000000 in
theorem c_X10_goesThrough (l : Launch) (Y : Cy) (hD : ∀ σ, va_D Y.2.2.2 (wsOf KM Y.2.1 Y.2.2.1 σ)) {a0 : Int} {a1 : Int} {σ : St} {Q : St → Prop} (h : f_X10_goesThrough a0 a1 σ Q) : ConV l yX10_goesThrough cX10_goesThrough 5 (rm0q 5 116) Y KM σ [.inr (.inr 0), .inl a0, .inl a1] Q := con_of (lv := [(0, .inr (.inr 0)), (1, .inl a0), (2, .inl a1)]) (by decide) hD (Nat.le_of_ble_eq_true rfl) rfl (fun X _ ok => by
  have ok : Ok X Y KM cX10_goesThrough 5 RX10 (rm0q 5 116) none := ok
  unfold f_X10_goesThrough at h
  refine q_aload_n ok dX10_goesThrough_0 0 rfl ?_
  refine q_getC ok fl_X10_64 kM_0 fM_0_24 dX10_goesThrough_1 ?_
  refine q_iload_n ok dX10_goesThrough_4 2 rfl ?_
  obtain ⟨g1, g2, h⟩ := h
  refine q_iald ok kM_ok kM_19 g1 g2 dX10_goesThrough_5 ?_
  refine wq_i (fun x1 ex1 => ?_)
  have h := h x1 ex1
  refine q_istore_n (lv' := [(3, .inl x1), (0, .inr (.inr 0)), (1, .inl a0), (2, .inl a1)]) ok dX10_goesThrough_6 (by decide) rfl ?_
  refine q_aload_n ok dX10_goesThrough_7 1 rfl ?_
  refine q_getC ok fl_X10_116 kM_0 fM_0_58 dX10_goesThrough_8 ?_
  refine q_bipush ok dX10_goesThrough_11 rfl ?_
  refine q_iload_n ok dX10_goesThrough_13 2 rfl ?_
  refine q_imul ok dX10_goesThrough_14 ?_
  refine q_aload_n ok dX10_goesThrough_15 1 rfl ?_
  refine q_getC ok fl_X10_119 kM_0 fM_0_59 dX10_goesThrough_16 ?_
  refine q_iconst ok dX10_goesThrough_19 ?_
  refine q_callSV (st := []) ok cs_X10_371 (c_X10_copies X.2.1 Y ok.2.2.2.2.2.2.2.2 h) ⟨rfl, rfl, Nat.le_of_ble_eq_true rfl, Nat.le_of_ble_eq_true rfl⟩ rfl rfl (Nat.le_of_ble_eq_true rfl) dX10_goesThrough_20 (fun σ1 h => ?_)
  refine q_iload_n ok dX10_goesThrough_23 2 rfl ?_
  refine q_bipush ok dX10_goesThrough_24 rfl ?_
  obtain ⟨g3, hT2a, hT2b⟩ := h
  refine q_icmp_ge (tgt := 48) ok dX10_goesThrough_26 (by decide) g3 (by unfold inR; decide) (fun c2 => ?_) (fun c2 => ?_)
  · have h := hT2a c2
    refine q_sub [1, 2, 3, 0] rfl ?_
    exact w_X10_goesThrough_J48 ok σ1 a0 a1 x1 h
  · have h := hT2b c2
    refine q_aload_n ok dX10_goesThrough_29 1 rfl ?_
    refine q_getC ok fl_X10_70 kM_0 fM_0_27 dX10_goesThrough_30 ?_
    refine q_iload_n ok dX10_goesThrough_33 2 rfl ?_
    obtain ⟨g4, g5, h⟩ := h
    refine q_zald ok kM_ok kM_21 g4 g5 dX10_goesThrough_34 ?_
    obtain ⟨g6, hT1a, hT1b⟩ := h
    refine q_if_eq (tgt := 48) ok dX10_goesThrough_35 (by decide) g6 (fun c1 => ?_) (fun c1 => ?_)
    · have h := hT1a c1
      refine q_sub [1, 2, 3, 0] rfl ?_
      exact w_X10_goesThrough_J48 ok σ1 a0 a1 x1 h
    · have h := hT1b c1
      refine q_aload_n ok dX10_goesThrough_38 1 rfl ?_
      refine q_getC ok fl_X10_119 kM_0 fM_0_59 dX10_goesThrough_39 ?_
      refine q_bipush ok dX10_goesThrough_42 rfl ?_
      refine q_iconst ok dX10_goesThrough_44 ?_
      refine q_iload_n ok dX10_goesThrough_45 2 rfl ?_
      refine q_ishl ok dX10_goesThrough_46 ?_
      refine q_iast ok kM_ok kM_37 (by decide) (by decide) dX10_goesThrough_47 (wq_s (fun σ2 eσ2 => ?_))
      have h := h σ2 eσ2
      refine q_sub [1, 2, 3, 0] rfl ?_
      exact w_X10_goesThrough_J48 ok σ2 a0 a1 x1 h)
/-! BranchingStoryModel.begins()V -/
def f_X10_begins_L31 (Q : St → Prop) : Nat → St → Int → Prop
  | 0, _, _ => False
  | n + 1, σ, v1 => inR v1 ∧ ((6 ≤ v1 → ∀ σ1 : St, σ1 = sset σ 36 8 4096 → Q σ1) ∧ (¬ 6 ≤ v1 → ∀ σ2 : St, σ2 = sset σ 36 7 (ior32 (σ 36 7) (ishl32 1 (2 * v1))) → f_X10_begins_L31 Q n σ2 (v1 + 1)))
def f_X10_begins_L2 (Q : St → Prop) : Nat → St → Int → Prop
  | 0, _, _ => False
  | n + 1, σ, v1 => inR v1 ∧ ((252 ≤ v1 → ∀ σ1 : St, σ1 = sset σ 36 0 1 → f_X10_begins_L31 Q FU σ1 0) ∧ (¬ 252 ≤ v1 → 0 ≤ v1 ∧ v1 < 252 ∧ ∀ σ2 : St, σ2 = sset σ 36 v1.toNat 0 → f_X10_begins_L2 Q n σ2 (v1 + 1)))
def f_X10_begins (σ : St) (Q : St → Prop) : Prop :=
  f_X10_begins_L2 Q FU σ 0
set_option maxRecDepth 100000 in
set_option maxHeartbeats 4000000 in
theorem w_X10_begins_L31 {X : Cx} {Y : Cy} {Q : St → Prop} (ok : Ok X Y KM cX10_begins 2 RX10 (rm0q 0 0) none) : ∀ (n : Nat) (σ : St) (v1 : Int) , f_X10_begins_L31 Q n σ v1 → Wq X Y KM 2 (QF X Y (Qvq Y KM Q)) σ 31 [(0, .inr (.inr 0)), (1, .inl v1)] [] := by
  intro n
  induction n with
  | zero => intro σ v1 h; exact h.elim
  | succ n ih =>
    intro σ v1 h
    rw [f_X10_begins_L31] at h
    refine q_iload_n ok dX10_begins_31 1 rfl ?_
    refine q_bipush ok dX10_begins_32 rfl ?_
    obtain ⟨g1, hT1a, hT1b⟩ := h
    refine q_icmp_ge (tgt := 58) ok dX10_begins_34 (by decide) g1 (by unfold inR; decide) (fun c1 => ?_) (fun c1 => ?_)
    · have h := hT1a c1
      refine q_aload_n ok dX10_begins_58 0 rfl ?_
      refine q_getC ok fl_X10_116 kM_0 fM_0_58 dX10_begins_59 ?_
      refine q_bipush ok dX10_begins_62 rfl ?_
      refine q_sipush ok dX10_begins_64 rfl ?_
      refine q_iast ok kM_ok kM_36 (by decide) (by decide) dX10_begins_67 (wq_s (fun σ1 eσ1 => ?_))
      have h := h σ1 eσ1
      exact q_vret ok dX10_begins_68 h
    · have h := hT1b c1
      refine q_aload_n ok dX10_begins_37 0 rfl ?_
      refine q_getC ok fl_X10_116 kM_0 fM_0_58 dX10_begins_38 ?_
      refine q_bipush ok dX10_begins_41 rfl ?_
      refine q_dup2 ok dX10_begins_43 rfl rfl ?_
      refine q_iald ok kM_ok kM_36 (by decide) (by decide) dX10_begins_44 ?_
      refine q_iconst ok dX10_begins_45 ?_
      refine q_iconst ok dX10_begins_46 ?_
      refine q_iload_n ok dX10_begins_47 1 rfl ?_
      refine q_imul ok dX10_begins_48 ?_
      refine q_ishl ok dX10_begins_49 ?_
      refine q_ior ok dX10_begins_50 ?_
      refine q_iast ok kM_ok kM_36 (by decide) (by decide) dX10_begins_51 (wq_s (fun σ2 eσ2 => ?_))
      have h := h σ2 eσ2
      refine q_iinc (lv' := [(1, .inl (v1 + 1)), (0, .inr (.inr 0))]) ok dX10_begins_52 1 rfl (by decide) rfl ?_
      refine q_goto (tgt := 31) ok dX10_begins_55 (by decide) ?_
      refine q_sub [1, 0] rfl ?_
      exact ih σ2 (v1 + 1) h
set_option maxRecDepth 100000 in
set_option maxHeartbeats 4000000 in
theorem w_X10_begins_L2 {X : Cx} {Y : Cy} {Q : St → Prop} (ok : Ok X Y KM cX10_begins 2 RX10 (rm0q 0 0) none) : ∀ (n : Nat) (σ : St) (v1 : Int) , f_X10_begins_L2 Q n σ v1 → Wq X Y KM 2 (QF X Y (Qvq Y KM Q)) σ 2 [(0, .inr (.inr 0)), (1, .inl v1)] [] := by
  intro n
  induction n with
  | zero => intro σ v1 h; exact h.elim
  | succ n ih =>
    intro σ v1 h
    rw [f_X10_begins_L2] at h
    refine q_iload_n ok dX10_begins_2 1 rfl ?_
    refine q_sipush ok dX10_begins_3 rfl ?_
    obtain ⟨g1, hT1a, hT1b⟩ := h
    refine q_icmp_ge (tgt := 22) ok dX10_begins_6 (by decide) g1 (by unfold inR; decide) (fun c1 => ?_) (fun c1 => ?_)
    · have h := hT1a c1
      refine q_aload_n ok dX10_begins_22 0 rfl ?_
      refine q_getC ok fl_X10_116 kM_0 fM_0_58 dX10_begins_23 ?_
      refine q_iconst ok dX10_begins_26 ?_
      refine q_iconst ok dX10_begins_27 ?_
      refine q_iast ok kM_ok kM_36 (by decide) (by decide) dX10_begins_28 (wq_s (fun σ1 eσ1 => ?_))
      have h := h σ1 eσ1
      refine q_iconst ok dX10_begins_29 ?_
      refine q_istore_n (lv' := [(1, .inl 0), (0, .inr (.inr 0))]) ok dX10_begins_30 (by decide) rfl ?_
      refine q_sub [1, 0] rfl ?_
      exact w_X10_begins_L31 ok FU σ1 0 h
    · have h := hT1b c1
      refine q_aload_n ok dX10_begins_9 0 rfl ?_
      refine q_getC ok fl_X10_116 kM_0 fM_0_58 dX10_begins_10 ?_
      refine q_iload_n ok dX10_begins_13 1 rfl ?_
      refine q_iconst ok dX10_begins_14 ?_
      obtain ⟨g2, g3, h⟩ := h
      refine q_iast ok kM_ok kM_36 g2 g3 dX10_begins_15 (wq_s (fun σ2 eσ2 => ?_))
      have h := h σ2 eσ2
      refine q_iinc (lv' := [(1, .inl (v1 + 1)), (0, .inr (.inr 0))]) ok dX10_begins_16 1 rfl (by decide) rfl ?_
      refine q_goto (tgt := 2) ok dX10_begins_19 (by decide) ?_
      refine q_sub [1, 0] rfl ?_
      exact ih σ2 (v1 + 1) h
set_option maxRecDepth 100000 in
set_option maxHeartbeats 4000000 in
theorem c_X10_begins (l : Launch) (Y : Cy) (hD : ∀ σ, va_D Y.2.2.2 (wsOf KM Y.2.1 Y.2.2.1 σ)) {σ : St} {Q : St → Prop} (h : f_X10_begins  σ Q) : ConV l yX10_begins cX10_begins 2 (rm0q 0 0) Y KM σ [.inr (.inr 0)] Q := con_of (lv := [(0, .inr (.inr 0))]) (by decide) hD (Nat.le_of_ble_eq_true rfl) rfl (fun X _ ok => by
  have ok : Ok X Y KM cX10_begins 2 RX10 (rm0q 0 0) none := ok
  unfold f_X10_begins at h
  refine q_iconst ok dX10_begins_0 ?_
  refine q_istore_n (lv' := [(1, .inl 0), (0, .inr (.inr 0))]) ok dX10_begins_1 (by decide) rfl ?_
  refine q_sub [1, 0] rfl ?_
  exact w_X10_begins_L2 ok FU σ 0 h)
/-! BranchingStoryModel.analyze()I -/
def f_X10_analyze_L112 (k27 : St → Prop) (Q : St → Int → Prop) : Nat → St → Int → Prop
  | 0, _, _ => False
  | n + 1, σ, v1 => inR v1 ∧ inR (σ 0 32) ∧ (((σ 0 32) ≤ v1 → k27 σ) ∧ (¬ (σ 0 32) ≤ v1 → 0 ≤ (9 * (12 + v1)) ∧ (9 * (12 + v1)) < 252 ∧ inR (σ 36 (9 * (12 + v1)).toNat) ∧ ((¬ (σ 36 (9 * (12 + v1)).toNat) = 1 → f_X10_analyze_L112 k27 Q n σ (v1 + 1)) ∧ ((σ 36 (9 * (12 + v1)).toNat) = 1 → 0 ≤ v1 ∧ v1 < 16 ∧ 0 ≤ (σ 24 v1.toNat) ∧ (σ 24 v1.toNat) < 401 ∧ f_X10_goesThrough (12 + v1) (σ 8 (σ 24 v1.toNat).toNat) σ (fun σ1 => f_X10_analyze_L112 k27 Q n σ1 (v1 + 1))))))
def f_X10_analyze_L72 (k27 : St → Prop) (Q : St → Int → Prop) : Nat → St → Int → Prop
  | 0, _, _ => False
  | n + 1, σ, v1 => inR v1 ∧ inR (σ 0 30) ∧ (((σ 0 30) ≤ v1 → f_X10_analyze_L112 k27 Q FU σ 0) ∧ (¬ (σ 0 30) ≤ v1 → 0 ≤ (9 * v1) ∧ (9 * v1) < 252 ∧ inR (σ 36 (9 * v1).toNat) ∧ ((¬ (σ 36 (9 * v1).toNat) = 1 → f_X10_analyze_L72 k27 Q n σ (v1 + 1)) ∧ ((σ 36 (9 * v1).toNat) = 1 → 0 ≤ v1 ∧ v1 < 12 ∧ f_X10_goesThrough v1 (σ 22 v1.toNat) σ (fun σ1 => f_X10_analyze_L72 k27 Q n σ1 (v1 + 1))))))
def f_X10_analyze_L51 (k27 : St → Prop) (Q : St → Int → Prop) : Nat → St → Int → Prop
  | 0, _, _ => False
  | n + 1, σ, v1 => inR v1 ∧ ((16 ≤ v1 → f_X10_analyze_L72 k27 Q FU σ 0) ∧ (¬ 16 ≤ v1 → 0 ≤ v1 ∧ v1 < 16 ∧ ∀ σ1 : St, σ1 = sset σ 44 v1.toNat 0 → f_X10_analyze_L51 k27 Q n σ1 (v1 + 1)))
def f_X10_analyze_L173 (Q : St → Int → Prop) : Nat → St → Int → Int → Prop
  | 0, _, _, _ => False
  | n + 1, σ, v1, v2 => inR v2 ∧ inR (σ 0 30) ∧ (((σ 0 30) ≤ v2 → Q σ v1) ∧ (¬ (σ 0 30) ≤ v2 → 0 ≤ (9 * v2) ∧ (9 * v2) < 252 ∧ ∀ x1 : Int, x1 = (v1 + (σ 36 (9 * v2).toNat)) → f_X10_analyze_L173 Q n σ x1 (v2 + 1)))
def f_X10_analyze_L27 (Q : St → Int → Prop) : Nat → St → Prop
  | 0, _ => False
  | n + 1, σ => inR (σ 0 69) ∧ (((σ 0 69) = 0 → ∀ σ1 : St, σ1 = sset σ 0 70 1 → f_X10_analyze_L173 Q FU σ1 0 0) ∧ (¬ (σ 0 69) = 0 → ∀ σ2 : St, σ2 = sset σ 0 69 0 → ∀ σ3 : St, σ3 = sset σ2 0 72 0 → ∀ σ4 : St, σ4 = sset σ3 0 73 0 → f_X10_analyze_L51 (fun σ' => f_X10_analyze_L27 Q n σ' ) Q FU σ4 0))
def f_X10_analyze (σ : St) (Q : St → Int → Prop) : Prop :=
  ∀ σ1 : St, σ1 = sset σ 0 5 0 → inR (σ1 0 4) ∧ ((¬ (σ1 0 4) = 0 → f_X10_begins σ1 (fun σ2 => ∀ σ3 : St, σ3 = sset σ2 0 69 1 → f_X10_analyze_L27 Q FU σ3)) ∧ ((σ1 0 4) = 0 → f_X10_fails 1 σ1 (fun σ4 r1 => Q σ4 r1)))
set_option maxRecDepth 100000 in
set_option maxHeartbeats 4000000 in
theorem w_X10_analyze_L112 {X : Cx} {Y : Cy} {k27 : St → Prop} {Q : St → Int → Prop} (ok : Ok X Y KM cX10_analyze 3 RX10 (rm0q 6 140) (some .int)) (hk27 : ∀ (σ : St) , k27 σ  → Wq X Y KM 3 (QF X Y (Qiq Y KM Q)) σ 27 [(0, .inr (.inr 0))] []) : ∀ (n : Nat) (σ : St) (v1 : Int) , f_X10_analyze_L112 k27 Q n σ v1 → Wq X Y KM 3 (QF X Y (Qiq Y KM Q)) σ 112 [(0, .inr (.inr 0)), (1, .inl v1)] [] := by
  intro n
  induction n with
  | zero => intro σ v1 h; exact h.elim
  | succ n ih =>
    intro σ v1 h
    rw [f_X10_analyze_L112] at h
    refine q_iload_n ok dX10_analyze_112 1 rfl ?_
    refine q_aload_n ok dX10_analyze_113 0 rfl ?_
    refine q_getI ok fl_X10_222 kM_0 fM_0_32 dX10_analyze_114 ?_
    obtain ⟨g1, g2, hT2a, hT2b⟩ := h
    refine q_icmp_ge (tgt := 161) ok dX10_analyze_117 (by decide) g1 g2 (fun c2 => ?_) (fun c2 => ?_)
    · have h := hT2a c2
      refine q_goto (tgt := 27) ok dX10_analyze_161 (by decide) ?_
      refine q_sub [0] rfl ?_
      exact hk27 σ h
    · have h := hT2b c2
      refine q_aload_n ok dX10_analyze_120 0 rfl ?_
      refine q_getC ok fl_X10_116 kM_0 fM_0_58 dX10_analyze_121 ?_
      refine q_bipush ok dX10_analyze_124 rfl ?_
      refine q_bipush ok dX10_analyze_126 rfl ?_
      refine q_iload_n ok dX10_analyze_128 1 rfl ?_
      refine q_iadd ok dX10_analyze_129 ?_
      refine q_imul ok dX10_analyze_130 ?_
      obtain ⟨g3, g4, h⟩ := h
      refine q_iald ok kM_ok kM_36 g3 g4 dX10_analyze_131 ?_
      refine q_iconst ok dX10_analyze_132 ?_
      obtain ⟨g5, hT1a, hT1b⟩ := h
      refine q_icmp_ne (tgt := 155) ok dX10_analyze_133 (by decide) g5 (by unfold inR; decide) (fun c1 => ?_) (fun c1 => ?_)
      · have h := hT1a c1
        refine q_iinc (lv' := [(1, .inl (v1 + 1)), (0, .inr (.inr 0))]) ok dX10_analyze_155 1 rfl (by decide) rfl ?_
        refine q_goto (tgt := 112) ok dX10_analyze_158 (by decide) ?_
        refine q_sub [1, 0] rfl ?_
        exact ih σ (v1 + 1) h
      · have h := hT1b c1
        refine q_aload_n ok dX10_analyze_136 0 rfl ?_
        refine q_bipush ok dX10_analyze_137 rfl ?_
        refine q_iload_n ok dX10_analyze_139 1 rfl ?_
        refine q_iadd ok dX10_analyze_140 ?_
        refine q_aload_n ok dX10_analyze_141 0 rfl ?_
        refine q_getC ok fl_X10_31 kM_0 fM_0_11 dX10_analyze_142 ?_
        refine q_aload_n ok dX10_analyze_145 0 rfl ?_
        refine q_getC ok fl_X10_80 kM_0 fM_0_31 dX10_analyze_146 ?_
        refine q_iload_n ok dX10_analyze_149 1 rfl ?_
        obtain ⟨g6, g7, h⟩ := h
        refine q_iald ok kM_ok kM_24 g6 g7 dX10_analyze_150 ?_
        obtain ⟨g8, g9, h⟩ := h
        refine q_iald ok kM_ok kM_8 g8 g9 dX10_analyze_151 ?_
        refine q_callVV (st := []) ok cs_X10_441 kM_0 rfl (c_X10_goesThrough X.2.1 Y ok.2.2.2.2.2.2.2.2 h) ⟨rfl, rfl, Nat.le_of_ble_eq_true rfl, Nat.le_of_ble_eq_true rfl⟩ rfl rfl (Nat.le_of_ble_eq_true rfl) dX10_analyze_152 (fun σ1 h => ?_)
        refine q_iinc (lv' := [(1, .inl (v1 + 1)), (0, .inr (.inr 0))]) ok dX10_analyze_155 1 rfl (by decide) rfl ?_
        refine q_goto (tgt := 112) ok dX10_analyze_158 (by decide) ?_
        refine q_sub [1, 0] rfl ?_
        exact ih σ1 (v1 + 1) h
set_option maxRecDepth 100000 in
set_option maxHeartbeats 4000000 in
theorem w_X10_analyze_L72 {X : Cx} {Y : Cy} {k27 : St → Prop} {Q : St → Int → Prop} (ok : Ok X Y KM cX10_analyze 3 RX10 (rm0q 6 140) (some .int)) (hk27 : ∀ (σ : St) , k27 σ  → Wq X Y KM 3 (QF X Y (Qiq Y KM Q)) σ 27 [(0, .inr (.inr 0))] []) : ∀ (n : Nat) (σ : St) (v1 : Int) , f_X10_analyze_L72 k27 Q n σ v1 → Wq X Y KM 3 (QF X Y (Qiq Y KM Q)) σ 72 [(0, .inr (.inr 0)), (1, .inl v1)] [] := by
  intro n
  induction n with
  | zero => intro σ v1 h; exact h.elim
  | succ n ih =>
    intro σ v1 h
    rw [f_X10_analyze_L72] at h
    refine q_iload_n ok dX10_analyze_72 1 rfl ?_
    refine q_aload_n ok dX10_analyze_73 0 rfl ?_
    refine q_getI ok fl_X10_195 kM_0 fM_0_30 dX10_analyze_74 ?_
    obtain ⟨g1, g2, hT2a, hT2b⟩ := h
    refine q_icmp_ge (tgt := 110) ok dX10_analyze_77 (by decide) g1 g2 (fun c2 => ?_) (fun c2 => ?_)
    · have h := hT2a c2
      refine q_iconst ok dX10_analyze_110 ?_
      refine q_istore_n (lv' := [(1, .inl 0), (0, .inr (.inr 0))]) ok dX10_analyze_111 (by decide) rfl ?_
      refine q_sub [1, 0] rfl ?_
      exact w_X10_analyze_L112 ok hk27 FU σ 0 h
    · have h := hT2b c2
      refine q_aload_n ok dX10_analyze_80 0 rfl ?_
      refine q_getC ok fl_X10_116 kM_0 fM_0_58 dX10_analyze_81 ?_
      refine q_bipush ok dX10_analyze_84 rfl ?_
      refine q_iload_n ok dX10_analyze_86 1 rfl ?_
      refine q_imul ok dX10_analyze_87 ?_
      obtain ⟨g3, g4, h⟩ := h
      refine q_iald ok kM_ok kM_36 g3 g4 dX10_analyze_88 ?_
      refine q_iconst ok dX10_analyze_89 ?_
      obtain ⟨g5, hT1a, hT1b⟩ := h
      refine q_icmp_ne (tgt := 104) ok dX10_analyze_90 (by decide) g5 (by unfold inR; decide) (fun c1 => ?_) (fun c1 => ?_)
      · have h := hT1a c1
        refine q_iinc (lv' := [(1, .inl (v1 + 1)), (0, .inr (.inr 0))]) ok dX10_analyze_104 1 rfl (by decide) rfl ?_
        refine q_goto (tgt := 72) ok dX10_analyze_107 (by decide) ?_
        refine q_sub [1, 0] rfl ?_
        exact ih σ (v1 + 1) h
      · have h := hT1b c1
        refine q_aload_n ok dX10_analyze_93 0 rfl ?_
        refine q_iload_n ok dX10_analyze_94 1 rfl ?_
        refine q_aload_n ok dX10_analyze_95 0 rfl ?_
        refine q_getC ok fl_X10_74 kM_0 fM_0_28 dX10_analyze_96 ?_
        refine q_iload_n ok dX10_analyze_99 1 rfl ?_
        obtain ⟨g6, g7, h⟩ := h
        refine q_iald ok kM_ok kM_22 g6 g7 dX10_analyze_100 ?_
        refine q_callVV (st := []) ok cs_X10_441 kM_0 rfl (c_X10_goesThrough X.2.1 Y ok.2.2.2.2.2.2.2.2 h) ⟨rfl, rfl, Nat.le_of_ble_eq_true rfl, Nat.le_of_ble_eq_true rfl⟩ rfl rfl (Nat.le_of_ble_eq_true rfl) dX10_analyze_101 (fun σ1 h => ?_)
        refine q_iinc (lv' := [(1, .inl (v1 + 1)), (0, .inr (.inr 0))]) ok dX10_analyze_104 1 rfl (by decide) rfl ?_
        refine q_goto (tgt := 72) ok dX10_analyze_107 (by decide) ?_
        refine q_sub [1, 0] rfl ?_
        exact ih σ1 (v1 + 1) h
set_option maxRecDepth 100000 in
set_option maxHeartbeats 4000000 in
theorem w_X10_analyze_L51 {X : Cx} {Y : Cy} {k27 : St → Prop} {Q : St → Int → Prop} (ok : Ok X Y KM cX10_analyze 3 RX10 (rm0q 6 140) (some .int)) (hk27 : ∀ (σ : St) , k27 σ  → Wq X Y KM 3 (QF X Y (Qiq Y KM Q)) σ 27 [(0, .inr (.inr 0))] []) : ∀ (n : Nat) (σ : St) (v1 : Int) , f_X10_analyze_L51 k27 Q n σ v1 → Wq X Y KM 3 (QF X Y (Qiq Y KM Q)) σ 51 [(0, .inr (.inr 0)), (1, .inl v1)] [] := by
  intro n
  induction n with
  | zero => intro σ v1 h; exact h.elim
  | succ n ih =>
    intro σ v1 h
    rw [f_X10_analyze_L51] at h
    refine q_iload_n ok dX10_analyze_51 1 rfl ?_
    refine q_bipush ok dX10_analyze_52 rfl ?_
    obtain ⟨g1, hT1a, hT1b⟩ := h
    refine q_icmp_ge (tgt := 70) ok dX10_analyze_54 (by decide) g1 (by unfold inR; decide) (fun c1 => ?_) (fun c1 => ?_)
    · have h := hT1a c1
      refine q_iconst ok dX10_analyze_70 ?_
      refine q_istore_n (lv' := [(1, .inl 0), (0, .inr (.inr 0))]) ok dX10_analyze_71 (by decide) rfl ?_
      refine q_sub [1, 0] rfl ?_
      exact w_X10_analyze_L72 ok hk27 FU σ 0 h
    · have h := hT1b c1
      refine q_aload_n ok dX10_analyze_57 0 rfl ?_
      refine q_getC ok fl_X10_140 kM_0 fM_0_71 dX10_analyze_58 ?_
      refine q_iload_n ok dX10_analyze_61 1 rfl ?_
      refine q_iconst ok dX10_analyze_62 ?_
      obtain ⟨g2, g3, h⟩ := h
      refine q_iast ok kM_ok kM_44 g2 g3 dX10_analyze_63 (wq_s (fun σ1 eσ1 => ?_))
      have h := h σ1 eσ1
      refine q_iinc (lv' := [(1, .inl (v1 + 1)), (0, .inr (.inr 0))]) ok dX10_analyze_64 1 rfl (by decide) rfl ?_
      refine q_goto (tgt := 51) ok dX10_analyze_67 (by decide) ?_
      refine q_sub [1, 0] rfl ?_
      exact ih σ1 (v1 + 1) h
set_option maxRecDepth 100000 in
set_option maxHeartbeats 4000000 in
theorem w_X10_analyze_L173 {X : Cx} {Y : Cy} {Q : St → Int → Prop} (ok : Ok X Y KM cX10_analyze 3 RX10 (rm0q 6 140) (some .int)) : ∀ (n : Nat) (σ : St) (v1 : Int) (v2 : Int) , f_X10_analyze_L173 Q n σ v1 v2 → Wq X Y KM 3 (QF X Y (Qiq Y KM Q)) σ 173 [(0, .inr (.inr 0)), (1, .inl v1), (2, .inl v2)] [] := by
  intro n
  induction n with
  | zero => intro σ v1 v2 h; exact h.elim
  | succ n ih =>
    intro σ v1 v2 h
    rw [f_X10_analyze_L173] at h
    refine q_iload_n ok dX10_analyze_173 2 rfl ?_
    refine q_aload_n ok dX10_analyze_174 0 rfl ?_
    refine q_getI ok fl_X10_195 kM_0 fM_0_30 dX10_analyze_175 ?_
    obtain ⟨g1, g2, hT1a, hT1b⟩ := h
    refine q_icmp_ge (tgt := 199) ok dX10_analyze_178 (by decide) g1 g2 (fun c1 => ?_) (fun c1 => ?_)
    · have h := hT1a c1
      refine q_iload_n ok dX10_analyze_199 1 rfl ?_
      exact q_iret ok dX10_analyze_200 h
    · have h := hT1b c1
      refine q_iload_n ok dX10_analyze_181 1 rfl ?_
      refine q_aload_n ok dX10_analyze_182 0 rfl ?_
      refine q_getC ok fl_X10_116 kM_0 fM_0_58 dX10_analyze_183 ?_
      refine q_bipush ok dX10_analyze_186 rfl ?_
      refine q_iload_n ok dX10_analyze_188 2 rfl ?_
      refine q_imul ok dX10_analyze_189 ?_
      obtain ⟨g3, g4, h⟩ := h
      refine q_iald ok kM_ok kM_36 g3 g4 dX10_analyze_190 ?_
      refine q_iadd ok dX10_analyze_191 ?_
      refine wq_i (fun x1 ex1 => ?_)
      have h := h x1 ex1
      refine q_istore_n (lv' := [(1, .inl x1), (0, .inr (.inr 0)), (2, .inl v2)]) ok dX10_analyze_192 (by decide) rfl ?_
      refine q_iinc (lv' := [(2, .inl (v2 + 1)), (1, .inl x1), (0, .inr (.inr 0))]) ok dX10_analyze_193 2 rfl (by decide) rfl ?_
      refine q_goto (tgt := 173) ok dX10_analyze_196 (by decide) ?_
      refine q_sub [2, 1, 0] rfl ?_
      exact ih σ x1 (v2 + 1) h
set_option maxRecDepth 100000 in
set_option maxHeartbeats 4000000 in
theorem w_X10_analyze_L27 {X : Cx} {Y : Cy} {Q : St → Int → Prop} (ok : Ok X Y KM cX10_analyze 3 RX10 (rm0q 6 140) (some .int)) : ∀ (n : Nat) (σ : St) , f_X10_analyze_L27 Q n σ  → Wq X Y KM 3 (QF X Y (Qiq Y KM Q)) σ 27 [(0, .inr (.inr 0))] [] := by
  intro n
  induction n with
  | zero => intro σ  h; exact h.elim
  | succ n ih =>
    intro σ  h
    rw [f_X10_analyze_L27] at h
    refine q_aload_n ok dX10_analyze_27 0 rfl ?_
    refine q_getI ok fl_X10_378 kM_0 fM_0_69 dX10_analyze_28 ?_
    obtain ⟨g1, hT1a, hT1b⟩ := h
    refine q_if_eq (tgt := 164) ok dX10_analyze_31 (by decide) g1 (fun c1 => ?_) (fun c1 => ?_)
    · have h := hT1a c1
      refine q_aload_n ok dX10_analyze_164 0 rfl ?_
      refine q_iconst ok dX10_analyze_165 ?_
      refine q_putZ ok fp_X10_273 kM_0 fM_0_70 dX10_analyze_166 (by decide) (wq_s (fun σ1 eσ1 => ?_))
      have h := h σ1 eσ1
      refine q_iconst ok dX10_analyze_169 ?_
      refine q_istore_n (lv' := [(1, .inl 0), (0, .inr (.inr 0))]) ok dX10_analyze_170 (by decide) rfl ?_
      refine q_iconst ok dX10_analyze_171 ?_
      refine q_istore_n (lv' := [(2, .inl 0), (1, .inl 0), (0, .inr (.inr 0))]) ok dX10_analyze_172 (by decide) rfl ?_
      refine q_sub [2, 1, 0] rfl ?_
      exact w_X10_analyze_L173 ok FU σ1 0 0 h
    · have h := hT1b c1
      refine q_aload_n ok dX10_analyze_34 0 rfl ?_
      refine q_iconst ok dX10_analyze_35 ?_
      refine q_putZ ok fp_X10_378 kM_0 fM_0_69 dX10_analyze_36 (by decide) (wq_s (fun σ2 eσ2 => ?_))
      have h := h σ2 eσ2
      refine q_aload_n ok dX10_analyze_39 0 rfl ?_
      refine q_iconst ok dX10_analyze_40 ?_
      refine q_putI ok fp_X10_429 kM_0 fM_0_72 dX10_analyze_41 (wq_s (fun σ3 eσ3 => ?_))
      have h := h σ3 eσ3
      refine q_aload_n ok dX10_analyze_44 0 rfl ?_
      refine q_iconst ok dX10_analyze_45 ?_
      refine q_putI ok fp_X10_414 kM_0 fM_0_73 dX10_analyze_46 (wq_s (fun σ4 eσ4 => ?_))
      have h := h σ4 eσ4
      refine q_iconst ok dX10_analyze_49 ?_
      refine q_istore_n (lv' := [(1, .inl 0), (0, .inr (.inr 0))]) ok dX10_analyze_50 (by decide) rfl ?_
      refine q_sub [1, 0] rfl ?_
      exact w_X10_analyze_L51 ok ih FU σ4 0 h
set_option maxRecDepth 100000 in
set_option maxHeartbeats 4000000 in
theorem c_X10_analyze (l : Launch) (Y : Cy) (hD : ∀ σ, va_D Y.2.2.2 (wsOf KM Y.2.1 Y.2.2.1 σ)) {σ : St} {Q : St → Int → Prop} (h : f_X10_analyze  σ Q) : ConI l yX10_analyze cX10_analyze 3 .int (rm0q 6 140) Y KM σ [.inr (.inr 0)] Q := con_of (lv := [(0, .inr (.inr 0))]) (by decide) hD (Nat.le_of_ble_eq_true rfl) rfl (fun X _ ok => by
  have ok : Ok X Y KM cX10_analyze 3 RX10 (rm0q 6 140) (some .int) := ok
  unfold f_X10_analyze at h
  refine q_aload_n ok dX10_analyze_0 0 rfl ?_
  refine q_iconst ok dX10_analyze_1 ?_
  refine q_putI ok fp_X10_143 kM_0 fM_0_5 dX10_analyze_2 (wq_s (fun σ1 eσ1 => ?_))
  have h := h σ1 eσ1
  refine q_aload_n ok dX10_analyze_5 0 rfl ?_
  refine q_getI ok fl_X10_261 kM_0 fM_0_4 dX10_analyze_6 ?_
  obtain ⟨g1, hT1a, hT1b⟩ := h
  refine q_if_ne (tgt := 18) ok dX10_analyze_9 (by decide) g1 (fun c1 => ?_) (fun c1 => ?_)
  · have h := hT1a c1
    refine q_aload_n ok dX10_analyze_18 0 rfl ?_
    refine q_callVV (st := []) ok cs_X10_438 kM_0 rfl (c_X10_begins X.2.1 Y ok.2.2.2.2.2.2.2.2 h) ⟨rfl, rfl, Nat.le_of_ble_eq_true rfl, Nat.le_of_ble_eq_true rfl⟩ rfl rfl (Nat.le_of_ble_eq_true rfl) dX10_analyze_19 (fun σ2 h => ?_)
    refine q_aload_n ok dX10_analyze_22 0 rfl ?_
    refine q_iconst ok dX10_analyze_23 ?_
    refine q_putZ ok fp_X10_378 kM_0 fM_0_69 dX10_analyze_24 (by decide) (wq_s (fun σ3 eσ3 => ?_))
    have h := h σ3 eσ3
    exact w_X10_analyze_L27 ok FU σ3 h
  · have h := hT1b c1
    refine q_aload_n ok dX10_analyze_12 0 rfl ?_
    refine q_iconst ok dX10_analyze_13 ?_
    refine q_callVI (st := []) ok cs_X10_253 kM_0 rfl (c_X10_fails X.2.1 Y ok.2.2.2.2.2.2.2.2 h) ⟨rfl, rfl, Nat.le_of_ble_eq_true rfl, Nat.le_of_ble_eq_true rfl⟩ rfl rfl (Nat.le_of_ble_eq_true rfl) dX10_analyze_14 (fun σ4 r1 h => ?_)
    exact q_iret ok dX10_analyze_17 h)
/-! BranchingStoryModel.isReached(II)Z -/
def f_X10_isReached_J57 (Q : St → Int → Prop) (σ : St) (v1 : Int) (v2 : Int) (s1 : Int) : Prop :=
  ∀ σ1 : St, σ1 = sset σ 0 5 s1 → inR (σ1 0 5) ∧ ((¬ (σ1 0 5) = 0 → Q σ1 0) ∧ ((σ1 0 5) = 0 → 0 ≤ (9 * ((12 * v1) + v2)) ∧ (9 * ((12 * v1) + v2)) < 252 ∧ inR (σ1 36 (9 * ((12 * v1) + v2)).toNat) ∧ ((¬ (σ1 36 (9 * ((12 * v1) + v2)).toNat) = 1 → Q σ1 0) ∧ ((σ1 36 (9 * ((12 * v1) + v2)).toNat) = 1 → Q σ1 1))))
def f_X10_isReached_J46 (Q : St → Int → Prop) (σ : St) (v1 : Int) (v2 : Int) (s1 : Int) (s2 : Int) (s3 : Int) : Prop :=
  f_X10_in s1 s2 s3 σ (fun σ1 r1 => inR r1 ∧ ((¬ r1 = 0 → f_X10_isReached_J57 Q σ1 v1 v2 0) ∧ (r1 = 0 → f_X10_isReached_J57 Q σ1 v1 v2 3)))
def f_X10_isReached (a0 : Int) (a1 : Int) (σ : St) (Q : St → Int → Prop) : Prop :=
  f_X10_in a0 0 1 σ (fun σ1 r1 => inR r1 ∧ ((¬ r1 = 0 → inR (σ1 0 70) ∧ ((¬ (σ1 0 70) = 0 → inR a0 ∧ ((¬ a0 = 0 → f_X10_isReached_J46 Q σ1 a0 a1 a1 0 ((σ1 0 32) - 1)) ∧ (a0 = 0 → f_X10_isReached_J46 Q σ1 a0 a1 a1 0 ((σ1 0 30) - 1)))) ∧ ((σ1 0 70) = 0 → f_X10_isReached_J57 Q σ1 a0 a1 2))) ∧ (r1 = 0 → f_X10_isReached_J57 Q σ1 a0 a1 1)))
set_option maxRecDepth 100000 in
set_option maxHeartbeats 4000000 in
theorem w_X10_isReached_J57 {X : Cx} {Y : Cy} {Q : St → Int → Prop} (ok : Ok X Y KM cX10_isReached 3 RX10 (rm0q 1 22) (some .boolean)) (σ : St) (v1 : Int) (v2 : Int) (s1 : Int) (h : f_X10_isReached_J57 Q σ v1 v2 s1) : Wq X Y KM 3 (QF X Y (Qiq Y KM Q)) σ 57 [(0, .inr (.inr 0)), (1, .inl v1), (2, .inl v2)] [.inl s1, .inr (.inr 0)] := by
  unfold f_X10_isReached_J57 at h
  refine q_putI ok fp_X10_143 kM_0 fM_0_5 dX10_isReached_57 (wq_s (fun σ1 eσ1 => ?_))
  have h := h σ1 eσ1
  refine q_aload_n ok dX10_isReached_60 0 rfl ?_
  refine q_getI ok fl_X10_143 kM_0 fM_0_5 dX10_isReached_61 ?_
  obtain ⟨g1, hT2a, hT2b⟩ := h
  refine q_if_ne (tgt := 89) ok dX10_isReached_64 (by decide) g1 (fun c2 => ?_) (fun c2 => ?_)
  · have h := hT2a c2
    refine q_iconst ok dX10_isReached_89 ?_
    exact q_zret ok dX10_isReached_90 (by decide) h
  · have h := hT2b c2
    refine q_aload_n ok dX10_isReached_67 0 rfl ?_
    refine q_getC ok fl_X10_116 kM_0 fM_0_58 dX10_isReached_68 ?_
    refine q_bipush ok dX10_isReached_71 rfl ?_
    refine q_bipush ok dX10_isReached_73 rfl ?_
    refine q_iload_n ok dX10_isReached_75 1 rfl ?_
    refine q_imul ok dX10_isReached_76 ?_
    refine q_iload_n ok dX10_isReached_77 2 rfl ?_
    refine q_iadd ok dX10_isReached_78 ?_
    refine q_imul ok dX10_isReached_79 ?_
    obtain ⟨g2, g3, h⟩ := h
    refine q_iald ok kM_ok kM_36 g2 g3 dX10_isReached_80 ?_
    refine q_iconst ok dX10_isReached_81 ?_
    obtain ⟨g4, hT1a, hT1b⟩ := h
    refine q_icmp_ne (tgt := 89) ok dX10_isReached_82 (by decide) g4 (by unfold inR; decide) (fun c1 => ?_) (fun c1 => ?_)
    · have h := hT1a c1
      refine q_iconst ok dX10_isReached_89 ?_
      exact q_zret ok dX10_isReached_90 (by decide) h
    · have h := hT1b c1
      refine q_iconst ok dX10_isReached_85 ?_
      refine q_goto (tgt := 90) ok dX10_isReached_86 (by decide) ?_
      exact q_zret ok dX10_isReached_90 (by decide) h
set_option maxRecDepth 100000 in
set_option maxHeartbeats 4000000 in
theorem w_X10_isReached_J46 {X : Cx} {Y : Cy} {Q : St → Int → Prop} (ok : Ok X Y KM cX10_isReached 3 RX10 (rm0q 1 22) (some .boolean)) (σ : St) (v1 : Int) (v2 : Int) (s1 : Int) (s2 : Int) (s3 : Int) (h : f_X10_isReached_J46 Q σ v1 v2 s1 s2 s3) : Wq X Y KM 3 (QF X Y (Qiq Y KM Q)) σ 46 [(0, .inr (.inr 0)), (1, .inl v1), (2, .inl v2)] [.inl s3, .inl s2, .inl s1, .inr (.inr 0)] := by
  unfold f_X10_isReached_J46 at h
  refine q_callSI (st := [.inr (.inr 0)]) ok cs_X10_168 (c_X10_in X.2.1 Y ok.2.2.2.2.2.2.2.2 h) ⟨rfl, rfl, Nat.le_of_ble_eq_true rfl, Nat.le_of_ble_eq_true rfl⟩ rfl rfl (Nat.le_of_ble_eq_true rfl) dX10_isReached_46 (fun σ1 r1 h => ?_)
  obtain ⟨g1, hT1a, hT1b⟩ := h
  refine q_if_ne (tgt := 56) ok dX10_isReached_49 (by decide) g1 (fun c1 => ?_) (fun c1 => ?_)
  · have h := hT1a c1
    refine q_iconst ok dX10_isReached_56 ?_
    exact w_X10_isReached_J57 ok σ1 v1 v2 0 h
  · have h := hT1b c1
    refine q_iconst ok dX10_isReached_52 ?_
    refine q_goto (tgt := 57) ok dX10_isReached_53 (by decide) ?_
    exact w_X10_isReached_J57 ok σ1 v1 v2 3 h
set_option maxRecDepth 100000 in
set_option maxHeartbeats 4000000 in
theorem c_X10_isReached (l : Launch) (Y : Cy) (hD : ∀ σ, va_D Y.2.2.2 (wsOf KM Y.2.1 Y.2.2.1 σ)) {a0 : Int} {a1 : Int} {σ : St} {Q : St → Int → Prop} (h : f_X10_isReached a0 a1 σ Q) : ConI l yX10_isReached cX10_isReached 3 .boolean (rm0q 1 22) Y KM σ [.inr (.inr 0), .inl a0, .inl a1] Q := con_of (lv := [(0, .inr (.inr 0)), (1, .inl a0), (2, .inl a1)]) (by decide) hD (Nat.le_of_ble_eq_true rfl) rfl (fun X _ ok => by
  have ok : Ok X Y KM cX10_isReached 3 RX10 (rm0q 1 22) (some .boolean) := ok
  unfold f_X10_isReached at h
  refine q_aload_n ok dX10_isReached_0 0 rfl ?_
  refine q_iload_n ok dX10_isReached_1 1 rfl ?_
  refine q_iconst ok dX10_isReached_2 ?_
  refine q_iconst ok dX10_isReached_3 ?_
  refine q_callSI (st := [.inr (.inr 0)]) ok cs_X10_168 (c_X10_in X.2.1 Y ok.2.2.2.2.2.2.2.2 h) ⟨rfl, rfl, Nat.le_of_ble_eq_true rfl, Nat.le_of_ble_eq_true rfl⟩ rfl rfl (Nat.le_of_ble_eq_true rfl) dX10_isReached_4 (fun σ1 r1 h => ?_)
  obtain ⟨g1, hT3a, hT3b⟩ := h
  refine q_if_ne (tgt := 14) ok dX10_isReached_7 (by decide) g1 (fun c3 => ?_) (fun c3 => ?_)
  · have h := hT3a c3
    refine q_aload_n ok dX10_isReached_14 0 rfl ?_
    refine q_getI ok fl_X10_273 kM_0 fM_0_70 dX10_isReached_15 ?_
    obtain ⟨g2, hT2a, hT2b⟩ := h
    refine q_if_ne (tgt := 25) ok dX10_isReached_18 (by decide) g2 (fun c2 => ?_) (fun c2 => ?_)
    · have h := hT2a c2
      refine q_iload_n ok dX10_isReached_25 2 rfl ?_
      refine q_iconst ok dX10_isReached_26 ?_
      refine q_iload_n ok dX10_isReached_27 1 rfl ?_
      obtain ⟨g3, hT1a, hT1b⟩ := h
      refine q_if_ne (tgt := 40) ok dX10_isReached_28 (by decide) g3 (fun c1 => ?_) (fun c1 => ?_)
      · have h := hT1a c1
        refine q_aload_n ok dX10_isReached_40 0 rfl ?_
        refine q_getI ok fl_X10_222 kM_0 fM_0_32 dX10_isReached_41 ?_
        refine q_iconst ok dX10_isReached_44 ?_
        refine q_isub ok dX10_isReached_45 ?_
        exact w_X10_isReached_J46 ok σ1 a0 a1 a1 0 ((σ1 0 32) - 1) h
      · have h := hT1b c1
        refine q_aload_n ok dX10_isReached_31 0 rfl ?_
        refine q_getI ok fl_X10_195 kM_0 fM_0_30 dX10_isReached_32 ?_
        refine q_iconst ok dX10_isReached_35 ?_
        refine q_isub ok dX10_isReached_36 ?_
        refine q_goto (tgt := 46) ok dX10_isReached_37 (by decide) ?_
        exact w_X10_isReached_J46 ok σ1 a0 a1 a1 0 ((σ1 0 30) - 1) h
    · have h := hT2b c2
      refine q_iconst ok dX10_isReached_21 ?_
      refine q_goto (tgt := 57) ok dX10_isReached_22 (by decide) ?_
      exact w_X10_isReached_J57 ok σ1 a0 a1 2 h
  · have h := hT3b c3
    refine q_iconst ok dX10_isReached_10 ?_
    refine q_goto (tgt := 57) ok dX10_isReached_11 (by decide) ?_
    exact w_X10_isReached_J57 ok σ1 a0 a1 1 h)
/-! BranchingStoryModel.ofEntry(IIII)I -/
def f_X10_ofEntry_J44 (Q : St → Int → Prop) (σ : St) (v1 : Int) (v4 : Int) (s1 : Int) : Prop :=
  ∀ σ1 : St, σ1 = sset σ 0 5 s1 → inR (σ1 0 5) ∧ (((σ1 0 5) ≤ 0 → 0 ≤ (9 * v1) ∧ (9 * v1) < 252 ∧ inR (σ1 36 (9 * v1).toNat) ∧ ((¬ (σ1 36 (9 * v1).toNat) = 0 → 0 ≤ ((9 * v1) + v4) ∧ ((9 * v1) + v4) < 252 ∧ Q σ1 (σ1 36 ((9 * v1) + v4).toNat)) ∧ ((σ1 36 (9 * v1).toNat) = 0 → Q σ1 (-1)))) ∧ (¬ (σ1 0 5) ≤ 0 → Q σ1 0))
def f_X10_ofEntry (a0 : Int) (a1 : Int) (a2 : Int) (a3 : Int) (σ : St) (Q : St → Int → Prop) : Prop :=
  f_X10_in a1 0 a2 σ (fun σ1 r1 => inR r1 ∧ ((¬ r1 = 0 → inR (σ1 0 70) ∧ ((¬ (σ1 0 70) = 0 → f_X10_in a0 0 ((σ1 0 30) - 1) σ1 (fun σ2 r2 => inR r2 ∧ ((¬ r2 = 0 → f_X10_ofEntry_J44 Q σ2 a0 a3 0) ∧ (r2 = 0 → f_X10_ofEntry_J44 Q σ2 a0 a3 3)))) ∧ ((σ1 0 70) = 0 → f_X10_ofEntry_J44 Q σ1 a0 a3 2))) ∧ (r1 = 0 → f_X10_ofEntry_J44 Q σ1 a0 a3 1)))
set_option maxRecDepth 100000 in
set_option maxHeartbeats 4000000 in
theorem w_X10_ofEntry_J44 {X : Cx} {Y : Cy} {Q : St → Int → Prop} (ok : Ok X Y KM cX10_ofEntry 5 RX10 (rm0q 1 22) (some .int)) (σ : St) (v1 : Int) (v4 : Int) (s1 : Int) (h : f_X10_ofEntry_J44 Q σ v1 v4 s1) : Wq X Y KM 5 (QF X Y (Qiq Y KM Q)) σ 44 [(0, .inr (.inr 0)), (1, .inl v1), (4, .inl v4)] [.inl s1, .inr (.inr 0)] := by
  unfold f_X10_ofEntry_J44 at h
  refine q_putI ok fp_X10_143 kM_0 fM_0_5 dX10_ofEntry_44 (wq_s (fun σ1 eσ1 => ?_))
  have h := h σ1 eσ1
  refine q_aload_n ok dX10_ofEntry_47 0 rfl ?_
  refine q_getI ok fl_X10_143 kM_0 fM_0_5 dX10_ofEntry_48 ?_
  obtain ⟨g1, hT2a, hT2b⟩ := h
  refine q_if_le (tgt := 56) ok dX10_ofEntry_51 (by decide) g1 (fun c2 => ?_) (fun c2 => ?_)
  · have h := hT2a c2
    refine q_aload_n ok dX10_ofEntry_56 0 rfl ?_
    refine q_getC ok fl_X10_116 kM_0 fM_0_58 dX10_ofEntry_57 ?_
    refine q_bipush ok dX10_ofEntry_60 rfl ?_
    refine q_iload_n ok dX10_ofEntry_62 1 rfl ?_
    refine q_imul ok dX10_ofEntry_63 ?_
    obtain ⟨g2, g3, h⟩ := h
    refine q_iald ok kM_ok kM_36 g2 g3 dX10_ofEntry_64 ?_
    obtain ⟨g4, hT1a, hT1b⟩ := h
    refine q_if_ne (tgt := 72) ok dX10_ofEntry_65 (by decide) g4 (fun c1 => ?_) (fun c1 => ?_)
    · have h := hT1a c1
      refine q_aload_n ok dX10_ofEntry_72 0 rfl ?_
      refine q_getC ok fl_X10_116 kM_0 fM_0_58 dX10_ofEntry_73 ?_
      refine q_bipush ok dX10_ofEntry_76 rfl ?_
      refine q_iload_n ok dX10_ofEntry_78 1 rfl ?_
      refine q_imul ok dX10_ofEntry_79 ?_
      refine q_iload ok dX10_ofEntry_80 2 rfl ?_
      refine q_iadd ok dX10_ofEntry_82 ?_
      obtain ⟨g5, g6, h⟩ := h
      refine q_iald ok kM_ok kM_36 g5 g6 dX10_ofEntry_83 ?_
      exact q_iret ok dX10_ofEntry_84 h
    · have h := hT1b c1
      refine q_iconst ok dX10_ofEntry_68 ?_
      refine q_goto (tgt := 84) ok dX10_ofEntry_69 (by decide) ?_
      exact q_iret ok dX10_ofEntry_84 h
  · have h := hT2b c2
    refine q_iconst ok dX10_ofEntry_54 ?_
    exact q_iret ok dX10_ofEntry_55 h
set_option maxRecDepth 100000 in
set_option maxHeartbeats 4000000 in
theorem c_X10_ofEntry (l : Launch) (Y : Cy) (hD : ∀ σ, va_D Y.2.2.2 (wsOf KM Y.2.1 Y.2.2.1 σ)) {a0 : Int} {a1 : Int} {a2 : Int} {a3 : Int} {σ : St} {Q : St → Int → Prop} (h : f_X10_ofEntry a0 a1 a2 a3 σ Q) : ConI l yX10_ofEntry cX10_ofEntry 5 .int (rm0q 1 22) Y KM σ [.inr (.inr 0), .inl a0, .inl a1, .inl a2, .inl a3] Q := con_of (lv := [(0, .inr (.inr 0)), (1, .inl a0), (2, .inl a1), (3, .inl a2), (4, .inl a3)]) (by decide) hD (Nat.le_of_ble_eq_true rfl) rfl (fun X _ ok => by
  have ok : Ok X Y KM cX10_ofEntry 5 RX10 (rm0q 1 22) (some .int) := ok
  unfold f_X10_ofEntry at h
  refine q_aload_n ok dX10_ofEntry_0 0 rfl ?_
  refine q_iload_n ok dX10_ofEntry_1 2 rfl ?_
  refine q_iconst ok dX10_ofEntry_2 ?_
  refine q_iload_n ok dX10_ofEntry_3 3 rfl ?_
  refine q_callSI (st := [.inr (.inr 0)]) ok cs_X10_168 (c_X10_in X.2.1 Y ok.2.2.2.2.2.2.2.2 h) ⟨rfl, rfl, Nat.le_of_ble_eq_true rfl, Nat.le_of_ble_eq_true rfl⟩ rfl rfl (Nat.le_of_ble_eq_true rfl) dX10_ofEntry_4 (fun σ1 r1 h => ?_)
  obtain ⟨g1, hT3a, hT3b⟩ := h
  refine q_if_ne (tgt := 14) ok dX10_ofEntry_7 (by decide) g1 (fun c3 => ?_) (fun c3 => ?_)
  · have h := hT3a c3
    refine q_aload_n ok dX10_ofEntry_14 0 rfl ?_
    refine q_getI ok fl_X10_273 kM_0 fM_0_70 dX10_ofEntry_15 ?_
    obtain ⟨g2, hT2a, hT2b⟩ := h
    refine q_if_ne (tgt := 25) ok dX10_ofEntry_18 (by decide) g2 (fun c2 => ?_) (fun c2 => ?_)
    · have h := hT2a c2
      refine q_iload_n ok dX10_ofEntry_25 1 rfl ?_
      refine q_iconst ok dX10_ofEntry_26 ?_
      refine q_aload_n ok dX10_ofEntry_27 0 rfl ?_
      refine q_getI ok fl_X10_195 kM_0 fM_0_30 dX10_ofEntry_28 ?_
      refine q_iconst ok dX10_ofEntry_31 ?_
      refine q_isub ok dX10_ofEntry_32 ?_
      refine q_callSI (st := [.inr (.inr 0)]) ok cs_X10_168 (c_X10_in X.2.1 Y ok.2.2.2.2.2.2.2.2 h) ⟨rfl, rfl, Nat.le_of_ble_eq_true rfl, Nat.le_of_ble_eq_true rfl⟩ rfl rfl (Nat.le_of_ble_eq_true rfl) dX10_ofEntry_33 (fun σ2 r2 h => ?_)
      obtain ⟨g3, hT1a, hT1b⟩ := h
      refine q_if_ne (tgt := 43) ok dX10_ofEntry_36 (by decide) g3 (fun c1 => ?_) (fun c1 => ?_)
      · have h := hT1a c1
        refine q_iconst ok dX10_ofEntry_43 ?_
        refine q_sub [0, 1, 4] rfl ?_
        exact w_X10_ofEntry_J44 ok σ2 a0 a3 0 h
      · have h := hT1b c1
        refine q_iconst ok dX10_ofEntry_39 ?_
        refine q_goto (tgt := 44) ok dX10_ofEntry_40 (by decide) ?_
        refine q_sub [0, 1, 4] rfl ?_
        exact w_X10_ofEntry_J44 ok σ2 a0 a3 3 h
    · have h := hT2b c2
      refine q_iconst ok dX10_ofEntry_21 ?_
      refine q_goto (tgt := 44) ok dX10_ofEntry_22 (by decide) ?_
      refine q_sub [0, 1, 4] rfl ?_
      exact w_X10_ofEntry_J44 ok σ1 a0 a3 2 h
  · have h := hT3b c3
    refine q_iconst ok dX10_ofEntry_10 ?_
    refine q_goto (tgt := 44) ok dX10_ofEntry_11 (by decide) ?_
    refine q_sub [0, 1, 4] rfl ?_
    exact w_X10_ofEntry_J44 ok σ1 a0 a3 1 h)
/-! BranchingStoryModel.lowest(II)I -/
def f_X10_lowest (a0 : Int) (a1 : Int) (σ : St) (Q : St → Int → Prop) : Prop :=
  f_X10_ofEntry a0 a1 2 (1 + a1) σ (fun σ1 r1 => Q σ1 r1)
set_option maxRecDepth 100000 in
set_option maxHeartbeats 4000000 in
theorem c_X10_lowest (l : Launch) (Y : Cy) (hD : ∀ σ, va_D Y.2.2.2 (wsOf KM Y.2.1 Y.2.2.1 σ)) {a0 : Int} {a1 : Int} {σ : St} {Q : St → Int → Prop} (h : f_X10_lowest a0 a1 σ Q) : ConI l yX10_lowest cX10_lowest 3 .int (rm0q 2 46) Y KM σ [.inr (.inr 0), .inl a0, .inl a1] Q := con_of (lv := [(0, .inr (.inr 0)), (1, .inl a0), (2, .inl a1)]) (by decide) hD (Nat.le_of_ble_eq_true rfl) rfl (fun X _ ok => by
  have ok : Ok X Y KM cX10_lowest 3 RX10 (rm0q 2 46) (some .int) := ok
  unfold f_X10_lowest at h
  refine q_aload_n ok dX10_lowest_0 0 rfl ?_
  refine q_iload_n ok dX10_lowest_1 1 rfl ?_
  refine q_iload_n ok dX10_lowest_2 2 rfl ?_
  refine q_iconst ok dX10_lowest_3 ?_
  refine q_iconst ok dX10_lowest_4 ?_
  refine q_iload_n ok dX10_lowest_5 2 rfl ?_
  refine q_iadd ok dX10_lowest_6 ?_
  refine q_callVI (st := []) ok cs_X10_444 kM_0 rfl (c_X10_ofEntry X.2.1 Y ok.2.2.2.2.2.2.2.2 h) ⟨rfl, rfl, Nat.le_of_ble_eq_true rfl, Nat.le_of_ble_eq_true rfl⟩ rfl rfl (Nat.le_of_ble_eq_true rfl) dX10_lowest_7 (fun σ1 r1 h => ?_)
  exact q_iret ok dX10_lowest_10 h)
/-! BranchingStoryModel.greatest(II)I -/
def f_X10_greatest (a0 : Int) (a1 : Int) (σ : St) (Q : St → Int → Prop) : Prop :=
  f_X10_ofEntry a0 a1 2 (4 + a1) σ (fun σ1 r1 => Q σ1 r1)
set_option maxRecDepth 100000 in
set_option maxHeartbeats 4000000 in
theorem c_X10_greatest (l : Launch) (Y : Cy) (hD : ∀ σ, va_D Y.2.2.2 (wsOf KM Y.2.1 Y.2.2.1 σ)) {a0 : Int} {a1 : Int} {σ : St} {Q : St → Int → Prop} (h : f_X10_greatest a0 a1 σ Q) : ConI l yX10_greatest cX10_greatest 3 .int (rm0q 2 46) Y KM σ [.inr (.inr 0), .inl a0, .inl a1] Q := con_of (lv := [(0, .inr (.inr 0)), (1, .inl a0), (2, .inl a1)]) (by decide) hD (Nat.le_of_ble_eq_true rfl) rfl (fun X _ ok => by
  have ok : Ok X Y KM cX10_greatest 3 RX10 (rm0q 2 46) (some .int) := ok
  unfold f_X10_greatest at h
  refine q_aload_n ok dX10_greatest_0 0 rfl ?_
  refine q_iload_n ok dX10_greatest_1 1 rfl ?_
  refine q_iload_n ok dX10_greatest_2 2 rfl ?_
  refine q_iconst ok dX10_greatest_3 ?_
  refine q_iconst ok dX10_greatest_4 ?_
  refine q_iload_n ok dX10_greatest_5 2 rfl ?_
  refine q_iadd ok dX10_greatest_6 ?_
  refine q_callVI (st := []) ok cs_X10_444 kM_0 rfl (c_X10_ofEntry X.2.1 Y ok.2.2.2.2.2.2.2.2 h) ⟨rfl, rfl, Nat.le_of_ble_eq_true rfl, Nat.le_of_ble_eq_true rfl⟩ rfl rfl (Nat.le_of_ble_eq_true rfl) dX10_greatest_7 (fun σ1 r1 h => ?_)
  exact q_iret ok dX10_greatest_10 h)
/-! BranchingStoryModel.values(II)I -/
def f_X10_values (a0 : Int) (a1 : Int) (σ : St) (Q : St → Int → Prop) : Prop :=
  f_X10_ofEntry a0 a1 5 7 σ (fun σ1 r1 => inR (σ1 0 5) ∧ ((0 < (σ1 0 5) → Q σ1 0) ∧ (¬ 0 < (σ1 0 5) → inR r1 ∧ ((¬ r1 = (-1) → Q σ1 (iand32 (ishr32 r1 (2 * a1)) 3)) ∧ (r1 = (-1) → Q σ1 0)))))
set_option maxRecDepth 100000 in
set_option maxHeartbeats 4000000 in
theorem c_X10_values (l : Launch) (Y : Cy) (hD : ∀ σ, va_D Y.2.2.2 (wsOf KM Y.2.1 Y.2.2.1 σ)) {a0 : Int} {a1 : Int} {σ : St} {Q : St → Int → Prop} (h : f_X10_values a0 a1 σ Q) : ConI l yX10_values cX10_values 4 .int (rm0q 2 46) Y KM σ [.inr (.inr 0), .inl a0, .inl a1] Q := con_of (lv := [(0, .inr (.inr 0)), (1, .inl a0), (2, .inl a1)]) (by decide) hD (Nat.le_of_ble_eq_true rfl) rfl (fun X _ ok => by
  have ok : Ok X Y KM cX10_values 4 RX10 (rm0q 2 46) (some .int) := ok
  unfold f_X10_values at h
  refine q_aload_n ok dX10_values_0 0 rfl ?_
  refine q_iload_n ok dX10_values_1 1 rfl ?_
  refine q_iload_n ok dX10_values_2 2 rfl ?_
  refine q_iconst ok dX10_values_3 ?_
  refine q_bipush ok dX10_values_4 rfl ?_
  refine q_callVI (st := []) ok cs_X10_444 kM_0 rfl (c_X10_ofEntry X.2.1 Y ok.2.2.2.2.2.2.2.2 h) ⟨rfl, rfl, Nat.le_of_ble_eq_true rfl, Nat.le_of_ble_eq_true rfl⟩ rfl rfl (Nat.le_of_ble_eq_true rfl) dX10_values_6 (fun σ1 r1 h => ?_)
  refine q_istore_n (lv' := [(3, .inl r1), (0, .inr (.inr 0)), (1, .inl a0), (2, .inl a1)]) ok dX10_values_9 (by decide) rfl ?_
  refine q_aload_n ok dX10_values_10 1 rfl ?_
  refine q_getI ok fl_X10_143 kM_0 fM_0_5 dX10_values_11 ?_
  obtain ⟨g1, hT2a, hT2b⟩ := h
  refine q_if_gt (tgt := 22) ok dX10_values_14 (by decide) g1 (fun c2 => ?_) (fun c2 => ?_)
  · have h := hT2a c2
    refine q_iconst ok dX10_values_22 ?_
    refine q_goto (tgt := 33) ok dX10_values_23 (by decide) ?_
    exact q_iret ok dX10_values_33 h
  · have h := hT2b c2
    refine q_iload_n ok dX10_values_17 0 rfl ?_
    refine q_iconst ok dX10_values_18 ?_
    obtain ⟨g2, hT1a, hT1b⟩ := h
    refine q_icmp_ne (tgt := 26) ok dX10_values_19 (by decide) g2 (by unfold inR; decide) (fun c1 => ?_) (fun c1 => ?_)
    · have h := hT1a c1
      refine q_iload_n ok dX10_values_26 0 rfl ?_
      refine q_iconst ok dX10_values_27 ?_
      refine q_iload_n ok dX10_values_28 3 rfl ?_
      refine q_imul ok dX10_values_29 ?_
      refine q_ishr ok dX10_values_30 ?_
      refine q_iconst ok dX10_values_31 ?_
      refine q_iand ok dX10_values_32 ?_
      exact q_iret ok dX10_values_33 h
    · have h := hT1b c1
      refine q_iconst ok dX10_values_22 ?_
      refine q_goto (tgt := 33) ok dX10_values_23 (by decide) ?_
      exact q_iret ok dX10_values_33 h)
/-! BranchingStoryModel.hubs(I)I -/
def f_X10_hubs_J31 (Q : St → Int → Prop) (σ : St) (v1 : Int) (s1 : Int) : Prop :=
  ∀ σ1 : St, σ1 = sset σ 0 5 s1 → inR (σ1 0 5) ∧ ((0 < (σ1 0 5) → Q σ1 0) ∧ (¬ 0 < (σ1 0 5) → 0 ≤ (9 * v1) ∧ (9 * v1) < 252 ∧ inR (σ1 36 (9 * v1).toNat) ∧ ((¬ (σ1 36 (9 * v1).toNat) = 0 → 0 ≤ ((9 * v1) + 8) ∧ ((9 * v1) + 8) < 252 ∧ Q σ1 (σ1 36 ((9 * v1) + 8).toNat)) ∧ ((σ1 36 (9 * v1).toNat) = 0 → Q σ1 0))))
def f_X10_hubs (a0 : Int) (σ : St) (Q : St → Int → Prop) : Prop :=
  inR (σ 0 70) ∧ ((¬ (σ 0 70) = 0 → f_X10_in a0 0 ((σ 0 30) - 1) σ (fun σ1 r1 => inR r1 ∧ ((¬ r1 = 0 → f_X10_hubs_J31 Q σ1 a0 0) ∧ (r1 = 0 → f_X10_hubs_J31 Q σ1 a0 2)))) ∧ ((σ 0 70) = 0 → f_X10_hubs_J31 Q σ a0 1))
set_option maxRecDepth 100000 in
set_option maxHeartbeats 4000000 in
theorem w_X10_hubs_J31 {X : Cx} {Y : Cy} {Q : St → Int → Prop} (ok : Ok X Y KM cX10_hubs 2 RX10 (rm0q 1 22) (some .int)) (σ : St) (v1 : Int) (s1 : Int) (h : f_X10_hubs_J31 Q σ v1 s1) : Wq X Y KM 2 (QF X Y (Qiq Y KM Q)) σ 31 [(0, .inr (.inr 0)), (1, .inl v1)] [.inl s1, .inr (.inr 0)] := by
  unfold f_X10_hubs_J31 at h
  refine q_putI ok fp_X10_143 kM_0 fM_0_5 dX10_hubs_31 (wq_s (fun σ1 eσ1 => ?_))
  have h := h σ1 eσ1
  refine q_aload_n ok dX10_hubs_34 0 rfl ?_
  refine q_getI ok fl_X10_143 kM_0 fM_0_5 dX10_hubs_35 ?_
  obtain ⟨g1, hT2a, hT2b⟩ := h
  refine q_if_gt (tgt := 53) ok dX10_hubs_38 (by decide) g1 (fun c2 => ?_) (fun c2 => ?_)
  · have h := hT2a c2
    refine q_iconst ok dX10_hubs_53 ?_
    refine q_goto (tgt := 69) ok dX10_hubs_54 (by decide) ?_
    exact q_iret ok dX10_hubs_69 h
  · have h := hT2b c2
    refine q_aload_n ok dX10_hubs_41 0 rfl ?_
    refine q_getC ok fl_X10_116 kM_0 fM_0_58 dX10_hubs_42 ?_
    refine q_bipush ok dX10_hubs_45 rfl ?_
    refine q_iload_n ok dX10_hubs_47 1 rfl ?_
    refine q_imul ok dX10_hubs_48 ?_
    obtain ⟨g2, g3, h⟩ := h
    refine q_iald ok kM_ok kM_36 g2 g3 dX10_hubs_49 ?_
    obtain ⟨g4, hT1a, hT1b⟩ := h
    refine q_if_ne (tgt := 57) ok dX10_hubs_50 (by decide) g4 (fun c1 => ?_) (fun c1 => ?_)
    · have h := hT1a c1
      refine q_aload_n ok dX10_hubs_57 0 rfl ?_
      refine q_getC ok fl_X10_116 kM_0 fM_0_58 dX10_hubs_58 ?_
      refine q_bipush ok dX10_hubs_61 rfl ?_
      refine q_iload_n ok dX10_hubs_63 1 rfl ?_
      refine q_imul ok dX10_hubs_64 ?_
      refine q_bipush ok dX10_hubs_65 rfl ?_
      refine q_iadd ok dX10_hubs_67 ?_
      obtain ⟨g5, g6, h⟩ := h
      refine q_iald ok kM_ok kM_36 g5 g6 dX10_hubs_68 ?_
      exact q_iret ok dX10_hubs_69 h
    · have h := hT1b c1
      refine q_iconst ok dX10_hubs_53 ?_
      refine q_goto (tgt := 69) ok dX10_hubs_54 (by decide) ?_
      exact q_iret ok dX10_hubs_69 h
set_option maxRecDepth 100000 in
set_option maxHeartbeats 4000000 in
theorem c_X10_hubs (l : Launch) (Y : Cy) (hD : ∀ σ, va_D Y.2.2.2 (wsOf KM Y.2.1 Y.2.2.1 σ)) {a0 : Int} {σ : St} {Q : St → Int → Prop} (h : f_X10_hubs a0 σ Q) : ConI l yX10_hubs cX10_hubs 2 .int (rm0q 1 22) Y KM σ [.inr (.inr 0), .inl a0] Q := con_of (lv := [(0, .inr (.inr 0)), (1, .inl a0)]) (by decide) hD (Nat.le_of_ble_eq_true rfl) rfl (fun X _ ok => by
  have ok : Ok X Y KM cX10_hubs 2 RX10 (rm0q 1 22) (some .int) := ok
  unfold f_X10_hubs at h
  refine q_aload_n ok dX10_hubs_0 0 rfl ?_
  refine q_aload_n ok dX10_hubs_1 0 rfl ?_
  refine q_getI ok fl_X10_273 kM_0 fM_0_70 dX10_hubs_2 ?_
  obtain ⟨g1, hT2a, hT2b⟩ := h
  refine q_if_ne (tgt := 12) ok dX10_hubs_5 (by decide) g1 (fun c2 => ?_) (fun c2 => ?_)
  · have h := hT2a c2
    refine q_iload_n ok dX10_hubs_12 1 rfl ?_
    refine q_iconst ok dX10_hubs_13 ?_
    refine q_aload_n ok dX10_hubs_14 0 rfl ?_
    refine q_getI ok fl_X10_195 kM_0 fM_0_30 dX10_hubs_15 ?_
    refine q_iconst ok dX10_hubs_18 ?_
    refine q_isub ok dX10_hubs_19 ?_
    refine q_callSI (st := [.inr (.inr 0)]) ok cs_X10_168 (c_X10_in X.2.1 Y ok.2.2.2.2.2.2.2.2 h) ⟨rfl, rfl, Nat.le_of_ble_eq_true rfl, Nat.le_of_ble_eq_true rfl⟩ rfl rfl (Nat.le_of_ble_eq_true rfl) dX10_hubs_20 (fun σ1 r1 h => ?_)
    obtain ⟨g2, hT1a, hT1b⟩ := h
    refine q_if_ne (tgt := 30) ok dX10_hubs_23 (by decide) g2 (fun c1 => ?_) (fun c1 => ?_)
    · have h := hT1a c1
      refine q_iconst ok dX10_hubs_30 ?_
      exact w_X10_hubs_J31 ok σ1 a0 0 h
    · have h := hT1b c1
      refine q_iconst ok dX10_hubs_26 ?_
      refine q_goto (tgt := 31) ok dX10_hubs_27 (by decide) ?_
      exact w_X10_hubs_J31 ok σ1 a0 2 h
  · have h := hT2b c2
    refine q_iconst ok dX10_hubs_8 ?_
    refine q_goto (tgt := 31) ok dX10_hubs_9 (by decide) ?_
    exact w_X10_hubs_J31 ok σ a0 1 h)
