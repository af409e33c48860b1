theorem dX12_init_0 : decode cX12_init 0 = .ok (.aload_n 0, 1) := by decide +kernel
theorem dX12_init_1 : decode cX12_init 1 = .ok (.invokespecial 1, 3) := by decide +kernel
theorem dX12_init_4 : decode cX12_init 4 = .ok (.aload_n 0, 1) := by decide +kernel
theorem dX12_init_5 : decode cX12_init 5 = .ok (.sipush 156, 3) := by decide +kernel
theorem dX12_init_8 : decode cX12_init 8 = .ok (.newarray .int, 2) := by decide +kernel
theorem dX12_init_10 : decode cX12_init 10 = .ok (.putfield 7, 3) := by decide +kernel
theorem dX12_init_13 : decode cX12_init 13 = .ok (.aload_n 0, 1) := by decide +kernel
theorem dX12_init_14 : decode cX12_init 14 = .ok (.sipush 156, 3) := by decide +kernel
theorem dX12_init_17 : decode cX12_init 17 = .ok (.newarray .int, 2) := by decide +kernel
theorem dX12_init_19 : decode cX12_init 19 = .ok (.putfield 13, 3) := by decide +kernel
theorem dX12_init_22 : decode cX12_init 22 = .ok (.aload_n 0, 1) := by decide +kernel
theorem dX12_init_23 : decode cX12_init 23 = .ok (.bipush 64, 2) := by decide +kernel
theorem dX12_init_25 : decode cX12_init 25 = .ok (.newarray .int, 2) := by decide +kernel
theorem dX12_init_27 : decode cX12_init 27 = .ok (.putfield 16, 3) := by decide +kernel
theorem dX12_init_30 : decode cX12_init 30 = .ok (.aload_n 0, 1) := by decide +kernel
theorem dX12_init_31 : decode cX12_init 31 = .ok (.bipush 36, 2) := by decide +kernel
theorem dX12_init_33 : decode cX12_init 33 = .ok (.newarray .int, 2) := by decide +kernel
theorem dX12_init_35 : decode cX12_init 35 = .ok (.putfield 19, 3) := by decide +kernel
theorem dX12_init_38 : decode cX12_init 38 = .ok (.aload_n 0, 1) := by decide +kernel
theorem dX12_init_39 : decode cX12_init 39 = .ok (.sipush 300, 3) := by decide +kernel
theorem dX12_init_42 : decode cX12_init 42 = .ok (.newarray .int, 2) := by decide +kernel
theorem dX12_init_44 : decode cX12_init 44 = .ok (.putfield 22, 3) := by decide +kernel
theorem dX12_init_47 : decode cX12_init 47 = .ok (.aload_n 0, 1) := by decide +kernel
theorem dX12_init_48 : decode cX12_init 48 = .ok (.iconst (-1), 1) := by decide +kernel
theorem dX12_init_49 : decode cX12_init 49 = .ok (.putfield 25, 3) := by decide +kernel
theorem dX12_init_52 : decode cX12_init 52 = .ok (.aload_n 0, 1) := by decide +kernel
theorem dX12_init_53 : decode cX12_init 53 = .ok (.iconst (-1), 1) := by decide +kernel
theorem dX12_init_54 : decode cX12_init 54 = .ok (.putfield 29, 3) := by decide +kernel
theorem dX12_init_57 : decode cX12_init 57 = .ok (.aload_n 0, 1) := by decide +kernel
theorem dX12_init_58 : decode cX12_init 58 = .ok (.sipush 3556, 3) := by decide +kernel
theorem dX12_init_61 : decode cX12_init 61 = .ok (.newarray .int, 2) := by decide +kernel
theorem dX12_init_63 : decode cX12_init 63 = .ok (.putfield 32, 3) := by decide +kernel
theorem dX12_init_66 : decode cX12_init 66 = .ok (.aload_n 0, 1) := by decide +kernel
theorem dX12_init_67 : decode cX12_init 67 = .ok (.bipush 10, 2) := by decide +kernel
theorem dX12_init_69 : decode cX12_init 69 = .ok (.newarray .int, 2) := by decide +kernel
theorem dX12_init_71 : decode cX12_init 71 = .ok (.putfield 35, 3) := by decide +kernel
theorem dX12_init_74 : decode cX12_init 74 = .ok (.aload_n 0, 1) := by decide +kernel
theorem dX12_init_75 : decode cX12_init 75 = .ok (.bipush 10, 2) := by decide +kernel
theorem dX12_init_77 : decode cX12_init 77 = .ok (.newarray .int, 2) := by decide +kernel
theorem dX12_init_79 : decode cX12_init 79 = .ok (.putfield 38, 3) := by decide +kernel
theorem dX12_init_82 : decode cX12_init 82 = .ok (.aload_n 0, 1) := by decide +kernel
theorem dX12_init_83 : decode cX12_init 83 = .ok (.bipush 10, 2) := by decide +kernel
theorem dX12_init_85 : decode cX12_init 85 = .ok (.newarray .int, 2) := by decide +kernel
theorem dX12_init_87 : decode cX12_init 87 = .ok (.putfield 41, 3) := by decide +kernel
theorem dX12_init_90 : decode cX12_init 90 = .ok (.aload_n 0, 1) := by decide +kernel
theorem dX12_init_91 : decode cX12_init 91 = .ok (.bipush 10, 2) := by decide +kernel
theorem dX12_init_93 : decode cX12_init 93 = .ok (.newarray .int, 2) := by decide +kernel
theorem dX12_init_95 : decode cX12_init 95 = .ok (.putfield 44, 3) := by decide +kernel
theorem dX12_init_98 : decode cX12_init 98 = .ok (.aload_n 0, 1) := by decide +kernel
theorem dX12_init_99 : decode cX12_init 99 = .ok (.bipush 10, 2) := by decide +kernel
theorem dX12_init_101 : decode cX12_init 101 = .ok (.newarray .int, 2) := by decide +kernel
theorem dX12_init_103 : decode cX12_init 103 = .ok (.putfield 47, 3) := by decide +kernel
theorem dX12_init_106 : decode cX12_init 106 = .ok (.aload_n 0, 1) := by decide +kernel
theorem dX12_init_107 : decode cX12_init 107 = .ok (.bipush 12, 2) := by decide +kernel
theorem dX12_init_109 : decode cX12_init 109 = .ok (.newarray .int, 2) := by decide +kernel
theorem dX12_init_111 : decode cX12_init 111 = .ok (.putfield 50, 3) := by decide +kernel
theorem dX12_init_114 : decode cX12_init 114 = .ok (.aload_n 0, 1) := by decide +kernel
theorem dX12_init_115 : decode cX12_init 115 = .ok (.sipush 2880, 3) := by decide +kernel
theorem dX12_init_118 : decode cX12_init 118 = .ok (.newarray .int, 2) := by decide +kernel
theorem dX12_init_120 : decode cX12_init 120 = .ok (.putfield 53, 3) := by decide +kernel
theorem dX12_init_123 : decode cX12_init 123 = .ok (.aload_n 0, 1) := by decide +kernel
theorem dX12_init_124 : decode cX12_init 124 = .ok (.bipush 48, 2) := by decide +kernel
theorem dX12_init_126 : decode cX12_init 126 = .ok (.newarray .int, 2) := by decide +kernel
theorem dX12_init_128 : decode cX12_init 128 = .ok (.putfield 56, 3) := by decide +kernel
theorem dX12_init_131 : decode cX12_init 131 = .ok (.aload_n 0, 1) := by decide +kernel
theorem dX12_init_132 : decode cX12_init 132 = .ok (.iconst 4, 1) := by decide +kernel
theorem dX12_init_133 : decode cX12_init 133 = .ok (.newarray .int, 2) := by decide +kernel
theorem dX12_init_135 : decode cX12_init 135 = .ok (.putfield 59, 3) := by decide +kernel
theorem dX12_init_138 : decode cX12_init 138 = .ok (.aload_n 0, 1) := by decide +kernel
theorem dX12_init_139 : decode cX12_init 139 = .ok (.sipush 130, 3) := by decide +kernel
theorem dX12_init_142 : decode cX12_init 142 = .ok (.newarray .long, 2) := by decide +kernel
theorem dX12_init_144 : decode cX12_init 144 = .ok (.putfield 62, 3) := by decide +kernel
theorem dX12_init_147 : decode cX12_init 147 = .ok (.aload_n 0, 1) := by decide +kernel
theorem dX12_init_148 : decode cX12_init 148 = .ok (.sipush 600, 3) := by decide +kernel
theorem dX12_init_151 : decode cX12_init 151 = .ok (.newarray .int, 2) := by decide +kernel
theorem dX12_init_153 : decode cX12_init 153 = .ok (.putfield 66, 3) := by decide +kernel
theorem dX12_init_156 : decode cX12_init 156 = .ok (.aload_n 0, 1) := by decide +kernel
theorem dX12_init_157 : decode cX12_init 157 = .ok (.sipush 130, 3) := by decide +kernel
theorem dX12_init_160 : decode cX12_init 160 = .ok (.newarray .int, 2) := by decide +kernel
theorem dX12_init_162 : decode cX12_init 162 = .ok (.putfield 69, 3) := by decide +kernel
theorem dX12_init_165 : decode cX12_init 165 = .ok (.aload_n 0, 1) := by decide +kernel
theorem dX12_init_166 : decode cX12_init 166 = .ok (.sipush 600, 3) := by decide +kernel
theorem dX12_init_169 : decode cX12_init 169 = .ok (.newarray .int, 2) := by decide +kernel
theorem dX12_init_171 : decode cX12_init 171 = .ok (.putfield 72, 3) := by decide +kernel
theorem dX12_init_174 : decode cX12_init 174 = .ok (.aload_n 0, 1) := by decide +kernel
theorem dX12_init_175 : decode cX12_init 175 = .ok (.bipush 40, 2) := by decide +kernel
theorem dX12_init_177 : decode cX12_init 177 = .ok (.newarray .int, 2) := by decide +kernel
theorem dX12_init_179 : decode cX12_init 179 = .ok (.putfield 75, 3) := by decide +kernel
theorem dX12_init_182 : decode cX12_init 182 = .ok (.aload_n 0, 1) := by decide +kernel
theorem dX12_init_183 : decode cX12_init 183 = .ok (.bipush 40, 2) := by decide +kernel
theorem dX12_init_185 : decode cX12_init 185 = .ok (.newarray .int, 2) := by decide +kernel
theorem dX12_init_187 : decode cX12_init 187 = .ok (.putfield 78, 3) := by decide +kernel
theorem dX12_init_190 : decode cX12_init 190 = .ok (.aload_n 0, 1) := by decide +kernel
theorem dX12_init_191 : decode cX12_init 191 = .ok (.bipush 40, 2) := by decide +kernel
theorem dX12_init_193 : decode cX12_init 193 = .ok (.newarray .int, 2) := by decide +kernel
theorem dX12_init_195 : decode cX12_init 195 = .ok (.putfield 81, 3) := by decide +kernel
theorem dX12_init_198 : decode cX12_init 198 = .ok (.aload_n 0, 1) := by decide +kernel
theorem dX12_init_199 : decode cX12_init 199 = .ok (.sipush 600, 3) := by decide +kernel
theorem dX12_init_202 : decode cX12_init 202 = .ok (.newarray .int, 2) := by decide +kernel
theorem dX12_init_204 : decode cX12_init 204 = .ok (.putfield 84, 3) := by decide +kernel
theorem dX12_init_207 : decode cX12_init 207 = .ok (.aload_n 0, 1) := by decide +kernel
theorem dX12_init_208 : decode cX12_init 208 = .ok (.bipush 12, 2) := by decide +kernel
theorem dX12_init_210 : decode cX12_init 210 = .ok (.newarray .boolean, 2) := by decide +kernel
theorem dX12_init_212 : decode cX12_init 212 = .ok (.putfield 87, 3) := by decide +kernel
theorem dX12_init_215 : decode cX12_init 215 = .ok (.aload_n 0, 1) := by decide +kernel
theorem dX12_init_216 : decode cX12_init 216 = .ok (.bipush 12, 2) := by decide +kernel
theorem dX12_init_218 : decode cX12_init 218 = .ok (.newarray .int, 2) := by decide +kernel
theorem dX12_init_220 : decode cX12_init 220 = .ok (.putfield 91, 3) := by decide +kernel
theorem dX12_init_223 : decode cX12_init 223 = .ok (.aload_n 0, 1) := by decide +kernel
theorem dX12_init_224 : decode cX12_init 224 = .ok (.bipush 6, 2) := by decide +kernel
theorem dX12_init_226 : decode cX12_init 226 = .ok (.newarray .int, 2) := by decide +kernel
theorem dX12_init_228 : decode cX12_init 228 = .ok (.putfield 94, 3) := by decide +kernel
theorem dX12_init_231 : decode cX12_init 231 = .ok (.aload_n 0, 1) := by decide +kernel
theorem dX12_init_232 : decode cX12_init 232 = .ok (.bipush 6, 2) := by decide +kernel
theorem dX12_init_234 : decode cX12_init 234 = .ok (.newarray .int, 2) := by decide +kernel
theorem dX12_init_236 : decode cX12_init 236 = .ok (.putfield 97, 3) := by decide +kernel
theorem dX12_init_239 : decode cX12_init 239 = .ok (.aload_n 0, 1) := by decide +kernel
theorem dX12_init_240 : decode cX12_init 240 = .ok (.sipush 4096, 3) := by decide +kernel
theorem dX12_init_243 : decode cX12_init 243 = .ok (.newarray .boolean, 2) := by decide +kernel
theorem dX12_init_245 : decode cX12_init 245 = .ok (.putfield 100, 3) := by decide +kernel
theorem dX12_init_248 : decode cX12_init 248 = .ok (.aload_n 0, 1) := by decide +kernel
theorem dX12_init_249 : decode cX12_init 249 = .ok (.sipush 4096, 3) := by decide +kernel
theorem dX12_init_252 : decode cX12_init 252 = .ok (.newarray .boolean, 2) := by decide +kernel
theorem dX12_init_254 : decode cX12_init 254 = .ok (.putfield 103, 3) := by decide +kernel
theorem dX12_init_257 : decode cX12_init 257 = .ok (.aload_n 0, 1) := by decide +kernel
theorem dX12_init_258 : decode cX12_init 258 = .ok (.sipush 6006, 3) := by decide +kernel
theorem dX12_init_261 : decode cX12_init 261 = .ok (.newarray .long, 2) := by decide +kernel
theorem dX12_init_263 : decode cX12_init 263 = .ok (.putfield 106, 3) := by decide +kernel
theorem dX12_init_266 : decode cX12_init 266 = .ok (.aload_n 0, 1) := by decide +kernel
theorem dX12_init_267 : decode cX12_init 267 = .ok (.bipush 10, 2) := by decide +kernel
theorem dX12_init_269 : decode cX12_init 269 = .ok (.newarray .int, 2) := by decide +kernel
theorem dX12_init_271 : decode cX12_init 271 = .ok (.putfield 109, 3) := by decide +kernel
theorem dX12_init_274 : decode cX12_init 274 = .ok (.aload_n 0, 1) := by decide +kernel
theorem dX12_init_275 : decode cX12_init 275 = .ok (.bipush 10, 2) := by decide +kernel
theorem dX12_init_277 : decode cX12_init 277 = .ok (.newarray .int, 2) := by decide +kernel
theorem dX12_init_279 : decode cX12_init 279 = .ok (.putfield 112, 3) := by decide +kernel
theorem dX12_init_282 : decode cX12_init 282 = .ok (.aload_n 0, 1) := by decide +kernel
theorem dX12_init_283 : decode cX12_init 283 = .ok (.bipush 9, 2) := by decide +kernel
theorem dX12_init_285 : decode cX12_init 285 = .ok (.newarray .int, 2) := by decide +kernel
theorem dX12_init_287 : decode cX12_init 287 = .ok (.putfield 115, 3) := by decide +kernel
theorem dX12_init_290 : decode cX12_init 290 = .ok (.aload_n 0, 1) := by decide +kernel
theorem dX12_init_291 : decode cX12_init 291 = .ok (.getfield 7, 3) := by decide +kernel
theorem dX12_init_294 : decode cX12_init 294 = .ok (.aload_n 0, 1) := by decide +kernel
theorem dX12_init_295 : decode cX12_init 295 = .ok (.getfield 13, 3) := by decide +kernel
theorem dX12_init_298 : decode cX12_init 298 = .ok (.invokestatic 118, 3) := by decide +kernel
theorem dX12_init_301 : decode cX12_init 301 = .ok (.return_, 1) := by decide +kernel
theorem dX12_copy_0 : decode cX12_copy 0 = .ok (.iconst 0, 1) := by decide +kernel
theorem dX12_copy_1 : decode cX12_copy 1 = .ok (.istore_n 2, 1) := by decide +kernel
theorem dX12_copy_2 : decode cX12_copy 2 = .ok (.iload_n 2, 1) := by decide +kernel
theorem dX12_copy_3 : decode cX12_copy 3 = .ok (.sipush 156, 3) := by decide +kernel
theorem dX12_copy_6 : decode cX12_copy 6 = .ok (.if_icmp .ge 15, 3) := by decide +kernel
theorem dX12_copy_9 : decode cX12_copy 9 = .ok (.aload_n 1, 1) := by decide +kernel
theorem dX12_copy_10 : decode cX12_copy 10 = .ok (.iload_n 2, 1) := by decide +kernel
theorem dX12_copy_11 : decode cX12_copy 11 = .ok (.aload_n 0, 1) := by decide +kernel
theorem dX12_copy_12 : decode cX12_copy 12 = .ok (.iload_n 2, 1) := by decide +kernel
theorem dX12_copy_13 : decode cX12_copy 13 = .ok (.iaload, 1) := by decide +kernel
theorem dX12_copy_14 : decode cX12_copy 14 = .ok (.iastore, 1) := by decide +kernel
theorem dX12_copy_15 : decode cX12_copy 15 = .ok (.iinc 2 1, 3) := by decide +kernel
theorem dX12_copy_18 : decode cX12_copy 18 = .ok (.goto (-16), 3) := by decide +kernel
theorem dX12_copy_21 : decode cX12_copy 21 = .ok (.return_, 1) := by decide +kernel
theorem dX12_isIn_0 : decode cX12_isIn 0 = .ok (.iload_n 0, 1) := by decide +kernel
theorem dX12_isIn_1 : decode cX12_isIn 1 = .ok (.iload_n 1, 1) := by decide +kernel
theorem dX12_isIn_2 : decode cX12_isIn 2 = .ok (.if_icmp .lt 12, 3) := by decide +kernel
theorem dX12_isIn_5 : decode cX12_isIn 5 = .ok (.iload_n 0, 1) := by decide +kernel
theorem dX12_isIn_6 : decode cX12_isIn 6 = .ok (.iload_n 2, 1) := by decide +kernel
theorem dX12_isIn_7 : decode cX12_isIn 7 = .ok (.if_icmp .gt 7, 3) := by decide +kernel
theorem dX12_isIn_10 : decode cX12_isIn 10 = .ok (.iconst 1, 1) := by decide +kernel
theorem dX12_isIn_11 : decode cX12_isIn 11 = .ok (.goto 4, 3) := by decide +kernel
theorem dX12_isIn_14 : decode cX12_isIn 14 = .ok (.iconst 0, 1) := by decide +kernel
theorem dX12_isIn_15 : decode cX12_isIn 15 = .ok (.ireturn, 1) := by decide +kernel
theorem dX12_has_0 : decode cX12_has 0 = .ok (.iload_n 0, 1) := by decide +kernel
theorem dX12_has_1 : decode cX12_has 1 = .ok (.iload_n 1, 1) := by decide +kernel
theorem dX12_has_2 : decode cX12_has 2 = .ok (.ishr, 1) := by decide +kernel
theorem dX12_has_3 : decode cX12_has 3 = .ok (.iconst 1, 1) := by decide +kernel
theorem dX12_has_4 : decode cX12_has 4 = .ok (.iand, 1) := by decide +kernel
theorem dX12_has_5 : decode cX12_has 5 = .ok (.iconst 1, 1) := by decide +kernel
theorem dX12_has_6 : decode cX12_has 6 = .ok (.if_icmp .ne 7, 3) := by decide +kernel
theorem dX12_has_9 : decode cX12_has 9 = .ok (.iconst 1, 1) := by decide +kernel
theorem dX12_has_10 : decode cX12_has 10 = .ok (.goto 4, 3) := by decide +kernel
theorem dX12_has_13 : decode cX12_has 13 = .ok (.iconst 0, 1) := by decide +kernel
theorem dX12_has_14 : decode cX12_has 14 = .ok (.ireturn, 1) := by decide +kernel
theorem dX12_bits_0 : decode cX12_bits 0 = .ok (.iconst 0, 1) := by decide +kernel
theorem dX12_bits_1 : decode cX12_bits 1 = .ok (.istore_n 1, 1) := by decide +kernel
theorem dX12_bits_2 : decode cX12_bits 2 = .ok (.iconst 0, 1) := by decide +kernel
theorem dX12_bits_3 : decode cX12_bits 3 = .ok (.istore_n 2, 1) := by decide +kernel
theorem dX12_bits_4 : decode cX12_bits 4 = .ok (.iload_n 2, 1) := by decide +kernel
theorem dX12_bits_5 : decode cX12_bits 5 = .ok (.bipush 20, 2) := by decide +kernel
theorem dX12_bits_7 : decode cX12_bits 7 = .ok (.if_icmp .ge 17, 3) := by decide +kernel
theorem dX12_bits_10 : decode cX12_bits 10 = .ok (.iload_n 1, 1) := by decide +kernel
theorem dX12_bits_11 : decode cX12_bits 11 = .ok (.iload_n 0, 1) := by decide +kernel
theorem dX12_bits_12 : decode cX12_bits 12 = .ok (.iload_n 2, 1) := by decide +kernel
theorem dX12_bits_13 : decode cX12_bits 13 = .ok (.ishr, 1) := by decide +kernel
theorem dX12_bits_14 : decode cX12_bits 14 = .ok (.iconst 1, 1) := by decide +kernel
theorem dX12_bits_15 : decode cX12_bits 15 = .ok (.iand, 1) := by decide +kernel
theorem dX12_bits_16 : decode cX12_bits 16 = .ok (.iadd, 1) := by decide +kernel
theorem dX12_bits_17 : decode cX12_bits 17 = .ok (.istore_n 1, 1) := by decide +kernel
theorem dX12_bits_18 : decode cX12_bits 18 = .ok (.iinc 2 1, 3) := by decide +kernel
theorem dX12_bits_21 : decode cX12_bits 21 = .ok (.goto (-17), 3) := by decide +kernel
theorem dX12_bits_24 : decode cX12_bits 24 = .ok (.iload_n 1, 1) := by decide +kernel
theorem dX12_bits_25 : decode cX12_bits 25 = .ok (.ireturn, 1) := by decide +kernel
theorem dX12_held_0 : decode cX12_held 0 = .ok (.lload_n 0, 1) := by decide +kernel
theorem dX12_held_1 : decode cX12_held 1 = .ok (.ldc2_w 122, 3) := by decide +kernel
theorem dX12_held_4 : decode cX12_held 4 = .ok (.lcmp, 1) := by decide +kernel
theorem dX12_held_5 : decode cX12_held 5 = .ok (.ifCond .le 9, 3) := by decide +kernel
theorem dX12_held_8 : decode cX12_held 8 = .ok (.ldc2_w 122, 3) := by decide +kernel
theorem dX12_held_11 : decode cX12_held 11 = .ok (.goto 18, 3) := by decide +kernel
theorem dX12_held_14 : decode cX12_held 14 = .ok (.lload_n 0, 1) := by decide +kernel
theorem dX12_held_15 : decode cX12_held 15 = .ok (.ldc2_w 124, 3) := by decide +kernel
theorem dX12_held_18 : decode cX12_held 18 = .ok (.lcmp, 1) := by decide +kernel
theorem dX12_held_19 : decode cX12_held 19 = .ok (.ifCond .ge 9, 3) := by decide +kernel
theorem dX12_held_22 : decode cX12_held 22 = .ok (.ldc2_w 124, 3) := by decide +kernel
theorem dX12_held_25 : decode cX12_held 25 = .ok (.goto 4, 3) := by decide +kernel
theorem dX12_held_28 : decode cX12_held 28 = .ok (.lload_n 0, 1) := by decide +kernel
theorem dX12_held_29 : decode cX12_held 29 = .ok (.lreturn, 1) := by decide +kernel
theorem dX12_isQuestion_0 : decode cX12_isQuestion 0 = .ok (.iload_n 1, 1) := by decide +kernel
theorem dX12_isQuestion_1 : decode cX12_isQuestion 1 = .ok (.iconst 0, 1) := by decide +kernel
theorem dX12_isQuestion_2 : decode cX12_isQuestion 2 = .ok (.aload_n 0, 1) := by decide +kernel
theorem dX12_isQuestion_3 : decode cX12_isQuestion 3 = .ok (.getfield 7, 3) := by decide +kernel
theorem dX12_isQuestion_6 : decode cX12_isQuestion 6 = .ok (.iconst 0, 1) := by decide +kernel
theorem dX12_isQuestion_7 : decode cX12_isQuestion 7 = .ok (.iaload, 1) := by decide +kernel
theorem dX12_isQuestion_8 : decode cX12_isQuestion 8 = .ok (.iconst 1, 1) := by decide +kernel
theorem dX12_isQuestion_9 : decode cX12_isQuestion 9 = .ok (.isub, 1) := by decide +kernel
theorem dX12_isQuestion_10 : decode cX12_isQuestion 10 = .ok (.invokestatic 126, 3) := by decide +kernel
theorem dX12_isQuestion_13 : decode cX12_isQuestion 13 = .ok (.ireturn, 1) := by decide +kernel
theorem dX12_isPupil_0 : decode cX12_isPupil 0 = .ok (.iload_n 1, 1) := by decide +kernel
theorem dX12_isPupil_1 : decode cX12_isPupil 1 = .ok (.iconst 0, 1) := by decide +kernel
theorem dX12_isPupil_2 : decode cX12_isPupil 2 = .ok (.aload_n 0, 1) := by decide +kernel
theorem dX12_isPupil_3 : decode cX12_isPupil 3 = .ok (.getfield 7, 3) := by decide +kernel
theorem dX12_isPupil_6 : decode cX12_isPupil 6 = .ok (.iconst 2, 1) := by decide +kernel
theorem dX12_isPupil_7 : decode cX12_isPupil 7 = .ok (.iaload, 1) := by decide +kernel
theorem dX12_isPupil_8 : decode cX12_isPupil 8 = .ok (.iconst 1, 1) := by decide +kernel
theorem dX12_isPupil_9 : decode cX12_isPupil 9 = .ok (.isub, 1) := by decide +kernel
theorem dX12_isPupil_10 : decode cX12_isPupil 10 = .ok (.invokestatic 126, 3) := by decide +kernel
theorem dX12_isPupil_13 : decode cX12_isPupil 13 = .ok (.ireturn, 1) := by decide +kernel
theorem dX12_isPerson_0 : decode cX12_isPerson 0 = .ok (.iload_n 1, 1) := by decide +kernel
theorem dX12_isPerson_1 : decode cX12_isPerson 1 = .ok (.iconst 0, 1) := by decide +kernel
theorem dX12_isPerson_2 : decode cX12_isPerson 2 = .ok (.aload_n 0, 1) := by decide +kernel
theorem dX12_isPerson_3 : decode cX12_isPerson 3 = .ok (.getfield 7, 3) := by decide +kernel
theorem dX12_isPerson_6 : decode cX12_isPerson 6 = .ok (.iconst 1, 1) := by decide +kernel
theorem dX12_isPerson_7 : decode cX12_isPerson 7 = .ok (.iaload, 1) := by decide +kernel
theorem dX12_isPerson_8 : decode cX12_isPerson 8 = .ok (.iconst 1, 1) := by decide +kernel
theorem dX12_isPerson_9 : decode cX12_isPerson 9 = .ok (.isub, 1) := by decide +kernel
theorem dX12_isPerson_10 : decode cX12_isPerson 10 = .ok (.invokestatic 126, 3) := by decide +kernel
theorem dX12_isPerson_13 : decode cX12_isPerson 13 = .ok (.ireturn, 1) := by decide +kernel
theorem dX12_pupilOf_0 : decode cX12_pupilOf 0 = .ok (.aload_n 0, 1) := by decide +kernel
theorem dX12_pupilOf_1 : decode cX12_pupilOf 1 = .ok (.getfield 7, 3) := by decide +kernel
theorem dX12_pupilOf_4 : decode cX12_pupilOf 4 = .ok (.bipush 74, 2) := by decide +kernel
theorem dX12_pupilOf_6 : decode cX12_pupilOf 6 = .ok (.iconst 5, 1) := by decide +kernel
theorem dX12_pupilOf_7 : decode cX12_pupilOf 7 = .ok (.iload_n 1, 1) := by decide +kernel
theorem dX12_pupilOf_8 : decode cX12_pupilOf 8 = .ok (.imul, 1) := by decide +kernel
theorem dX12_pupilOf_9 : decode cX12_pupilOf 9 = .ok (.iadd, 1) := by decide +kernel
theorem dX12_pupilOf_10 : decode cX12_pupilOf 10 = .ok (.iload_n 2, 1) := by decide +kernel
theorem dX12_pupilOf_11 : decode cX12_pupilOf 11 = .ok (.iadd, 1) := by decide +kernel
theorem dX12_pupilOf_12 : decode cX12_pupilOf 12 = .ok (.iaload, 1) := by decide +kernel
theorem dX12_pupilOf_13 : decode cX12_pupilOf 13 = .ok (.ireturn, 1) := by decide +kernel
theorem dX12_thing_0 : decode cX12_thing 0 = .ok (.iload_n 1, 1) := by decide +kernel
theorem dX12_thing_1 : decode cX12_thing 1 = .ok (.iconst 0, 1) := by decide +kernel
theorem dX12_thing_2 : decode cX12_thing 2 = .ok (.iconst 3, 1) := by decide +kernel
theorem dX12_thing_3 : decode cX12_thing 3 = .ok (.invokestatic 126, 3) := by decide +kernel
theorem dX12_thing_6 : decode cX12_thing 6 = .ok (.ifCond .eq 13, 3) := by decide +kernel
theorem dX12_thing_9 : decode cX12_thing 9 = .ok (.iload_n 2, 1) := by decide +kernel
theorem dX12_thing_10 : decode cX12_thing 10 = .ok (.iconst 0, 1) := by decide +kernel
theorem dX12_thing_11 : decode cX12_thing 11 = .ok (.bipush 99, 2) := by decide +kernel
theorem dX12_thing_13 : decode cX12_thing 13 = .ok (.invokestatic 126, 3) := by decide +kernel
theorem dX12_thing_16 : decode cX12_thing 16 = .ok (.ifCond .ne 5, 3) := by decide +kernel
theorem dX12_thing_19 : decode cX12_thing 19 = .ok (.iconst 0, 1) := by decide +kernel
theorem dX12_thing_20 : decode cX12_thing 20 = .ok (.ireturn, 1) := by decide +kernel
theorem dX12_thing_21 : decode cX12_thing 21 = .ok (.aload_n 0, 1) := by decide +kernel
theorem dX12_thing_22 : decode cX12_thing 22 = .ok (.getfield 7, 3) := by decide +kernel
theorem dX12_thing_25 : decode cX12_thing 25 = .ok (.bipush 10, 2) := by decide +kernel
theorem dX12_thing_27 : decode cX12_thing 27 = .ok (.iload_n 1, 1) := by decide +kernel
theorem dX12_thing_28 : decode cX12_thing 28 = .ok (.iadd, 1) := by decide +kernel
theorem dX12_thing_29 : decode cX12_thing 29 = .ok (.iload_n 2, 1) := by decide +kernel
theorem dX12_thing_30 : decode cX12_thing 30 = .ok (.iastore, 1) := by decide +kernel
theorem dX12_thing_31 : decode cX12_thing 31 = .ok (.iconst 1, 1) := by decide +kernel
theorem dX12_thing_32 : decode cX12_thing 32 = .ok (.ireturn, 1) := by decide +kernel
theorem dX12_isParent_0 : decode cX12_isParent 0 = .ok (.iload_n 1, 1) := by decide +kernel
theorem dX12_isParent_1 : decode cX12_isParent 1 = .ok (.iconst (-1), 1) := by decide +kernel
theorem dX12_isParent_2 : decode cX12_isParent 2 = .ok (.if_icmp .eq 11, 3) := by decide +kernel
theorem dX12_isParent_5 : decode cX12_isParent 5 = .ok (.aload_n 0, 1) := by decide +kernel
theorem dX12_isParent_6 : decode cX12_isParent 6 = .ok (.iload_n 1, 1) := by decide +kernel
theorem dX12_isParent_7 : decode cX12_isParent 7 = .ok (.invokevirtual 130, 3) := by decide +kernel
theorem dX12_isParent_10 : decode cX12_isParent 10 = .ok (.ifCond .eq 7, 3) := by decide +kernel
theorem dX12_isParent_13 : decode cX12_isParent 13 = .ok (.iconst 1, 1) := by decide +kernel
theorem dX12_isParent_14 : decode cX12_isParent 14 = .ok (.goto 4, 3) := by decide +kernel
theorem dX12_isParent_17 : decode cX12_isParent 17 = .ok (.iconst 0, 1) := by decide +kernel
theorem dX12_isParent_18 : decode cX12_isParent 18 = .ok (.ireturn, 1) := by decide +kernel
theorem dX12_person_0 : decode cX12_person 0 = .ok (.iload_n 1, 1) := by decide +kernel
theorem dX12_person_1 : decode cX12_person 1 = .ok (.iconst 0, 1) := by decide +kernel
theorem dX12_person_2 : decode cX12_person 2 = .ok (.bipush 99, 2) := by decide +kernel
theorem dX12_person_4 : decode cX12_person 4 = .ok (.invokestatic 126, 3) := by decide +kernel
theorem dX12_person_7 : decode cX12_person 7 = .ok (.ifCond .eq 39, 3) := by decide +kernel
theorem dX12_person_10 : decode cX12_person 10 = .ok (.aload_n 0, 1) := by decide +kernel
theorem dX12_person_11 : decode cX12_person 11 = .ok (.iload_n 2, 1) := by decide +kernel
theorem dX12_person_12 : decode cX12_person 12 = .ok (.invokevirtual 134, 3) := by decide +kernel
theorem dX12_person_15 : decode cX12_person 15 = .ok (.ifCond .eq 31, 3) := by decide +kernel
theorem dX12_person_18 : decode cX12_person 18 = .ok (.aload_n 0, 1) := by decide +kernel
theorem dX12_person_19 : decode cX12_person 19 = .ok (.iload_n 3, 1) := by decide +kernel
theorem dX12_person_20 : decode cX12_person 20 = .ok (.invokevirtual 134, 3) := by decide +kernel
theorem dX12_person_23 : decode cX12_person 23 = .ok (.ifCond .eq 23, 3) := by decide +kernel
theorem dX12_person_26 : decode cX12_person 26 = .ok (.iload_n 2, 1) := by decide +kernel
theorem dX12_person_27 : decode cX12_person 27 = .ok (.ifCond .lt 8, 3) := by decide +kernel
theorem dX12_person_30 : decode cX12_person 30 = .ok (.iload_n 2, 1) := by decide +kernel
theorem dX12_person_31 : decode cX12_person 31 = .ok (.iload_n 3, 1) := by decide +kernel
theorem dX12_person_32 : decode cX12_person 32 = .ok (.if_icmp .eq 14, 3) := by decide +kernel
theorem dX12_person_35 : decode cX12_person 35 = .ok (.aload_n 0, 1) := by decide +kernel
theorem dX12_person_36 : decode cX12_person 36 = .ok (.getfield 7, 3) := by decide +kernel
theorem dX12_person_39 : decode cX12_person 39 = .ok (.iconst 1, 1) := by decide +kernel
theorem dX12_person_40 : decode cX12_person 40 = .ok (.iaload, 1) := by decide +kernel
theorem dX12_person_41 : decode cX12_person 41 = .ok (.bipush 8, 2) := by decide +kernel
theorem dX12_person_43 : decode cX12_person 43 = .ok (.if_icmp .ne 5, 3) := by decide +kernel
theorem dX12_person_46 : decode cX12_person 46 = .ok (.iconst (-1), 1) := by decide +kernel
theorem dX12_person_47 : decode cX12_person 47 = .ok (.ireturn, 1) := by decide +kernel
theorem dX12_person_48 : decode cX12_person 48 = .ok (.bipush 14, 2) := by decide +kernel
theorem dX12_person_50 : decode cX12_person 50 = .ok (.iconst 3, 1) := by decide +kernel
theorem dX12_person_51 : decode cX12_person 51 = .ok (.aload_n 0, 1) := by decide +kernel
theorem dX12_person_52 : decode cX12_person 52 = .ok (.getfield 7, 3) := by decide +kernel
theorem dX12_person_55 : decode cX12_person 55 = .ok (.iconst 1, 1) := by decide +kernel
theorem dX12_person_56 : decode cX12_person 56 = .ok (.iaload, 1) := by decide +kernel
theorem dX12_person_57 : decode cX12_person 57 = .ok (.imul, 1) := by decide +kernel
theorem dX12_person_58 : decode cX12_person 58 = .ok (.iadd, 1) := by decide +kernel
theorem dX12_person_59 : decode cX12_person 59 = .ok (.istore 4, 2) := by decide +kernel
theorem dX12_person_61 : decode cX12_person 61 = .ok (.aload_n 0, 1) := by decide +kernel
theorem dX12_person_62 : decode cX12_person 62 = .ok (.getfield 7, 3) := by decide +kernel
theorem dX12_person_65 : decode cX12_person 65 = .ok (.iload 4, 2) := by decide +kernel
theorem dX12_person_67 : decode cX12_person 67 = .ok (.iload_n 1, 1) := by decide +kernel
theorem dX12_person_68 : decode cX12_person 68 = .ok (.iastore, 1) := by decide +kernel
theorem dX12_person_69 : decode cX12_person 69 = .ok (.aload_n 0, 1) := by decide +kernel
theorem dX12_person_70 : decode cX12_person 70 = .ok (.getfield 7, 3) := by decide +kernel
theorem dX12_person_73 : decode cX12_person 73 = .ok (.iload 4, 2) := by decide +kernel
theorem dX12_person_75 : decode cX12_person 75 = .ok (.iconst 1, 1) := by decide +kernel
theorem dX12_person_76 : decode cX12_person 76 = .ok (.iadd, 1) := by decide +kernel
theorem dX12_person_77 : decode cX12_person 77 = .ok (.iload_n 2, 1) := by decide +kernel
theorem dX12_person_78 : decode cX12_person 78 = .ok (.iastore, 1) := by decide +kernel
theorem dX12_person_79 : decode cX12_person 79 = .ok (.aload_n 0, 1) := by decide +kernel
theorem dX12_person_80 : decode cX12_person 80 = .ok (.getfield 7, 3) := by decide +kernel
theorem dX12_person_83 : decode cX12_person 83 = .ok (.iload 4, 2) := by decide +kernel
theorem dX12_person_85 : decode cX12_person 85 = .ok (.iconst 2, 1) := by decide +kernel
theorem dX12_person_86 : decode cX12_person 86 = .ok (.iadd, 1) := by decide +kernel
theorem dX12_person_87 : decode cX12_person 87 = .ok (.iload_n 3, 1) := by decide +kernel
theorem dX12_person_88 : decode cX12_person 88 = .ok (.iastore, 1) := by decide +kernel
theorem dX12_person_89 : decode cX12_person 89 = .ok (.aload_n 0, 1) := by decide +kernel
theorem dX12_person_90 : decode cX12_person 90 = .ok (.getfield 7, 3) := by decide +kernel
theorem dX12_person_93 : decode cX12_person 93 = .ok (.iconst 1, 1) := by decide +kernel
theorem dX12_person_94 : decode cX12_person 94 = .ok (.dup2, 1) := by decide +kernel
theorem dX12_person_95 : decode cX12_person 95 = .ok (.iaload, 1) := by decide +kernel
theorem dX12_person_96 : decode cX12_person 96 = .ok (.iconst 1, 1) := by decide +kernel
theorem dX12_person_97 : decode cX12_person 97 = .ok (.iadd, 1) := by decide +kernel
theorem dX12_person_98 : decode cX12_person 98 = .ok (.iastore, 1) := by decide +kernel
theorem dX12_person_99 : decode cX12_person 99 = .ok (.aload_n 0, 1) := by decide +kernel
theorem dX12_person_100 : decode cX12_person 100 = .ok (.getfield 7, 3) := by decide +kernel
theorem dX12_person_103 : decode cX12_person 103 = .ok (.iconst 1, 1) := by decide +kernel
theorem dX12_person_104 : decode cX12_person 104 = .ok (.iaload, 1) := by decide +kernel
theorem dX12_person_105 : decode cX12_person 105 = .ok (.iconst 1, 1) := by decide +kernel
theorem dX12_person_106 : decode cX12_person 106 = .ok (.isub, 1) := by decide +kernel
theorem dX12_person_107 : decode cX12_person 107 = .ok (.ireturn, 1) := by decide +kernel
theorem dX12_road_0 : decode cX12_road 0 = .ok (.iload_n 1, 1) := by decide +kernel
theorem dX12_road_1 : decode cX12_road 1 = .ok (.iconst 0, 1) := by decide +kernel
theorem dX12_road_2 : decode cX12_road 2 = .ok (.iconst 5, 1) := by decide +kernel
theorem dX12_road_3 : decode cX12_road 3 = .ok (.invokestatic 126, 3) := by decide +kernel
theorem dX12_road_6 : decode cX12_road 6 = .ok (.ifCond .eq 27, 3) := by decide +kernel
theorem dX12_road_9 : decode cX12_road 9 = .ok (.iload_n 2, 1) := by decide +kernel
theorem dX12_road_10 : decode cX12_road 10 = .ok (.iconst 0, 1) := by decide +kernel
theorem dX12_road_11 : decode cX12_road 11 = .ok (.iconst 5, 1) := by decide +kernel
theorem dX12_road_12 : decode cX12_road 12 = .ok (.invokestatic 126, 3) := by decide +kernel
theorem dX12_road_15 : decode cX12_road 15 = .ok (.ifCond .eq 18, 3) := by decide +kernel
theorem dX12_road_18 : decode cX12_road 18 = .ok (.iload_n 1, 1) := by decide +kernel
theorem dX12_road_19 : decode cX12_road 19 = .ok (.iload_n 2, 1) := by decide +kernel
theorem dX12_road_20 : decode cX12_road 20 = .ok (.if_icmp .eq 13, 3) := by decide +kernel
theorem dX12_road_23 : decode cX12_road 23 = .ok (.iload_n 3, 1) := by decide +kernel
theorem dX12_road_24 : decode cX12_road 24 = .ok (.iconst 1, 1) := by decide +kernel
theorem dX12_road_25 : decode cX12_road 25 = .ok (.bipush 99, 2) := by decide +kernel
theorem dX12_road_27 : decode cX12_road 27 = .ok (.invokestatic 126, 3) := by decide +kernel
theorem dX12_road_30 : decode cX12_road 30 = .ok (.ifCond .ne 5, 3) := by decide +kernel
theorem dX12_road_33 : decode cX12_road 33 = .ok (.iconst 0, 1) := by decide +kernel
theorem dX12_road_34 : decode cX12_road 34 = .ok (.ireturn, 1) := by decide +kernel
theorem dX12_road_35 : decode cX12_road 35 = .ok (.aload_n 0, 1) := by decide +kernel
theorem dX12_road_36 : decode cX12_road 36 = .ok (.getfield 7, 3) := by decide +kernel
theorem dX12_road_39 : decode cX12_road 39 = .ok (.bipush 38, 2) := by decide +kernel
theorem dX12_road_41 : decode cX12_road 41 = .ok (.bipush 6, 2) := by decide +kernel
theorem dX12_road_43 : decode cX12_road 43 = .ok (.iload_n 1, 1) := by decide +kernel
theorem dX12_road_44 : decode cX12_road 44 = .ok (.imul, 1) := by decide +kernel
theorem dX12_road_45 : decode cX12_road 45 = .ok (.iadd, 1) := by decide +kernel
theorem dX12_road_46 : decode cX12_road 46 = .ok (.iload_n 2, 1) := by decide +kernel
theorem dX12_road_47 : decode cX12_road 47 = .ok (.iadd, 1) := by decide +kernel
theorem dX12_road_48 : decode cX12_road 48 = .ok (.iload_n 3, 1) := by decide +kernel
theorem dX12_road_49 : decode cX12_road 49 = .ok (.iastore, 1) := by decide +kernel
theorem dX12_road_50 : decode cX12_road 50 = .ok (.aload_n 0, 1) := by decide +kernel
theorem dX12_road_51 : decode cX12_road 51 = .ok (.getfield 7, 3) := by decide +kernel
theorem dX12_road_54 : decode cX12_road 54 = .ok (.bipush 38, 2) := by decide +kernel
theorem dX12_road_56 : decode cX12_road 56 = .ok (.bipush 6, 2) := by decide +kernel
theorem dX12_road_58 : decode cX12_road 58 = .ok (.iload_n 2, 1) := by decide +kernel
theorem dX12_road_59 : decode cX12_road 59 = .ok (.imul, 1) := by decide +kernel
theorem dX12_road_60 : decode cX12_road 60 = .ok (.iadd, 1) := by decide +kernel
theorem dX12_road_61 : decode cX12_road 61 = .ok (.iload_n 1, 1) := by decide +kernel
theorem dX12_road_62 : decode cX12_road 62 = .ok (.iadd, 1) := by decide +kernel
theorem dX12_road_63 : decode cX12_road 63 = .ok (.iload_n 3, 1) := by decide +kernel
theorem dX12_road_64 : decode cX12_road 64 = .ok (.iastore, 1) := by decide +kernel
theorem dX12_road_65 : decode cX12_road 65 = .ok (.iconst 1, 1) := by decide +kernel
theorem dX12_road_66 : decode cX12_road 66 = .ok (.ireturn, 1) := by decide +kernel
theorem dX12_isChild_0 : decode cX12_isChild 0 = .ok (.aload_n 0, 1) := by decide +kernel
theorem dX12_isChild_1 : decode cX12_isChild 1 = .ok (.getfield 7, 3) := by decide +kernel
theorem dX12_isChild_4 : decode cX12_isChild 4 = .ok (.bipush 14, 2) := by decide +kernel
theorem dX12_isChild_6 : decode cX12_isChild 6 = .ok (.iconst 3, 1) := by decide +kernel
theorem dX12_isChild_7 : decode cX12_isChild 7 = .ok (.iload_n 1, 1) := by decide +kernel
theorem dX12_isChild_8 : decode cX12_isChild 8 = .ok (.imul, 1) := by decide +kernel
theorem dX12_isChild_9 : decode cX12_isChild 9 = .ok (.iadd, 1) := by decide +kernel
theorem dX12_isChild_10 : decode cX12_isChild 10 = .ok (.iconst 1, 1) := by decide +kernel
theorem dX12_isChild_11 : decode cX12_isChild 11 = .ok (.iadd, 1) := by decide +kernel
theorem dX12_isChild_12 : decode cX12_isChild 12 = .ok (.iaload, 1) := by decide +kernel
theorem dX12_isChild_13 : decode cX12_isChild 13 = .ok (.iload_n 2, 1) := by decide +kernel
theorem dX12_isChild_14 : decode cX12_isChild 14 = .ok (.if_icmp .eq 20, 3) := by decide +kernel
theorem dX12_isChild_17 : decode cX12_isChild 17 = .ok (.aload_n 0, 1) := by decide +kernel
theorem dX12_isChild_18 : decode cX12_isChild 18 = .ok (.getfield 7, 3) := by decide +kernel
theorem dX12_isChild_21 : decode cX12_isChild 21 = .ok (.bipush 14, 2) := by decide +kernel
theorem dX12_isChild_23 : decode cX12_isChild 23 = .ok (.iconst 3, 1) := by decide +kernel
theorem dX12_isChild_24 : decode cX12_isChild 24 = .ok (.iload_n 1, 1) := by decide +kernel
theorem dX12_isChild_25 : decode cX12_isChild 25 = .ok (.imul, 1) := by decide +kernel
theorem dX12_isChild_26 : decode cX12_isChild 26 = .ok (.iadd, 1) := by decide +kernel
theorem dX12_isChild_27 : decode cX12_isChild 27 = .ok (.iconst 2, 1) := by decide +kernel
theorem dX12_isChild_28 : decode cX12_isChild 28 = .ok (.iadd, 1) := by decide +kernel
theorem dX12_isChild_29 : decode cX12_isChild 29 = .ok (.iaload, 1) := by decide +kernel
theorem dX12_isChild_30 : decode cX12_isChild 30 = .ok (.iload_n 2, 1) := by decide +kernel
theorem dX12_isChild_31 : decode cX12_isChild 31 = .ok (.if_icmp .ne 7, 3) := by decide +kernel
theorem dX12_isChild_34 : decode cX12_isChild 34 = .ok (.iconst 1, 1) := by decide +kernel
theorem dX12_isChild_35 : decode cX12_isChild 35 = .ok (.goto 4, 3) := by decide +kernel
theorem dX12_isChild_38 : decode cX12_isChild 38 = .ok (.iconst 0, 1) := by decide +kernel
theorem dX12_isChild_39 : decode cX12_isChild 39 = .ok (.ireturn, 1) := by decide +kernel
theorem dX12_close_0 : decode cX12_close 0 = .ok (.iconst 0, 1) := by decide +kernel
theorem dX12_close_1 : decode cX12_close 1 = .ok (.istore_n 3, 1) := by decide +kernel
theorem dX12_close_2 : decode cX12_close 2 = .ok (.iload_n 3, 1) := by decide +kernel
theorem dX12_close_3 : decode cX12_close 3 = .ok (.iload_n 1, 1) := by decide +kernel
theorem dX12_close_4 : decode cX12_close 4 = .ok (.if_icmp .ge 83, 3) := by decide +kernel
theorem dX12_close_7 : decode cX12_close 7 = .ok (.iconst 0, 1) := by decide +kernel
theorem dX12_close_8 : decode cX12_close 8 = .ok (.istore 4, 2) := by decide +kernel
theorem dX12_close_10 : decode cX12_close 10 = .ok (.iload 4, 2) := by decide +kernel
theorem dX12_close_12 : decode cX12_close 12 = .ok (.iload_n 1, 1) := by decide +kernel
theorem dX12_close_13 : decode cX12_close 13 = .ok (.if_icmp .ge 68, 3) := by decide +kernel
theorem dX12_close_16 : decode cX12_close 16 = .ok (.iconst 0, 1) := by decide +kernel
theorem dX12_close_17 : decode cX12_close 17 = .ok (.istore 5, 2) := by decide +kernel
theorem dX12_close_19 : decode cX12_close 19 = .ok (.iload 5, 2) := by decide +kernel
theorem dX12_close_21 : decode cX12_close 21 = .ok (.iload_n 1, 1) := by decide +kernel
theorem dX12_close_22 : decode cX12_close 22 = .ok (.if_icmp .ge 53, 3) := by decide +kernel
theorem dX12_close_25 : decode cX12_close 25 = .ok (.aload_n 0, 1) := by decide +kernel
theorem dX12_close_26 : decode cX12_close 26 = .ok (.iload_n 2, 1) := by decide +kernel
theorem dX12_close_27 : decode cX12_close 27 = .ok (.iload 4, 2) := by decide +kernel
theorem dX12_close_29 : decode cX12_close 29 = .ok (.imul, 1) := by decide +kernel
theorem dX12_close_30 : decode cX12_close 30 = .ok (.iload_n 3, 1) := by decide +kernel
theorem dX12_close_31 : decode cX12_close 31 = .ok (.iadd, 1) := by decide +kernel
theorem dX12_close_32 : decode cX12_close 32 = .ok (.iaload, 1) := by decide +kernel
theorem dX12_close_33 : decode cX12_close 33 = .ok (.aload_n 0, 1) := by decide +kernel
theorem dX12_close_34 : decode cX12_close 34 = .ok (.iload_n 2, 1) := by decide +kernel
theorem dX12_close_35 : decode cX12_close 35 = .ok (.iload_n 3, 1) := by decide +kernel
theorem dX12_close_36 : decode cX12_close 36 = .ok (.imul, 1) := by decide +kernel
theorem dX12_close_37 : decode cX12_close 37 = .ok (.iload 5, 2) := by decide +kernel
theorem dX12_close_39 : decode cX12_close 39 = .ok (.iadd, 1) := by decide +kernel
theorem dX12_close_40 : decode cX12_close 40 = .ok (.iaload, 1) := by decide +kernel
theorem dX12_close_41 : decode cX12_close 41 = .ok (.iadd, 1) := by decide +kernel
theorem dX12_close_42 : decode cX12_close 42 = .ok (.istore 6, 2) := by decide +kernel
theorem dX12_close_44 : decode cX12_close 44 = .ok (.iload 6, 2) := by decide +kernel
theorem dX12_close_46 : decode cX12_close 46 = .ok (.aload_n 0, 1) := by decide +kernel
theorem dX12_close_47 : decode cX12_close 47 = .ok (.iload_n 2, 1) := by decide +kernel
theorem dX12_close_48 : decode cX12_close 48 = .ok (.iload 4, 2) := by decide +kernel
theorem dX12_close_50 : decode cX12_close 50 = .ok (.imul, 1) := by decide +kernel
theorem dX12_close_51 : decode cX12_close 51 = .ok (.iload 5, 2) := by decide +kernel
theorem dX12_close_53 : decode cX12_close 53 = .ok (.iadd, 1) := by decide +kernel
theorem dX12_close_54 : decode cX12_close 54 = .ok (.iaload, 1) := by decide +kernel
theorem dX12_close_55 : decode cX12_close 55 = .ok (.if_icmp .ge 14, 3) := by decide +kernel
theorem dX12_close_58 : decode cX12_close 58 = .ok (.aload_n 0, 1) := by decide +kernel
theorem dX12_close_59 : decode cX12_close 59 = .ok (.iload_n 2, 1) := by decide +kernel
theorem dX12_close_60 : decode cX12_close 60 = .ok (.iload 4, 2) := by decide +kernel
theorem dX12_close_62 : decode cX12_close 62 = .ok (.imul, 1) := by decide +kernel
theorem dX12_close_63 : decode cX12_close 63 = .ok (.iload 5, 2) := by decide +kernel
theorem dX12_close_65 : decode cX12_close 65 = .ok (.iadd, 1) := by decide +kernel
theorem dX12_close_66 : decode cX12_close 66 = .ok (.iload 6, 2) := by decide +kernel
theorem dX12_close_68 : decode cX12_close 68 = .ok (.iastore, 1) := by decide +kernel
theorem dX12_close_69 : decode cX12_close 69 = .ok (.iinc 5 1, 3) := by decide +kernel
theorem dX12_close_72 : decode cX12_close 72 = .ok (.goto (-53), 3) := by decide +kernel
theorem dX12_close_75 : decode cX12_close 75 = .ok (.iinc 4 1, 3) := by decide +kernel
theorem dX12_close_78 : decode cX12_close 78 = .ok (.goto (-68), 3) := by decide +kernel
theorem dX12_close_81 : decode cX12_close 81 = .ok (.iinc 3 1, 3) := by decide +kernel
theorem dX12_close_84 : decode cX12_close 84 = .ok (.goto (-82), 3) := by decide +kernel
theorem dX12_close_87 : decode cX12_close 87 = .ok (.return_, 1) := by decide +kernel
theorem dX12_findKin_0 : decode cX12_findKin 0 = .ok (.aload_n 0, 1) := by decide +kernel
theorem dX12_findKin_1 : decode cX12_findKin 1 = .ok (.getfield 7, 3) := by decide +kernel
theorem dX12_findKin_4 : decode cX12_findKin 4 = .ok (.iconst 1, 1) := by decide +kernel
theorem dX12_findKin_5 : decode cX12_findKin 5 = .ok (.iaload, 1) := by decide +kernel
theorem dX12_findKin_6 : decode cX12_findKin 6 = .ok (.istore_n 1, 1) := by decide +kernel
theorem dX12_findKin_7 : decode cX12_findKin 7 = .ok (.iconst 0, 1) := by decide +kernel
theorem dX12_findKin_8 : decode cX12_findKin 8 = .ok (.istore_n 2, 1) := by decide +kernel
theorem dX12_findKin_9 : decode cX12_findKin 9 = .ok (.iload_n 2, 1) := by decide +kernel
theorem dX12_findKin_10 : decode cX12_findKin 10 = .ok (.iload_n 1, 1) := by decide +kernel
theorem dX12_findKin_11 : decode cX12_findKin 11 = .ok (.if_icmp .ge 66, 3) := by decide +kernel
theorem dX12_findKin_14 : decode cX12_findKin 14 = .ok (.iconst 0, 1) := by decide +kernel
theorem dX12_findKin_15 : decode cX12_findKin 15 = .ok (.istore_n 3, 1) := by decide +kernel
theorem dX12_findKin_16 : decode cX12_findKin 16 = .ok (.iload_n 3, 1) := by decide +kernel
theorem dX12_findKin_17 : decode cX12_findKin 17 = .ok (.iload_n 1, 1) := by decide +kernel
theorem dX12_findKin_18 : decode cX12_findKin 18 = .ok (.if_icmp .ge 53, 3) := by decide +kernel
theorem dX12_findKin_21 : decode cX12_findKin 21 = .ok (.aload_n 0, 1) := by decide +kernel
theorem dX12_findKin_22 : decode cX12_findKin 22 = .ok (.getfield 16, 3) := by decide +kernel
theorem dX12_findKin_25 : decode cX12_findKin 25 = .ok (.bipush 8, 2) := by decide +kernel
theorem dX12_findKin_27 : decode cX12_findKin 27 = .ok (.iload_n 2, 1) := by decide +kernel
theorem dX12_findKin_28 : decode cX12_findKin 28 = .ok (.imul, 1) := by decide +kernel
theorem dX12_findKin_29 : decode cX12_findKin 29 = .ok (.iload_n 3, 1) := by decide +kernel
theorem dX12_findKin_30 : decode cX12_findKin 30 = .ok (.iadd, 1) := by decide +kernel
theorem dX12_findKin_31 : decode cX12_findKin 31 = .ok (.iload_n 2, 1) := by decide +kernel
theorem dX12_findKin_32 : decode cX12_findKin 32 = .ok (.iload_n 3, 1) := by decide +kernel
theorem dX12_findKin_33 : decode cX12_findKin 33 = .ok (.if_icmp .ne 7, 3) := by decide +kernel
theorem dX12_findKin_36 : decode cX12_findKin 36 = .ok (.iconst 0, 1) := by decide +kernel
theorem dX12_findKin_37 : decode cX12_findKin 37 = .ok (.goto 27, 3) := by decide +kernel
theorem dX12_findKin_40 : decode cX12_findKin 40 = .ok (.aload_n 0, 1) := by decide +kernel
theorem dX12_findKin_41 : decode cX12_findKin 41 = .ok (.iload_n 2, 1) := by decide +kernel
theorem dX12_findKin_42 : decode cX12_findKin 42 = .ok (.iload_n 3, 1) := by decide +kernel
theorem dX12_findKin_43 : decode cX12_findKin 43 = .ok (.invokevirtual 137, 3) := by decide +kernel
theorem dX12_findKin_46 : decode cX12_findKin 46 = .ok (.ifCond .ne 12, 3) := by decide +kernel
theorem dX12_findKin_49 : decode cX12_findKin 49 = .ok (.aload_n 0, 1) := by decide +kernel
theorem dX12_findKin_50 : decode cX12_findKin 50 = .ok (.iload_n 3, 1) := by decide +kernel
theorem dX12_findKin_51 : decode cX12_findKin 51 = .ok (.iload_n 2, 1) := by decide +kernel
theorem dX12_findKin_52 : decode cX12_findKin 52 = .ok (.invokevirtual 137, 3) := by decide +kernel
theorem dX12_findKin_55 : decode cX12_findKin 55 = .ok (.ifCond .eq 7, 3) := by decide +kernel
theorem dX12_findKin_58 : decode cX12_findKin 58 = .ok (.iconst 1, 1) := by decide +kernel
theorem dX12_findKin_59 : decode cX12_findKin 59 = .ok (.goto 5, 3) := by decide +kernel
theorem dX12_findKin_62 : decode cX12_findKin 62 = .ok (.ldc 141, 2) := by decide +kernel
theorem dX12_findKin_64 : decode cX12_findKin 64 = .ok (.iastore, 1) := by decide +kernel
theorem dX12_findKin_65 : decode cX12_findKin 65 = .ok (.iinc 3 1, 3) := by decide +kernel
theorem dX12_findKin_68 : decode cX12_findKin 68 = .ok (.goto (-52), 3) := by decide +kernel
theorem dX12_findKin_71 : decode cX12_findKin 71 = .ok (.iinc 2 1, 3) := by decide +kernel
theorem dX12_findKin_74 : decode cX12_findKin 74 = .ok (.goto (-65), 3) := by decide +kernel
theorem dX12_findKin_77 : decode cX12_findKin 77 = .ok (.aload_n 0, 1) := by decide +kernel
theorem dX12_findKin_78 : decode cX12_findKin 78 = .ok (.getfield 16, 3) := by decide +kernel
theorem dX12_findKin_81 : decode cX12_findKin 81 = .ok (.iload_n 1, 1) := by decide +kernel
theorem dX12_findKin_82 : decode cX12_findKin 82 = .ok (.bipush 8, 2) := by decide +kernel
theorem dX12_findKin_84 : decode cX12_findKin 84 = .ok (.invokestatic 142, 3) := by decide +kernel
theorem dX12_findKin_87 : decode cX12_findKin 87 = .ok (.iconst 0, 1) := by decide +kernel
theorem dX12_findKin_88 : decode cX12_findKin 88 = .ok (.istore_n 2, 1) := by decide +kernel
theorem dX12_findKin_89 : decode cX12_findKin 89 = .ok (.iload_n 2, 1) := by decide +kernel
theorem dX12_findKin_90 : decode cX12_findKin 90 = .ok (.bipush 6, 2) := by decide +kernel
theorem dX12_findKin_92 : decode cX12_findKin 92 = .ok (.if_icmp .ge 79, 3) := by decide +kernel
theorem dX12_findKin_95 : decode cX12_findKin 95 = .ok (.iconst 0, 1) := by decide +kernel
theorem dX12_findKin_96 : decode cX12_findKin 96 = .ok (.istore_n 3, 1) := by decide +kernel
theorem dX12_findKin_97 : decode cX12_findKin 97 = .ok (.iload_n 3, 1) := by decide +kernel
theorem dX12_findKin_98 : decode cX12_findKin 98 = .ok (.bipush 6, 2) := by decide +kernel
theorem dX12_findKin_100 : decode cX12_findKin 100 = .ok (.if_icmp .ge 65, 3) := by decide +kernel
theorem dX12_findKin_103 : decode cX12_findKin 103 = .ok (.aload_n 0, 1) := by decide +kernel
theorem dX12_findKin_104 : decode cX12_findKin 104 = .ok (.getfield 19, 3) := by decide +kernel
theorem dX12_findKin_107 : decode cX12_findKin 107 = .ok (.bipush 6, 2) := by decide +kernel
theorem dX12_findKin_109 : decode cX12_findKin 109 = .ok (.iload_n 2, 1) := by decide +kernel
theorem dX12_findKin_110 : decode cX12_findKin 110 = .ok (.imul, 1) := by decide +kernel
theorem dX12_findKin_111 : decode cX12_findKin 111 = .ok (.iload_n 3, 1) := by decide +kernel
theorem dX12_findKin_112 : decode cX12_findKin 112 = .ok (.iadd, 1) := by decide +kernel
theorem dX12_findKin_113 : decode cX12_findKin 113 = .ok (.iload_n 2, 1) := by decide +kernel
theorem dX12_findKin_114 : decode cX12_findKin 114 = .ok (.iload_n 3, 1) := by decide +kernel
theorem dX12_findKin_115 : decode cX12_findKin 115 = .ok (.if_icmp .ne 7, 3) := by decide +kernel
theorem dX12_findKin_118 : decode cX12_findKin 118 = .ok (.iconst 0, 1) := by decide +kernel
theorem dX12_findKin_119 : decode cX12_findKin 119 = .ok (.goto 39, 3) := by decide +kernel
theorem dX12_findKin_122 : decode cX12_findKin 122 = .ok (.aload_n 0, 1) := by decide +kernel
theorem dX12_findKin_123 : decode cX12_findKin 123 = .ok (.getfield 7, 3) := by decide +kernel
theorem dX12_findKin_126 : decode cX12_findKin 126 = .ok (.bipush 38, 2) := by decide +kernel
theorem dX12_findKin_128 : decode cX12_findKin 128 = .ok (.bipush 6, 2) := by decide +kernel
theorem dX12_findKin_130 : decode cX12_findKin 130 = .ok (.iload_n 2, 1) := by decide +kernel
theorem dX12_findKin_131 : decode cX12_findKin 131 = .ok (.imul, 1) := by decide +kernel
theorem dX12_findKin_132 : decode cX12_findKin 132 = .ok (.iadd, 1) := by decide +kernel
theorem dX12_findKin_133 : decode cX12_findKin 133 = .ok (.iload_n 3, 1) := by decide +kernel
theorem dX12_findKin_134 : decode cX12_findKin 134 = .ok (.iadd, 1) := by decide +kernel
theorem dX12_findKin_135 : decode cX12_findKin 135 = .ok (.iaload, 1) := by decide +kernel
theorem dX12_findKin_136 : decode cX12_findKin 136 = .ok (.ifCond .le 20, 3) := by decide +kernel
theorem dX12_findKin_139 : decode cX12_findKin 139 = .ok (.aload_n 0, 1) := by decide +kernel
theorem dX12_findKin_140 : decode cX12_findKin 140 = .ok (.getfield 7, 3) := by decide +kernel
theorem dX12_findKin_143 : decode cX12_findKin 143 = .ok (.bipush 38, 2) := by decide +kernel
theorem dX12_findKin_145 : decode cX12_findKin 145 = .ok (.bipush 6, 2) := by decide +kernel
theorem dX12_findKin_147 : decode cX12_findKin 147 = .ok (.iload_n 2, 1) := by decide +kernel
theorem dX12_findKin_148 : decode cX12_findKin 148 = .ok (.imul, 1) := by decide +kernel
theorem dX12_findKin_149 : decode cX12_findKin 149 = .ok (.iadd, 1) := by decide +kernel
theorem dX12_findKin_150 : decode cX12_findKin 150 = .ok (.iload_n 3, 1) := by decide +kernel
theorem dX12_findKin_151 : decode cX12_findKin 151 = .ok (.iadd, 1) := by decide +kernel
theorem dX12_findKin_152 : decode cX12_findKin 152 = .ok (.iaload, 1) := by decide +kernel
theorem dX12_findKin_153 : decode cX12_findKin 153 = .ok (.goto 5, 3) := by decide +kernel
theorem dX12_findKin_156 : decode cX12_findKin 156 = .ok (.ldc 141, 2) := by decide +kernel
theorem dX12_findKin_158 : decode cX12_findKin 158 = .ok (.iastore, 1) := by decide +kernel
theorem dX12_findKin_159 : decode cX12_findKin 159 = .ok (.iinc 3 1, 3) := by decide +kernel
theorem dX12_findKin_162 : decode cX12_findKin 162 = .ok (.goto (-65), 3) := by decide +kernel
theorem dX12_findKin_165 : decode cX12_findKin 165 = .ok (.iinc 2 1, 3) := by decide +kernel
theorem dX12_findKin_168 : decode cX12_findKin 168 = .ok (.goto (-79), 3) := by decide +kernel
theorem dX12_findKin_171 : decode cX12_findKin 171 = .ok (.aload_n 0, 1) := by decide +kernel
theorem dX12_findKin_172 : decode cX12_findKin 172 = .ok (.getfield 19, 3) := by decide +kernel
theorem dX12_findKin_175 : decode cX12_findKin 175 = .ok (.bipush 6, 2) := by decide +kernel
theorem dX12_findKin_177 : decode cX12_findKin 177 = .ok (.bipush 6, 2) := by decide +kernel
theorem dX12_findKin_179 : decode cX12_findKin 179 = .ok (.invokestatic 142, 3) := by decide +kernel
theorem dX12_findKin_182 : decode cX12_findKin 182 = .ok (.return_, 1) := by decide +kernel
theorem dX12_known_0 : decode cX12_known 0 = .ok (.iload_n 0, 1) := by decide +kernel
theorem dX12_known_1 : decode cX12_known 1 = .ok (.ldc 141, 2) := by decide +kernel
theorem dX12_known_3 : decode cX12_known 3 = .ok (.if_icmp .lt 7, 3) := by decide +kernel
theorem dX12_known_6 : decode cX12_known 6 = .ok (.iconst (-1), 1) := by decide +kernel
theorem dX12_known_7 : decode cX12_known 7 = .ok (.goto 4, 3) := by decide +kernel
theorem dX12_known_10 : decode cX12_known 10 = .ok (.iload_n 0, 1) := by decide +kernel
theorem dX12_known_11 : decode cX12_known 11 = .ok (.ireturn, 1) := by decide +kernel
theorem dX12_kin_0 : decode cX12_kin 0 = .ok (.aload_n 0, 1) := by decide +kernel
theorem dX12_kin_1 : decode cX12_kin 1 = .ok (.iload_n 1, 1) := by decide +kernel
theorem dX12_kin_2 : decode cX12_kin 2 = .ok (.invokevirtual 130, 3) := by decide +kernel
theorem dX12_kin_5 : decode cX12_kin 5 = .ok (.ifCond .eq 11, 3) := by decide +kernel
theorem dX12_kin_8 : decode cX12_kin 8 = .ok (.aload_n 0, 1) := by decide +kernel
theorem dX12_kin_9 : decode cX12_kin 9 = .ok (.iload_n 2, 1) := by decide +kernel
theorem dX12_kin_10 : decode cX12_kin 10 = .ok (.invokevirtual 130, 3) := by decide +kernel
theorem dX12_kin_13 : decode cX12_kin 13 = .ok (.ifCond .ne 6, 3) := by decide +kernel
theorem dX12_kin_16 : decode cX12_kin 16 = .ok (.bipush (-2), 2) := by decide +kernel
theorem dX12_kin_18 : decode cX12_kin 18 = .ok (.ireturn, 1) := by decide +kernel
theorem dX12_kin_19 : decode cX12_kin 19 = .ok (.aload_n 0, 1) := by decide +kernel
theorem dX12_kin_20 : decode cX12_kin 20 = .ok (.invokevirtual 146, 3) := by decide +kernel
theorem dX12_kin_23 : decode cX12_kin 23 = .ok (.aload_n 0, 1) := by decide +kernel
theorem dX12_kin_24 : decode cX12_kin 24 = .ok (.getfield 16, 3) := by decide +kernel
theorem dX12_kin_27 : decode cX12_kin 27 = .ok (.bipush 8, 2) := by decide +kernel
theorem dX12_kin_29 : decode cX12_kin 29 = .ok (.iload_n 1, 1) := by decide +kernel
theorem dX12_kin_30 : decode cX12_kin 30 = .ok (.imul, 1) := by decide +kernel
theorem dX12_kin_31 : decode cX12_kin 31 = .ok (.iload_n 2, 1) := by decide +kernel
theorem dX12_kin_32 : decode cX12_kin 32 = .ok (.iadd, 1) := by decide +kernel
theorem dX12_kin_33 : decode cX12_kin 33 = .ok (.iaload, 1) := by decide +kernel
theorem dX12_kin_34 : decode cX12_kin 34 = .ok (.invokestatic 149, 3) := by decide +kernel
theorem dX12_kin_37 : decode cX12_kin 37 = .ok (.ireturn, 1) := by decide +kernel
theorem dX12_way_0 : decode cX12_way 0 = .ok (.iload_n 1, 1) := by decide +kernel
theorem dX12_way_1 : decode cX12_way 1 = .ok (.iconst 0, 1) := by decide +kernel
theorem dX12_way_2 : decode cX12_way 2 = .ok (.iconst 5, 1) := by decide +kernel
theorem dX12_way_3 : decode cX12_way 3 = .ok (.invokestatic 126, 3) := by decide +kernel
theorem dX12_way_6 : decode cX12_way 6 = .ok (.ifCond .eq 12, 3) := by decide +kernel
theorem dX12_way_9 : decode cX12_way 9 = .ok (.iload_n 2, 1) := by decide +kernel
theorem dX12_way_10 : decode cX12_way 10 = .ok (.iconst 0, 1) := by decide +kernel
theorem dX12_way_11 : decode cX12_way 11 = .ok (.iconst 5, 1) := by decide +kernel
theorem dX12_way_12 : decode cX12_way 12 = .ok (.invokestatic 126, 3) := by decide +kernel
theorem dX12_way_15 : decode cX12_way 15 = .ok (.ifCond .ne 6, 3) := by decide +kernel
theorem dX12_way_18 : decode cX12_way 18 = .ok (.bipush (-2), 2) := by decide +kernel
theorem dX12_way_20 : decode cX12_way 20 = .ok (.ireturn, 1) := by decide +kernel
theorem dX12_way_21 : decode cX12_way 21 = .ok (.aload_n 0, 1) := by decide +kernel
theorem dX12_way_22 : decode cX12_way 22 = .ok (.invokevirtual 146, 3) := by decide +kernel
theorem dX12_way_25 : decode cX12_way 25 = .ok (.aload_n 0, 1) := by decide +kernel
theorem dX12_way_26 : decode cX12_way 26 = .ok (.getfield 19, 3) := by decide +kernel
theorem dX12_way_29 : decode cX12_way 29 = .ok (.bipush 6, 2) := by decide +kernel
theorem dX12_way_31 : decode cX12_way 31 = .ok (.iload_n 1, 1) := by decide +kernel
theorem dX12_way_32 : decode cX12_way 32 = .ok (.imul, 1) := by decide +kernel
theorem dX12_way_33 : decode cX12_way 33 = .ok (.iload_n 2, 1) := by decide +kernel
theorem dX12_way_34 : decode cX12_way 34 = .ok (.iadd, 1) := by decide +kernel
theorem dX12_way_35 : decode cX12_way 35 = .ok (.iaload, 1) := by decide +kernel
theorem dX12_way_36 : decode cX12_way 36 = .ok (.invokestatic 149, 3) := by decide +kernel
theorem dX12_way_39 : decode cX12_way 39 = .ok (.ireturn, 1) := by decide +kernel
theorem dX12_four_0 : decode cX12_four 0 = .ok (.iconst 3, 1) := by decide +kernel
theorem dX12_four_1 : decode cX12_four 1 = .ok (.istore_n 2, 1) := by decide +kernel
theorem dX12_four_2 : decode cX12_four 2 = .ok (.iload_n 2, 1) := by decide +kernel
theorem dX12_four_3 : decode cX12_four 3 = .ok (.ifCond .lt 38, 3) := by decide +kernel
theorem dX12_four_6 : decode cX12_four 6 = .ok (.aload_n 0, 1) := by decide +kernel
theorem dX12_four_7 : decode cX12_four 7 = .ok (.getfield 22, 3) := by decide +kernel
theorem dX12_four_10 : decode cX12_four 10 = .ok (.aload_n 0, 1) := by decide +kernel
theorem dX12_four_11 : decode cX12_four 11 = .ok (.getfield 153, 3) := by decide +kernel
theorem dX12_four_14 : decode cX12_four 14 = .ok (.iload_n 1, 1) := by decide +kernel
theorem dX12_four_15 : decode cX12_four 15 = .ok (.bipush 8, 2) := by decide +kernel
theorem dX12_four_17 : decode cX12_four 17 = .ok (.iload_n 2, 1) := by decide +kernel
theorem dX12_four_18 : decode cX12_four 18 = .ok (.imul, 1) := by decide +kernel
theorem dX12_four_19 : decode cX12_four 19 = .ok (.ishr, 1) := by decide +kernel
theorem dX12_four_20 : decode cX12_four 20 = .ok (.sipush 255, 3) := by decide +kernel
theorem dX12_four_23 : decode cX12_four 23 = .ok (.iand, 1) := by decide +kernel
theorem dX12_four_24 : decode cX12_four 24 = .ok (.iastore, 1) := by decide +kernel
theorem dX12_four_25 : decode cX12_four 25 = .ok (.aload_n 0, 1) := by decide +kernel
theorem dX12_four_26 : decode cX12_four 26 = .ok (.dup, 1) := by decide +kernel
theorem dX12_four_27 : decode cX12_four 27 = .ok (.getfield 153, 3) := by decide +kernel
theorem dX12_four_30 : decode cX12_four 30 = .ok (.iconst 1, 1) := by decide +kernel
theorem dX12_four_31 : decode cX12_four 31 = .ok (.iadd, 1) := by decide +kernel
theorem dX12_four_32 : decode cX12_four 32 = .ok (.putfield 153, 3) := by decide +kernel
theorem dX12_four_35 : decode cX12_four 35 = .ok (.iinc 2 (-1), 3) := by decide +kernel
theorem dX12_four_38 : decode cX12_four 38 = .ok (.goto (-36), 3) := by decide +kernel
theorem dX12_four_41 : decode cX12_four 41 = .ok (.return_, 1) := by decide +kernel
theorem dX12_feed_0 : decode cX12_feed 0 = .ok (.aload_n 0, 1) := by decide +kernel
theorem dX12_feed_1 : decode cX12_feed 1 = .ok (.getfield 153, 3) := by decide +kernel
theorem dX12_feed_4 : decode cX12_feed 4 = .ok (.bipush 20, 2) := by decide +kernel
theorem dX12_feed_6 : decode cX12_feed 6 = .ok (.iadd, 1) := by decide +kernel
theorem dX12_feed_7 : decode cX12_feed 7 = .ok (.sipush 300, 3) := by decide +kernel
theorem dX12_feed_10 : decode cX12_feed 10 = .ok (.if_icmp .le 5, 3) := by decide +kernel
theorem dX12_feed_13 : decode cX12_feed 13 = .ok (.iconst (-1), 1) := by decide +kernel
theorem dX12_feed_14 : decode cX12_feed 14 = .ok (.ireturn, 1) := by decide +kernel
theorem dX12_feed_15 : decode cX12_feed 15 = .ok (.aload_n 0, 1) := by decide +kernel
theorem dX12_feed_16 : decode cX12_feed 16 = .ok (.iload_n 1, 1) := by decide +kernel
theorem dX12_feed_17 : decode cX12_feed 17 = .ok (.invokevirtual 156, 3) := by decide +kernel
theorem dX12_feed_20 : decode cX12_feed 20 = .ok (.aload_n 0, 1) := by decide +kernel
theorem dX12_feed_21 : decode cX12_feed 21 = .ok (.iload_n 2, 1) := by decide +kernel
theorem dX12_feed_22 : decode cX12_feed 22 = .ok (.invokevirtual 156, 3) := by decide +kernel
theorem dX12_feed_25 : decode cX12_feed 25 = .ok (.aload_n 0, 1) := by decide +kernel
theorem dX12_feed_26 : decode cX12_feed 26 = .ok (.iload_n 3, 1) := by decide +kernel
theorem dX12_feed_27 : decode cX12_feed 27 = .ok (.invokevirtual 156, 3) := by decide +kernel
theorem dX12_feed_30 : decode cX12_feed 30 = .ok (.aload_n 0, 1) := by decide +kernel
theorem dX12_feed_31 : decode cX12_feed 31 = .ok (.iload 4, 2) := by decide +kernel
theorem dX12_feed_33 : decode cX12_feed 33 = .ok (.invokevirtual 156, 3) := by decide +kernel
theorem dX12_feed_36 : decode cX12_feed 36 = .ok (.aload_n 0, 1) := by decide +kernel
theorem dX12_feed_37 : decode cX12_feed 37 = .ok (.iload 5, 2) := by decide +kernel
theorem dX12_feed_39 : decode cX12_feed 39 = .ok (.invokevirtual 156, 3) := by decide +kernel
theorem dX12_feed_42 : decode cX12_feed 42 = .ok (.aload_n 0, 1) := by decide +kernel
theorem dX12_feed_43 : decode cX12_feed 43 = .ok (.getfield 153, 3) := by decide +kernel
theorem dX12_feed_46 : decode cX12_feed 46 = .ok (.ireturn, 1) := by decide +kernel
theorem dX12_end_0 : decode cX12_end 0 = .ok (.iload_n 1, 1) := by decide +kernel
theorem dX12_end_1 : decode cX12_end 1 = .ok (.ifCond .lt 11, 3) := by decide +kernel
theorem dX12_end_4 : decode cX12_end 4 = .ok (.iload_n 1, 1) := by decide +kernel
theorem dX12_end_5 : decode cX12_end 5 = .ok (.aload_n 0, 1) := by decide +kernel
theorem dX12_end_6 : decode cX12_end 6 = .ok (.getfield 153, 3) := by decide +kernel
theorem dX12_end_9 : decode cX12_end 9 = .ok (.if_icmp .le 5, 3) := by decide +kernel
theorem dX12_end_12 : decode cX12_end 12 = .ok (.iconst (-1), 1) := by decide +kernel
theorem dX12_end_13 : decode cX12_end 13 = .ok (.ireturn, 1) := by decide +kernel
theorem dX12_end_14 : decode cX12_end 14 = .ok (.aload_n 0, 1) := by decide +kernel
theorem dX12_end_15 : decode cX12_end 15 = .ok (.iload_n 1, 1) := by decide +kernel
theorem dX12_end_16 : decode cX12_end 16 = .ok (.putfield 153, 3) := by decide +kernel
theorem dX12_end_19 : decode cX12_end 19 = .ok (.iload_n 1, 1) := by decide +kernel
theorem dX12_end_20 : decode cX12_end 20 = .ok (.ireturn, 1) := by decide +kernel
theorem dX12_byteAt_0 : decode cX12_byteAt 0 = .ok (.iload_n 1, 1) := by decide +kernel
theorem dX12_byteAt_1 : decode cX12_byteAt 1 = .ok (.aload_n 0, 1) := by decide +kernel
theorem dX12_byteAt_2 : decode cX12_byteAt 2 = .ok (.getfield 153, 3) := by decide +kernel
theorem dX12_byteAt_5 : decode cX12_byteAt 5 = .ok (.if_icmp .ge 12, 3) := by decide +kernel
theorem dX12_byteAt_8 : decode cX12_byteAt 8 = .ok (.aload_n 0, 1) := by decide +kernel
theorem dX12_byteAt_9 : decode cX12_byteAt 9 = .ok (.getfield 22, 3) := by decide +kernel
theorem dX12_byteAt_12 : decode cX12_byteAt 12 = .ok (.iload_n 1, 1) := by decide +kernel
theorem dX12_byteAt_13 : decode cX12_byteAt 13 = .ok (.iaload, 1) := by decide +kernel
theorem dX12_byteAt_14 : decode cX12_byteAt 14 = .ok (.goto 4, 3) := by decide +kernel
theorem dX12_byteAt_17 : decode cX12_byteAt 17 = .ok (.iconst (-1), 1) := by decide +kernel
theorem dX12_byteAt_18 : decode cX12_byteAt 18 = .ok (.ireturn, 1) := by decide +kernel
theorem dX12_isLetterByte_0 : decode cX12_isLetterByte 0 = .ok (.iload_n 0, 1) := by decide +kernel
theorem dX12_isLetterByte_1 : decode cX12_isLetterByte 1 = .ok (.bipush 97, 2) := by decide +kernel
theorem dX12_isLetterByte_3 : decode cX12_isLetterByte 3 = .ok (.if_icmp .lt 9, 3) := by decide +kernel
theorem dX12_isLetterByte_6 : decode cX12_isLetterByte 6 = .ok (.iload_n 0, 1) := by decide +kernel
theorem dX12_isLetterByte_7 : decode cX12_isLetterByte 7 = .ok (.bipush 122, 2) := by decide +kernel
theorem dX12_isLetterByte_9 : decode cX12_isLetterByte 9 = .ok (.if_icmp .le 15, 3) := by decide +kernel
theorem dX12_isLetterByte_12 : decode cX12_isLetterByte 12 = .ok (.iload_n 0, 1) := by decide +kernel
theorem dX12_isLetterByte_13 : decode cX12_isLetterByte 13 = .ok (.bipush 65, 2) := by decide +kernel
theorem dX12_isLetterByte_15 : decode cX12_isLetterByte 15 = .ok (.if_icmp .lt 13, 3) := by decide +kernel
theorem dX12_isLetterByte_18 : decode cX12_isLetterByte 18 = .ok (.iload_n 0, 1) := by decide +kernel
theorem dX12_isLetterByte_19 : decode cX12_isLetterByte 19 = .ok (.bipush 90, 2) := by decide +kernel
theorem dX12_isLetterByte_21 : decode cX12_isLetterByte 21 = .ok (.if_icmp .gt 7, 3) := by decide +kernel
theorem dX12_isLetterByte_24 : decode cX12_isLetterByte 24 = .ok (.iconst 1, 1) := by decide +kernel
theorem dX12_isLetterByte_25 : decode cX12_isLetterByte 25 = .ok (.goto 4, 3) := by decide +kernel
theorem dX12_isLetterByte_28 : decode cX12_isLetterByte 28 = .ok (.iconst 0, 1) := by decide +kernel
theorem dX12_isLetterByte_29 : decode cX12_isLetterByte 29 = .ok (.ireturn, 1) := by decide +kernel
theorem dX12_isFigure_0 : decode cX12_isFigure 0 = .ok (.iload_n 0, 1) := by decide +kernel
theorem dX12_isFigure_1 : decode cX12_isFigure 1 = .ok (.bipush 48, 2) := by decide +kernel
theorem dX12_isFigure_3 : decode cX12_isFigure 3 = .ok (.if_icmp .lt 13, 3) := by decide +kernel
theorem dX12_isFigure_6 : decode cX12_isFigure 6 = .ok (.iload_n 0, 1) := by decide +kernel
theorem dX12_isFigure_7 : decode cX12_isFigure 7 = .ok (.bipush 57, 2) := by decide +kernel
theorem dX12_isFigure_9 : decode cX12_isFigure 9 = .ok (.if_icmp .gt 7, 3) := by decide +kernel
theorem dX12_isFigure_12 : decode cX12_isFigure 12 = .ok (.iconst 1, 1) := by decide +kernel
theorem dX12_isFigure_13 : decode cX12_isFigure 13 = .ok (.goto 4, 3) := by decide +kernel
theorem dX12_isFigure_16 : decode cX12_isFigure 16 = .ok (.iconst 0, 1) := by decide +kernel
theorem dX12_isFigure_17 : decode cX12_isFigure 17 = .ok (.ireturn, 1) := by decide +kernel
theorem dX12_isSign_0 : decode cX12_isSign 0 = .ok (.iload_n 0, 1) := by decide +kernel
theorem dX12_isSign_1 : decode cX12_isSign 1 = .ok (.tableswitch 133 35 63 #[131, 133, 133, 133, 133, 131, 131, 131, 131, 131, 131, 133, 133, 133, 133, 133, 133, 133, 133, 133, 133, 133, 133, 131, 131, 131, 131, 131, 131], 131) := by decide +kernel
theorem dX12_isSign_132 : decode cX12_isSign 132 = .ok (.iconst 1, 1) := by decide +kernel
theorem dX12_isSign_133 : decode cX12_isSign 133 = .ok (.ireturn, 1) := by decide +kernel
theorem dX12_isSign_134 : decode cX12_isSign 134 = .ok (.iconst 0, 1) := by decide +kernel
theorem dX12_isSign_135 : decode cX12_isSign 135 = .ok (.ireturn, 1) := by decide +kernel
theorem dX12_nextToken_0 : decode cX12_nextToken 0 = .ok (.aload_n 0, 1) := by decide +kernel
theorem dX12_nextToken_1 : decode cX12_nextToken 1 = .ok (.aload_n 0, 1) := by decide +kernel
theorem dX12_nextToken_2 : decode cX12_nextToken 2 = .ok (.getfield 160, 3) := by decide +kernel
theorem dX12_nextToken_5 : decode cX12_nextToken 5 = .ok (.invokevirtual 163, 3) := by decide +kernel
theorem dX12_nextToken_8 : decode cX12_nextToken 8 = .ok (.bipush 32, 2) := by decide +kernel
theorem dX12_nextToken_10 : decode cX12_nextToken 10 = .ok (.if_icmp .eq 16, 3) := by decide +kernel
theorem dX12_nextToken_13 : decode cX12_nextToken 13 = .ok (.aload_n 0, 1) := by decide +kernel
theorem dX12_nextToken_14 : decode cX12_nextToken 14 = .ok (.aload_n 0, 1) := by decide +kernel
theorem dX12_nextToken_15 : decode cX12_nextToken 15 = .ok (.getfield 160, 3) := by decide +kernel
theorem dX12_nextToken_18 : decode cX12_nextToken 18 = .ok (.invokevirtual 163, 3) := by decide +kernel
theorem dX12_nextToken_21 : decode cX12_nextToken 21 = .ok (.bipush 10, 2) := by decide +kernel
theorem dX12_nextToken_23 : decode cX12_nextToken 23 = .ok (.if_icmp .ne 16, 3) := by decide +kernel
theorem dX12_nextToken_26 : decode cX12_nextToken 26 = .ok (.aload_n 0, 1) := by decide +kernel
theorem dX12_nextToken_27 : decode cX12_nextToken 27 = .ok (.dup, 1) := by decide +kernel
theorem dX12_nextToken_28 : decode cX12_nextToken 28 = .ok (.getfield 160, 3) := by decide +kernel
theorem dX12_nextToken_31 : decode cX12_nextToken 31 = .ok (.iconst 1, 1) := by decide +kernel
theorem dX12_nextToken_32 : decode cX12_nextToken 32 = .ok (.iadd, 1) := by decide +kernel
theorem dX12_nextToken_33 : decode cX12_nextToken 33 = .ok (.putfield 160, 3) := by decide +kernel
theorem dX12_nextToken_36 : decode cX12_nextToken 36 = .ok (.goto (-36), 3) := by decide +kernel
theorem dX12_nextToken_39 : decode cX12_nextToken 39 = .ok (.aload_n 0, 1) := by decide +kernel
theorem dX12_nextToken_40 : decode cX12_nextToken 40 = .ok (.aload_n 0, 1) := by decide +kernel
theorem dX12_nextToken_41 : decode cX12_nextToken 41 = .ok (.getfield 160, 3) := by decide +kernel
theorem dX12_nextToken_44 : decode cX12_nextToken 44 = .ok (.putfield 166, 3) := by decide +kernel
theorem dX12_nextToken_47 : decode cX12_nextToken 47 = .ok (.aload_n 0, 1) := by decide +kernel
theorem dX12_nextToken_48 : decode cX12_nextToken 48 = .ok (.aload_n 0, 1) := by decide +kernel
theorem dX12_nextToken_49 : decode cX12_nextToken 49 = .ok (.getfield 160, 3) := by decide +kernel
theorem dX12_nextToken_52 : decode cX12_nextToken 52 = .ok (.invokevirtual 163, 3) := by decide +kernel
theorem dX12_nextToken_55 : decode cX12_nextToken 55 = .ok (.istore_n 1, 1) := by decide +kernel
theorem dX12_nextToken_56 : decode cX12_nextToken 56 = .ok (.iload_n 1, 1) := by decide +kernel
theorem dX12_nextToken_57 : decode cX12_nextToken 57 = .ok (.ifCond .ge 11, 3) := by decide +kernel
theorem dX12_nextToken_60 : decode cX12_nextToken 60 = .ok (.aload_n 0, 1) := by decide +kernel
theorem dX12_nextToken_61 : decode cX12_nextToken 61 = .ok (.iconst 0, 1) := by decide +kernel
theorem dX12_nextToken_62 : decode cX12_nextToken 62 = .ok (.putfield 169, 3) := by decide +kernel
theorem dX12_nextToken_65 : decode cX12_nextToken 65 = .ok (.goto 245, 3) := by decide +kernel
theorem dX12_nextToken_68 : decode cX12_nextToken 68 = .ok (.iload_n 1, 1) := by decide +kernel
theorem dX12_nextToken_69 : decode cX12_nextToken 69 = .ok (.invokestatic 172, 3) := by decide +kernel
theorem dX12_nextToken_72 : decode cX12_nextToken 72 = .ok (.ifCond .eq 79, 3) := by decide +kernel
theorem dX12_nextToken_75 : decode cX12_nextToken 75 = .ok (.aload_n 0, 1) := by decide +kernel
theorem dX12_nextToken_76 : decode cX12_nextToken 76 = .ok (.iconst 1, 1) := by decide +kernel
theorem dX12_nextToken_77 : decode cX12_nextToken 77 = .ok (.putfield 169, 3) := by decide +kernel
theorem dX12_nextToken_80 : decode cX12_nextToken 80 = .ok (.aload_n 0, 1) := by decide +kernel
theorem dX12_nextToken_81 : decode cX12_nextToken 81 = .ok (.iconst 0, 1) := by decide +kernel
theorem dX12_nextToken_82 : decode cX12_nextToken 82 = .ok (.putfield 175, 3) := by decide +kernel
theorem dX12_nextToken_85 : decode cX12_nextToken 85 = .ok (.aload_n 0, 1) := by decide +kernel
theorem dX12_nextToken_86 : decode cX12_nextToken 86 = .ok (.aload_n 0, 1) := by decide +kernel
theorem dX12_nextToken_87 : decode cX12_nextToken 87 = .ok (.getfield 160, 3) := by decide +kernel
theorem dX12_nextToken_90 : decode cX12_nextToken 90 = .ok (.invokevirtual 163, 3) := by decide +kernel
theorem dX12_nextToken_93 : decode cX12_nextToken 93 = .ok (.invokestatic 172, 3) := by decide +kernel
theorem dX12_nextToken_96 : decode cX12_nextToken 96 = .ok (.ifCond .eq 214, 3) := by decide +kernel
theorem dX12_nextToken_99 : decode cX12_nextToken 99 = .ok (.aload_n 0, 1) := by decide +kernel
theorem dX12_nextToken_100 : decode cX12_nextToken 100 = .ok (.aload_n 0, 1) := by decide +kernel
theorem dX12_nextToken_101 : decode cX12_nextToken 101 = .ok (.getfield 175, 3) := by decide +kernel
theorem dX12_nextToken_104 : decode cX12_nextToken 104 = .ok (.ldc 178, 2) := by decide +kernel
theorem dX12_nextToken_106 : decode cX12_nextToken 106 = .ok (.if_icmp .le 10, 3) := by decide +kernel
theorem dX12_nextToken_109 : decode cX12_nextToken 109 = .ok (.aload_n 0, 1) := by decide +kernel
theorem dX12_nextToken_110 : decode cX12_nextToken 110 = .ok (.getfield 175, 3) := by decide +kernel
theorem dX12_nextToken_113 : decode cX12_nextToken 113 = .ok (.goto 22, 3) := by decide +kernel
theorem dX12_nextToken_116 : decode cX12_nextToken 116 = .ok (.bipush 10, 2) := by decide +kernel
theorem dX12_nextToken_118 : decode cX12_nextToken 118 = .ok (.aload_n 0, 1) := by decide +kernel
theorem dX12_nextToken_119 : decode cX12_nextToken 119 = .ok (.getfield 175, 3) := by decide +kernel
theorem dX12_nextToken_122 : decode cX12_nextToken 122 = .ok (.imul, 1) := by decide +kernel
theorem dX12_nextToken_123 : decode cX12_nextToken 123 = .ok (.aload_n 0, 1) := by decide +kernel
theorem dX12_nextToken_124 : decode cX12_nextToken 124 = .ok (.aload_n 0, 1) := by decide +kernel
theorem dX12_nextToken_125 : decode cX12_nextToken 125 = .ok (.getfield 160, 3) := by decide +kernel
theorem dX12_nextToken_128 : decode cX12_nextToken 128 = .ok (.invokevirtual 163, 3) := by decide +kernel
theorem dX12_nextToken_131 : decode cX12_nextToken 131 = .ok (.iadd, 1) := by decide +kernel
theorem dX12_nextToken_132 : decode cX12_nextToken 132 = .ok (.bipush 48, 2) := by decide +kernel
theorem dX12_nextToken_134 : decode cX12_nextToken 134 = .ok (.isub, 1) := by decide +kernel
theorem dX12_nextToken_135 : decode cX12_nextToken 135 = .ok (.putfield 175, 3) := by decide +kernel
theorem dX12_nextToken_138 : decode cX12_nextToken 138 = .ok (.aload_n 0, 1) := by decide +kernel
theorem dX12_nextToken_139 : decode cX12_nextToken 139 = .ok (.dup, 1) := by decide +kernel
theorem dX12_nextToken_140 : decode cX12_nextToken 140 = .ok (.getfield 160, 3) := by decide +kernel
theorem dX12_nextToken_143 : decode cX12_nextToken 143 = .ok (.iconst 1, 1) := by decide +kernel
theorem dX12_nextToken_144 : decode cX12_nextToken 144 = .ok (.iadd, 1) := by decide +kernel
theorem dX12_nextToken_145 : decode cX12_nextToken 145 = .ok (.putfield 160, 3) := by decide +kernel
theorem dX12_nextToken_148 : decode cX12_nextToken 148 = .ok (.goto (-63), 3) := by decide +kernel
theorem dX12_nextToken_151 : decode cX12_nextToken 151 = .ok (.iload_n 1, 1) := by decide +kernel
theorem dX12_nextToken_152 : decode cX12_nextToken 152 = .ok (.invokestatic 179, 3) := by decide +kernel
theorem dX12_nextToken_155 : decode cX12_nextToken 155 = .ok (.ifCond .eq 79, 3) := by decide +kernel
theorem dX12_nextToken_158 : decode cX12_nextToken 158 = .ok (.aload_n 0, 1) := by decide +kernel
theorem dX12_nextToken_159 : decode cX12_nextToken 159 = .ok (.iconst 2, 1) := by decide +kernel
theorem dX12_nextToken_160 : decode cX12_nextToken 160 = .ok (.putfield 169, 3) := by decide +kernel
theorem dX12_nextToken_163 : decode cX12_nextToken 163 = .ok (.aload_n 0, 1) := by decide +kernel
theorem dX12_nextToken_164 : decode cX12_nextToken 164 = .ok (.lconst 0, 1) := by decide +kernel
theorem dX12_nextToken_165 : decode cX12_nextToken 165 = .ok (.putfield 182, 3) := by decide +kernel
theorem dX12_nextToken_168 : decode cX12_nextToken 168 = .ok (.aload_n 0, 1) := by decide +kernel
theorem dX12_nextToken_169 : decode cX12_nextToken 169 = .ok (.aload_n 0, 1) := by decide +kernel
theorem dX12_nextToken_170 : decode cX12_nextToken 170 = .ok (.getfield 160, 3) := by decide +kernel
theorem dX12_nextToken_173 : decode cX12_nextToken 173 = .ok (.invokevirtual 163, 3) := by decide +kernel
theorem dX12_nextToken_176 : decode cX12_nextToken 176 = .ok (.invokestatic 179, 3) := by decide +kernel
theorem dX12_nextToken_179 : decode cX12_nextToken 179 = .ok (.ifCond .eq 131, 3) := by decide +kernel
theorem dX12_nextToken_182 : decode cX12_nextToken 182 = .ok (.aload_n 0, 1) := by decide +kernel
theorem dX12_nextToken_183 : decode cX12_nextToken 183 = .ok (.aload_n 0, 1) := by decide +kernel
theorem dX12_nextToken_184 : decode cX12_nextToken 184 = .ok (.getfield 182, 3) := by decide +kernel
theorem dX12_nextToken_187 : decode cX12_nextToken 187 = .ok (.bipush 48, 2) := by decide +kernel
theorem dX12_nextToken_189 : decode cX12_nextToken 189 = .ok (.lshr, 1) := by decide +kernel
theorem dX12_nextToken_190 : decode cX12_nextToken 190 = .ok (.lconst 0, 1) := by decide +kernel
theorem dX12_nextToken_191 : decode cX12_nextToken 191 = .ok (.lcmp, 1) := by decide +kernel
theorem dX12_nextToken_192 : decode cX12_nextToken 192 = .ok (.ifCond .eq 9, 3) := by decide +kernel
theorem dX12_nextToken_195 : decode cX12_nextToken 195 = .ok (.ldc2_w 186, 3) := by decide +kernel
theorem dX12_nextToken_198 : decode cX12_nextToken 198 = .ok (.goto 20, 3) := by decide +kernel
theorem dX12_nextToken_201 : decode cX12_nextToken 201 = .ok (.aload_n 0, 1) := by decide +kernel
theorem dX12_nextToken_202 : decode cX12_nextToken 202 = .ok (.getfield 182, 3) := by decide +kernel
theorem dX12_nextToken_205 : decode cX12_nextToken 205 = .ok (.bipush 8, 2) := by decide +kernel
theorem dX12_nextToken_207 : decode cX12_nextToken 207 = .ok (.lshl, 1) := by decide +kernel
theorem dX12_nextToken_208 : decode cX12_nextToken 208 = .ok (.aload_n 0, 1) := by decide +kernel
theorem dX12_nextToken_209 : decode cX12_nextToken 209 = .ok (.aload_n 0, 1) := by decide +kernel
theorem dX12_nextToken_210 : decode cX12_nextToken 210 = .ok (.getfield 160, 3) := by decide +kernel
theorem dX12_nextToken_213 : decode cX12_nextToken 213 = .ok (.invokevirtual 163, 3) := by decide +kernel
theorem dX12_nextToken_216 : decode cX12_nextToken 216 = .ok (.i2l, 1) := by decide +kernel
theorem dX12_nextToken_217 : decode cX12_nextToken 217 = .ok (.lor, 1) := by decide +kernel
theorem dX12_nextToken_218 : decode cX12_nextToken 218 = .ok (.putfield 182, 3) := by decide +kernel
theorem dX12_nextToken_221 : decode cX12_nextToken 221 = .ok (.aload_n 0, 1) := by decide +kernel
theorem dX12_nextToken_222 : decode cX12_nextToken 222 = .ok (.dup, 1) := by decide +kernel
theorem dX12_nextToken_223 : decode cX12_nextToken 223 = .ok (.getfield 160, 3) := by decide +kernel
theorem dX12_nextToken_226 : decode cX12_nextToken 226 = .ok (.iconst 1, 1) := by decide +kernel
theorem dX12_nextToken_227 : decode cX12_nextToken 227 = .ok (.iadd, 1) := by decide +kernel
theorem dX12_nextToken_228 : decode cX12_nextToken 228 = .ok (.putfield 160, 3) := by decide +kernel
theorem dX12_nextToken_231 : decode cX12_nextToken 231 = .ok (.goto (-63), 3) := by decide +kernel
theorem dX12_nextToken_234 : decode cX12_nextToken 234 = .ok (.aload_n 0, 1) := by decide +kernel
theorem dX12_nextToken_235 : decode cX12_nextToken 235 = .ok (.iload_n 1, 1) := by decide +kernel
theorem dX12_nextToken_236 : decode cX12_nextToken 236 = .ok (.invokestatic 188, 3) := by decide +kernel
theorem dX12_nextToken_239 : decode cX12_nextToken 239 = .ok (.ifCond .eq 7, 3) := by decide +kernel
theorem dX12_nextToken_242 : decode cX12_nextToken 242 = .ok (.iload_n 1, 1) := by decide +kernel
theorem dX12_nextToken_243 : decode cX12_nextToken 243 = .ok (.goto 4, 3) := by decide +kernel
theorem dX12_nextToken_246 : decode cX12_nextToken 246 = .ok (.iconst 3, 1) := by decide +kernel
theorem dX12_nextToken_247 : decode cX12_nextToken 247 = .ok (.putfield 169, 3) := by decide +kernel
theorem dX12_nextToken_250 : decode cX12_nextToken 250 = .ok (.aload_n 0, 1) := by decide +kernel
theorem dX12_nextToken_251 : decode cX12_nextToken 251 = .ok (.dup, 1) := by decide +kernel
theorem dX12_nextToken_252 : decode cX12_nextToken 252 = .ok (.getfield 160, 3) := by decide +kernel
theorem dX12_nextToken_255 : decode cX12_nextToken 255 = .ok (.iconst 1, 1) := by decide +kernel
theorem dX12_nextToken_256 : decode cX12_nextToken 256 = .ok (.iadd, 1) := by decide +kernel
theorem dX12_nextToken_257 : decode cX12_nextToken 257 = .ok (.putfield 160, 3) := by decide +kernel
theorem dX12_nextToken_260 : decode cX12_nextToken 260 = .ok (.iload_n 1, 1) := by decide +kernel
theorem dX12_nextToken_261 : decode cX12_nextToken 261 = .ok (.bipush 60, 2) := by decide +kernel
theorem dX12_nextToken_263 : decode cX12_nextToken 263 = .ok (.if_icmp .eq 9, 3) := by decide +kernel
theorem dX12_nextToken_266 : decode cX12_nextToken 266 = .ok (.iload_n 1, 1) := by decide +kernel
theorem dX12_nextToken_267 : decode cX12_nextToken 267 = .ok (.bipush 62, 2) := by decide +kernel
theorem dX12_nextToken_269 : decode cX12_nextToken 269 = .ok (.if_icmp .ne 41, 3) := by decide +kernel
theorem dX12_nextToken_272 : decode cX12_nextToken 272 = .ok (.aload_n 0, 1) := by decide +kernel
theorem dX12_nextToken_273 : decode cX12_nextToken 273 = .ok (.aload_n 0, 1) := by decide +kernel
theorem dX12_nextToken_274 : decode cX12_nextToken 274 = .ok (.getfield 160, 3) := by decide +kernel
theorem dX12_nextToken_277 : decode cX12_nextToken 277 = .ok (.invokevirtual 163, 3) := by decide +kernel
theorem dX12_nextToken_280 : decode cX12_nextToken 280 = .ok (.bipush 61, 2) := by decide +kernel
theorem dX12_nextToken_282 : decode cX12_nextToken 282 = .ok (.if_icmp .ne 28, 3) := by decide +kernel
theorem dX12_nextToken_285 : decode cX12_nextToken 285 = .ok (.aload_n 0, 1) := by decide +kernel
theorem dX12_nextToken_286 : decode cX12_nextToken 286 = .ok (.iload_n 1, 1) := by decide +kernel
theorem dX12_nextToken_287 : decode cX12_nextToken 287 = .ok (.bipush 60, 2) := by decide +kernel
theorem dX12_nextToken_289 : decode cX12_nextToken 289 = .ok (.if_icmp .ne 7, 3) := by decide +kernel
theorem dX12_nextToken_292 : decode cX12_nextToken 292 = .ok (.iconst 4, 1) := by decide +kernel
theorem dX12_nextToken_293 : decode cX12_nextToken 293 = .ok (.goto 4, 3) := by decide +kernel
theorem dX12_nextToken_296 : decode cX12_nextToken 296 = .ok (.iconst 5, 1) := by decide +kernel
theorem dX12_nextToken_297 : decode cX12_nextToken 297 = .ok (.putfield 169, 3) := by decide +kernel
theorem dX12_nextToken_300 : decode cX12_nextToken 300 = .ok (.aload_n 0, 1) := by decide +kernel
theorem dX12_nextToken_301 : decode cX12_nextToken 301 = .ok (.dup, 1) := by decide +kernel
theorem dX12_nextToken_302 : decode cX12_nextToken 302 = .ok (.getfield 160, 3) := by decide +kernel
theorem dX12_nextToken_305 : decode cX12_nextToken 305 = .ok (.iconst 1, 1) := by decide +kernel
theorem dX12_nextToken_306 : decode cX12_nextToken 306 = .ok (.iadd, 1) := by decide +kernel
theorem dX12_nextToken_307 : decode cX12_nextToken 307 = .ok (.putfield 160, 3) := by decide +kernel
theorem dX12_nextToken_310 : decode cX12_nextToken 310 = .ok (.return_, 1) := by decide +kernel
theorem dX12_w3_0 : decode cX12_w3 0 = .ok (.iload_n 0, 1) := by decide +kernel
theorem dX12_w3_1 : decode cX12_w3 1 = .ok (.i2l, 1) := by decide +kernel
theorem dX12_w3_2 : decode cX12_w3 2 = .ok (.bipush 16, 2) := by decide +kernel
theorem dX12_w3_4 : decode cX12_w3 4 = .ok (.lshl, 1) := by decide +kernel
theorem dX12_w3_5 : decode cX12_w3 5 = .ok (.iload_n 1, 1) := by decide +kernel
theorem dX12_w3_6 : decode cX12_w3 6 = .ok (.bipush 8, 2) := by decide +kernel
theorem dX12_w3_8 : decode cX12_w3 8 = .ok (.ishl, 1) := by decide +kernel
theorem dX12_w3_9 : decode cX12_w3 9 = .ok (.i2l, 1) := by decide +kernel
theorem dX12_w3_10 : decode cX12_w3 10 = .ok (.lor, 1) := by decide +kernel
theorem dX12_w3_11 : decode cX12_w3 11 = .ok (.iload_n 2, 1) := by decide +kernel
theorem dX12_w3_12 : decode cX12_w3 12 = .ok (.i2l, 1) := by decide +kernel
theorem dX12_w3_13 : decode cX12_w3 13 = .ok (.lor, 1) := by decide +kernel
theorem dX12_w3_14 : decode cX12_w3 14 = .ok (.lreturn, 1) := by decide +kernel
theorem dX12_w4_0 : decode cX12_w4 0 = .ok (.iload_n 0, 1) := by decide +kernel
theorem dX12_w4_1 : decode cX12_w4 1 = .ok (.iload_n 1, 1) := by decide +kernel
theorem dX12_w4_2 : decode cX12_w4 2 = .ok (.iload_n 2, 1) := by decide +kernel
theorem dX12_w4_3 : decode cX12_w4 3 = .ok (.invokestatic 191, 3) := by decide +kernel
theorem dX12_w4_6 : decode cX12_w4 6 = .ok (.bipush 8, 2) := by decide +kernel
theorem dX12_w4_8 : decode cX12_w4 8 = .ok (.lshl, 1) := by decide +kernel
theorem dX12_w4_9 : decode cX12_w4 9 = .ok (.iload_n 3, 1) := by decide +kernel
theorem dX12_w4_10 : decode cX12_w4 10 = .ok (.i2l, 1) := by decide +kernel
theorem dX12_w4_11 : decode cX12_w4 11 = .ok (.lor, 1) := by decide +kernel
theorem dX12_w4_12 : decode cX12_w4 12 = .ok (.lreturn, 1) := by decide +kernel
theorem dX12_w5_0 : decode cX12_w5 0 = .ok (.iload_n 0, 1) := by decide +kernel
theorem dX12_w5_1 : decode cX12_w5 1 = .ok (.iload_n 1, 1) := by decide +kernel
theorem dX12_w5_2 : decode cX12_w5 2 = .ok (.iload_n 2, 1) := by decide +kernel
theorem dX12_w5_3 : decode cX12_w5 3 = .ok (.iload_n 3, 1) := by decide +kernel
theorem dX12_w5_4 : decode cX12_w5 4 = .ok (.invokestatic 195, 3) := by decide +kernel
theorem dX12_w5_7 : decode cX12_w5 7 = .ok (.bipush 8, 2) := by decide +kernel
theorem dX12_w5_9 : decode cX12_w5 9 = .ok (.lshl, 1) := by decide +kernel
theorem dX12_w5_10 : decode cX12_w5 10 = .ok (.iload 4, 2) := by decide +kernel
theorem dX12_w5_12 : decode cX12_w5 12 = .ok (.i2l, 1) := by decide +kernel
theorem dX12_w5_13 : decode cX12_w5 13 = .ok (.lor, 1) := by decide +kernel
theorem dX12_w5_14 : decode cX12_w5 14 = .ok (.lreturn, 1) := by decide +kernel
theorem dX12_w6_0 : decode cX12_w6 0 = .ok (.iload_n 0, 1) := by decide +kernel
theorem dX12_w6_1 : decode cX12_w6 1 = .ok (.iload_n 1, 1) := by decide +kernel
theorem dX12_w6_2 : decode cX12_w6 2 = .ok (.iload_n 2, 1) := by decide +kernel
theorem dX12_w6_3 : decode cX12_w6 3 = .ok (.iload_n 3, 1) := by decide +kernel
theorem dX12_w6_4 : decode cX12_w6 4 = .ok (.iload 4, 2) := by decide +kernel
theorem dX12_w6_6 : decode cX12_w6 6 = .ok (.invokestatic 199, 3) := by decide +kernel
theorem dX12_w6_9 : decode cX12_w6 9 = .ok (.bipush 8, 2) := by decide +kernel
theorem dX12_w6_11 : decode cX12_w6 11 = .ok (.lshl, 1) := by decide +kernel
theorem dX12_w6_12 : decode cX12_w6 12 = .ok (.iload 5, 2) := by decide +kernel
theorem dX12_w6_14 : decode cX12_w6 14 = .ok (.i2l, 1) := by decide +kernel
theorem dX12_w6_15 : decode cX12_w6 15 = .ok (.lor, 1) := by decide +kernel
theorem dX12_w6_16 : decode cX12_w6 16 = .ok (.lreturn, 1) := by decide +kernel
theorem dX12_isWord_0 : decode cX12_isWord 0 = .ok (.aload_n 0, 1) := by decide +kernel
theorem dX12_isWord_1 : decode cX12_isWord 1 = .ok (.getfield 169, 3) := by decide +kernel
theorem dX12_isWord_4 : decode cX12_isWord 4 = .ok (.iconst 2, 1) := by decide +kernel
theorem dX12_isWord_5 : decode cX12_isWord 5 = .ok (.if_icmp .ne 16, 3) := by decide +kernel
theorem dX12_isWord_8 : decode cX12_isWord 8 = .ok (.aload_n 0, 1) := by decide +kernel
theorem dX12_isWord_9 : decode cX12_isWord 9 = .ok (.getfield 182, 3) := by decide +kernel
theorem dX12_isWord_12 : decode cX12_isWord 12 = .ok (.lload_n 1, 1) := by decide +kernel
theorem dX12_isWord_13 : decode cX12_isWord 13 = .ok (.lcmp, 1) := by decide +kernel
theorem dX12_isWord_14 : decode cX12_isWord 14 = .ok (.ifCond .ne 7, 3) := by decide +kernel
theorem dX12_isWord_17 : decode cX12_isWord 17 = .ok (.iconst 1, 1) := by decide +kernel
theorem dX12_isWord_18 : decode cX12_isWord 18 = .ok (.goto 4, 3) := by decide +kernel
theorem dX12_isWord_21 : decode cX12_isWord 21 = .ok (.iconst 0, 1) := by decide +kernel
theorem dX12_isWord_22 : decode cX12_isWord 22 = .ok (.ireturn, 1) := by decide +kernel
theorem dX12_write_0 : decode cX12_write 0 = .ok (.aload_n 0, 1) := by decide +kernel
theorem dX12_write_1 : decode cX12_write 1 = .ok (.getfield 32, 3) := by decide +kernel
theorem dX12_write_4 : decode cX12_write 4 = .ok (.aload_n 0, 1) := by decide +kernel
theorem dX12_write_5 : decode cX12_write 5 = .ok (.getfield 203, 3) := by decide +kernel
theorem dX12_write_8 : decode cX12_write 8 = .ok (.sipush 289, 3) := by decide +kernel
theorem dX12_write_11 : decode cX12_write 11 = .ok (.iadd, 1) := by decide +kernel
theorem dX12_write_12 : decode cX12_write 12 = .ok (.iconst 2, 1) := by decide +kernel
theorem dX12_write_13 : decode cX12_write 13 = .ok (.aload_n 0, 1) := by decide +kernel
theorem dX12_write_14 : decode cX12_write 14 = .ok (.getfield 206, 3) := by decide +kernel
theorem dX12_write_17 : decode cX12_write 17 = .ok (.imul, 1) := by decide +kernel
theorem dX12_write_18 : decode cX12_write 18 = .ok (.iadd, 1) := by decide +kernel
theorem dX12_write_19 : decode cX12_write 19 = .ok (.iload_n 1, 1) := by decide +kernel
theorem dX12_write_20 : decode cX12_write 20 = .ok (.iastore, 1) := by decide +kernel
theorem dX12_write_21 : decode cX12_write 21 = .ok (.aload_n 0, 1) := by decide +kernel
theorem dX12_write_22 : decode cX12_write 22 = .ok (.getfield 32, 3) := by decide +kernel
theorem dX12_write_25 : decode cX12_write 25 = .ok (.aload_n 0, 1) := by decide +kernel
theorem dX12_write_26 : decode cX12_write 26 = .ok (.getfield 203, 3) := by decide +kernel
theorem dX12_write_29 : decode cX12_write 29 = .ok (.sipush 289, 3) := by decide +kernel
theorem dX12_write_32 : decode cX12_write 32 = .ok (.iadd, 1) := by decide +kernel
theorem dX12_write_33 : decode cX12_write 33 = .ok (.iconst 2, 1) := by decide +kernel
theorem dX12_write_34 : decode cX12_write 34 = .ok (.aload_n 0, 1) := by decide +kernel
theorem dX12_write_35 : decode cX12_write 35 = .ok (.getfield 206, 3) := by decide +kernel
theorem dX12_write_38 : decode cX12_write 38 = .ok (.imul, 1) := by decide +kernel
theorem dX12_write_39 : decode cX12_write 39 = .ok (.iadd, 1) := by decide +kernel
theorem dX12_write_40 : decode cX12_write 40 = .ok (.iconst 1, 1) := by decide +kernel
theorem dX12_write_41 : decode cX12_write 41 = .ok (.iadd, 1) := by decide +kernel
theorem dX12_write_42 : decode cX12_write 42 = .ok (.iload_n 2, 1) := by decide +kernel
theorem dX12_write_43 : decode cX12_write 43 = .ok (.iastore, 1) := by decide +kernel
theorem dX12_write_44 : decode cX12_write 44 = .ok (.aload_n 0, 1) := by decide +kernel
theorem dX12_write_45 : decode cX12_write 45 = .ok (.dup, 1) := by decide +kernel
theorem dX12_write_46 : decode cX12_write 46 = .ok (.getfield 206, 3) := by decide +kernel
theorem dX12_write_49 : decode cX12_write 49 = .ok (.iconst 1, 1) := by decide +kernel
theorem dX12_write_50 : decode cX12_write 50 = .ok (.iadd, 1) := by decide +kernel
theorem dX12_write_51 : decode cX12_write 51 = .ok (.putfield 206, 3) := by decide +kernel
theorem dX12_write_54 : decode cX12_write 54 = .ok (.return_, 1) := by decide +kernel
theorem dX12_begin_0 : decode cX12_begin 0 = .ok (.aload_n 0, 1) := by decide +kernel
theorem dX12_begin_1 : decode cX12_begin 1 = .ok (.getfield 35, 3) := by decide +kernel
theorem dX12_begin_4 : decode cX12_begin 4 = .ok (.aload_n 0, 1) := by decide +kernel
theorem dX12_begin_5 : decode cX12_begin 5 = .ok (.getfield 209, 3) := by decide +kernel
theorem dX12_begin_8 : decode cX12_begin 8 = .ok (.iload_n 1, 1) := by decide +kernel
theorem dX12_begin_9 : decode cX12_begin 9 = .ok (.iastore, 1) := by decide +kernel
theorem dX12_begin_10 : decode cX12_begin 10 = .ok (.aload_n 0, 1) := by decide +kernel
theorem dX12_begin_11 : decode cX12_begin 11 = .ok (.getfield 38, 3) := by decide +kernel
theorem dX12_begin_14 : decode cX12_begin 14 = .ok (.aload_n 0, 1) := by decide +kernel
theorem dX12_begin_15 : decode cX12_begin 15 = .ok (.getfield 209, 3) := by decide +kernel
theorem dX12_begin_18 : decode cX12_begin 18 = .ok (.iload_n 2, 1) := by decide +kernel
theorem dX12_begin_19 : decode cX12_begin 19 = .ok (.iastore, 1) := by decide +kernel
theorem dX12_begin_20 : decode cX12_begin 20 = .ok (.aload_n 0, 1) := by decide +kernel
theorem dX12_begin_21 : decode cX12_begin 21 = .ok (.invokevirtual 212, 3) := by decide +kernel
theorem dX12_begin_24 : decode cX12_begin 24 = .ok (.return_, 1) := by decide +kernel
theorem dX12_startSum_0 : decode cX12_startSum 0 = .ok (.aload_n 0, 1) := by decide +kernel
theorem dX12_startSum_1 : decode cX12_startSum 1 = .ok (.getfield 41, 3) := by decide +kernel
theorem dX12_startSum_4 : decode cX12_startSum 4 = .ok (.aload_n 0, 1) := by decide +kernel
theorem dX12_startSum_5 : decode cX12_startSum 5 = .ok (.getfield 209, 3) := by decide +kernel
theorem dX12_startSum_8 : decode cX12_startSum 8 = .ok (.iconst 0, 1) := by decide +kernel
theorem dX12_startSum_9 : decode cX12_startSum 9 = .ok (.iastore, 1) := by decide +kernel
theorem dX12_startSum_10 : decode cX12_startSum 10 = .ok (.aload_n 0, 1) := by decide +kernel
theorem dX12_startSum_11 : decode cX12_startSum 11 = .ok (.getfield 44, 3) := by decide +kernel
theorem dX12_startSum_14 : decode cX12_startSum 14 = .ok (.aload_n 0, 1) := by decide +kernel
theorem dX12_startSum_15 : decode cX12_startSum 15 = .ok (.getfield 209, 3) := by decide +kernel
theorem dX12_startSum_18 : decode cX12_startSum 18 = .ok (.iconst 0, 1) := by decide +kernel
theorem dX12_startSum_19 : decode cX12_startSum 19 = .ok (.iastore, 1) := by decide +kernel
theorem dX12_startSum_20 : decode cX12_startSum 20 = .ok (.aload_n 0, 1) := by decide +kernel
theorem dX12_startSum_21 : decode cX12_startSum 21 = .ok (.getfield 47, 3) := by decide +kernel
theorem dX12_startSum_24 : decode cX12_startSum 24 = .ok (.aload_n 0, 1) := by decide +kernel
theorem dX12_startSum_25 : decode cX12_startSum 25 = .ok (.getfield 209, 3) := by decide +kernel
theorem dX12_startSum_28 : decode cX12_startSum 28 = .ok (.iconst 0, 1) := by decide +kernel
theorem dX12_startSum_29 : decode cX12_startSum 29 = .ok (.iastore, 1) := by decide +kernel
theorem dX12_startSum_30 : decode cX12_startSum 30 = .ok (.return_, 1) := by decide +kernel
theorem dX12_thingAt_0 : decode cX12_thingAt 0 = .ok (.aload_n 0, 1) := by decide +kernel
theorem dX12_thingAt_1 : decode cX12_thingAt 1 = .ok (.getfield 169, 3) := by decide +kernel
theorem dX12_thingAt_4 : decode cX12_thingAt 4 = .ok (.iconst 2, 1) := by decide +kernel
theorem dX12_thingAt_5 : decode cX12_thingAt 5 = .ok (.if_icmp .ne 36, 3) := by decide +kernel
theorem dX12_thingAt_8 : decode cX12_thingAt 8 = .ok (.aload_n 0, 1) := by decide +kernel
theorem dX12_thingAt_9 : decode cX12_thingAt 9 = .ok (.getfield 182, 3) := by decide +kernel
theorem dX12_thingAt_12 : decode cX12_thingAt 12 = .ok (.ldc2_w 215, 3) := by decide +kernel
theorem dX12_thingAt_15 : decode cX12_thingAt 15 = .ok (.lcmp, 1) := by decide +kernel
theorem dX12_thingAt_16 : decode cX12_thingAt 16 = .ok (.ifCond .lt 25, 3) := by decide +kernel
theorem dX12_thingAt_19 : decode cX12_thingAt 19 = .ok (.aload_n 0, 1) := by decide +kernel
theorem dX12_thingAt_20 : decode cX12_thingAt 20 = .ok (.getfield 182, 3) := by decide +kernel
theorem dX12_thingAt_23 : decode cX12_thingAt 23 = .ok (.ldc2_w 217, 3) := by decide +kernel
theorem dX12_thingAt_26 : decode cX12_thingAt 26 = .ok (.lcmp, 1) := by decide +kernel
theorem dX12_thingAt_27 : decode cX12_thingAt 27 = .ok (.ifCond .gt 14, 3) := by decide +kernel
theorem dX12_thingAt_30 : decode cX12_thingAt 30 = .ok (.aload_n 0, 1) := by decide +kernel
theorem dX12_thingAt_31 : decode cX12_thingAt 31 = .ok (.getfield 182, 3) := by decide +kernel
theorem dX12_thingAt_34 : decode cX12_thingAt 34 = .ok (.l2i, 1) := by decide +kernel
theorem dX12_thingAt_35 : decode cX12_thingAt 35 = .ok (.bipush 112, 2) := by decide +kernel
theorem dX12_thingAt_37 : decode cX12_thingAt 37 = .ok (.isub, 1) := by decide +kernel
theorem dX12_thingAt_38 : decode cX12_thingAt 38 = .ok (.goto 4, 3) := by decide +kernel
theorem dX12_thingAt_41 : decode cX12_thingAt 41 = .ok (.iconst (-1), 1) := by decide +kernel
theorem dX12_thingAt_42 : decode cX12_thingAt 42 = .ok (.ireturn, 1) := by decide +kernel
theorem dX12_wordStep_0 : decode cX12_wordStep 0 = .ok (.aload_n 0, 1) := by decide +kernel
theorem dX12_wordStep_1 : decode cX12_wordStep 1 = .ok (.bipush 97, 2) := by decide +kernel
theorem dX12_wordStep_3 : decode cX12_wordStep 3 = .ok (.bipush 103, 2) := by decide +kernel
theorem dX12_wordStep_5 : decode cX12_wordStep 5 = .ok (.bipush 101, 2) := by decide +kernel
theorem dX12_wordStep_7 : decode cX12_wordStep 7 = .ok (.invokestatic 191, 3) := by decide +kernel
theorem dX12_wordStep_10 : decode cX12_wordStep 10 = .ok (.invokevirtual 219, 3) := by decide +kernel
theorem dX12_wordStep_13 : decode cX12_wordStep 13 = .ok (.ifCond .eq 5, 3) := by decide +kernel
theorem dX12_wordStep_16 : decode cX12_wordStep 16 = .ok (.iconst 4, 1) := by decide +kernel
theorem dX12_wordStep_17 : decode cX12_wordStep 17 = .ok (.ireturn, 1) := by decide +kernel
theorem dX12_wordStep_18 : decode cX12_wordStep 18 = .ok (.aload_n 0, 1) := by decide +kernel
theorem dX12_wordStep_19 : decode cX12_wordStep 19 = .ok (.bipush 107, 2) := by decide +kernel
theorem dX12_wordStep_21 : decode cX12_wordStep 21 = .ok (.bipush 105, 2) := by decide +kernel
theorem dX12_wordStep_23 : decode cX12_wordStep 23 = .ok (.bipush 100, 2) := by decide +kernel
theorem dX12_wordStep_25 : decode cX12_wordStep 25 = .ok (.bipush 115, 2) := by decide +kernel
theorem dX12_wordStep_27 : decode cX12_wordStep 27 = .ok (.invokestatic 195, 3) := by decide +kernel
theorem dX12_wordStep_30 : decode cX12_wordStep 30 = .ok (.invokevirtual 219, 3) := by decide +kernel
theorem dX12_wordStep_33 : decode cX12_wordStep 33 = .ok (.ifCond .eq 5, 3) := by decide +kernel
theorem dX12_wordStep_36 : decode cX12_wordStep 36 = .ok (.iconst 5, 1) := by decide +kernel
theorem dX12_wordStep_37 : decode cX12_wordStep 37 = .ok (.ireturn, 1) := by decide +kernel
theorem dX12_wordStep_38 : decode cX12_wordStep 38 = .ok (.aload_n 0, 1) := by decide +kernel
theorem dX12_wordStep_39 : decode cX12_wordStep 39 = .ok (.bipush 107, 2) := by decide +kernel
theorem dX12_wordStep_41 : decode cX12_wordStep 41 = .ok (.bipush 105, 2) := by decide +kernel
theorem dX12_wordStep_43 : decode cX12_wordStep 43 = .ok (.bipush 110, 2) := by decide +kernel
theorem dX12_wordStep_45 : decode cX12_wordStep 45 = .ok (.invokestatic 191, 3) := by decide +kernel
theorem dX12_wordStep_48 : decode cX12_wordStep 48 = .ok (.invokevirtual 219, 3) := by decide +kernel
theorem dX12_wordStep_51 : decode cX12_wordStep 51 = .ok (.ifCond .eq 6, 3) := by decide +kernel
theorem dX12_wordStep_54 : decode cX12_wordStep 54 = .ok (.bipush 6, 2) := by decide +kernel
theorem dX12_wordStep_56 : decode cX12_wordStep 56 = .ok (.ireturn, 1) := by decide +kernel
theorem dX12_wordStep_57 : decode cX12_wordStep 57 = .ok (.aload_n 0, 1) := by decide +kernel
theorem dX12_wordStep_58 : decode cX12_wordStep 58 = .ok (.bipush 119, 2) := by decide +kernel
theorem dX12_wordStep_60 : decode cX12_wordStep 60 = .ok (.bipush 97, 2) := by decide +kernel
theorem dX12_wordStep_62 : decode cX12_wordStep 62 = .ok (.bipush 121, 2) := by decide +kernel
theorem dX12_wordStep_64 : decode cX12_wordStep 64 = .ok (.invokestatic 191, 3) := by decide +kernel
theorem dX12_wordStep_67 : decode cX12_wordStep 67 = .ok (.invokevirtual 219, 3) := by decide +kernel
theorem dX12_wordStep_70 : decode cX12_wordStep 70 = .ok (.ifCond .eq 6, 3) := by decide +kernel
theorem dX12_wordStep_73 : decode cX12_wordStep 73 = .ok (.bipush 7, 2) := by decide +kernel
theorem dX12_wordStep_75 : decode cX12_wordStep 75 = .ok (.ireturn, 1) := by decide +kernel
theorem dX12_wordStep_76 : decode cX12_wordStep 76 = .ok (.aload_n 0, 1) := by decide +kernel
theorem dX12_wordStep_77 : decode cX12_wordStep 77 = .ok (.bipush 109, 2) := by decide +kernel
theorem dX12_wordStep_79 : decode cX12_wordStep 79 = .ok (.bipush 111, 2) := by decide +kernel
theorem dX12_wordStep_81 : decode cX12_wordStep 81 = .ok (.bipush 114, 2) := by decide +kernel
theorem dX12_wordStep_83 : decode cX12_wordStep 83 = .ok (.bipush 101, 2) := by decide +kernel
theorem dX12_wordStep_85 : decode cX12_wordStep 85 = .ok (.invokestatic 195, 3) := by decide +kernel
theorem dX12_wordStep_88 : decode cX12_wordStep 88 = .ok (.invokevirtual 219, 3) := by decide +kernel
theorem dX12_wordStep_91 : decode cX12_wordStep 91 = .ok (.ifCond .eq 8, 3) := by decide +kernel
theorem dX12_wordStep_94 : decode cX12_wordStep 94 = .ok (.bipush 8, 2) := by decide +kernel
theorem dX12_wordStep_96 : decode cX12_wordStep 96 = .ok (.goto 27, 3) := by decide +kernel
theorem dX12_wordStep_99 : decode cX12_wordStep 99 = .ok (.aload_n 0, 1) := by decide +kernel
theorem dX12_wordStep_100 : decode cX12_wordStep 100 = .ok (.bipush 108, 2) := by decide +kernel
theorem dX12_wordStep_102 : decode cX12_wordStep 102 = .ok (.bipush 101, 2) := by decide +kernel
theorem dX12_wordStep_104 : decode cX12_wordStep 104 = .ok (.bipush 115, 2) := by decide +kernel
theorem dX12_wordStep_106 : decode cX12_wordStep 106 = .ok (.bipush 115, 2) := by decide +kernel
theorem dX12_wordStep_108 : decode cX12_wordStep 108 = .ok (.invokestatic 195, 3) := by decide +kernel
theorem dX12_wordStep_111 : decode cX12_wordStep 111 = .ok (.invokevirtual 219, 3) := by decide +kernel
theorem dX12_wordStep_114 : decode cX12_wordStep 114 = .ok (.ifCond .eq 8, 3) := by decide +kernel
theorem dX12_wordStep_117 : decode cX12_wordStep 117 = .ok (.bipush 9, 2) := by decide +kernel
theorem dX12_wordStep_119 : decode cX12_wordStep 119 = .ok (.goto 4, 3) := by decide +kernel
theorem dX12_wordStep_122 : decode cX12_wordStep 122 = .ok (.iconst (-1), 1) := by decide +kernel
theorem dX12_wordStep_123 : decode cX12_wordStep 123 = .ok (.ireturn, 1) := by decide +kernel
theorem dX12_opened_0 : decode cX12_opened 0 = .ok (.aload_n 0, 1) := by decide +kernel
theorem dX12_opened_1 : decode cX12_opened 1 = .ok (.getfield 209, 3) := by decide +kernel
theorem dX12_opened_4 : decode cX12_opened 4 = .ok (.bipush 8, 2) := by decide +kernel
theorem dX12_opened_6 : decode cX12_opened 6 = .ok (.if_icmp .ne 5, 3) := by decide +kernel
theorem dX12_opened_9 : decode cX12_opened 9 = .ok (.iconst 3, 1) := by decide +kernel
theorem dX12_opened_10 : decode cX12_opened 10 = .ok (.ireturn, 1) := by decide +kernel
theorem dX12_opened_11 : decode cX12_opened 11 = .ok (.aload_n 0, 1) := by decide +kernel
theorem dX12_opened_12 : decode cX12_opened 12 = .ok (.dup, 1) := by decide +kernel
theorem dX12_opened_13 : decode cX12_opened 13 = .ok (.getfield 209, 3) := by decide +kernel
theorem dX12_opened_16 : decode cX12_opened 16 = .ok (.iconst 1, 1) := by decide +kernel
theorem dX12_opened_17 : decode cX12_opened 17 = .ok (.iadd, 1) := by decide +kernel
theorem dX12_opened_18 : decode cX12_opened 18 = .ok (.putfield 209, 3) := by decide +kernel
theorem dX12_opened_21 : decode cX12_opened 21 = .ok (.aload_n 0, 1) := by decide +kernel
theorem dX12_opened_22 : decode cX12_opened 22 = .ok (.aload_n 0, 1) := by decide +kernel
theorem dX12_opened_23 : decode cX12_opened 23 = .ok (.getfield 209, 3) := by decide +kernel
theorem dX12_opened_26 : decode cX12_opened 26 = .ok (.aload_n 0, 1) := by decide +kernel
theorem dX12_opened_27 : decode cX12_opened 27 = .ok (.getfield 223, 3) := by decide +kernel
theorem dX12_opened_30 : decode cX12_opened 30 = .ok (.if_icmp .le 10, 3) := by decide +kernel
theorem dX12_opened_33 : decode cX12_opened 33 = .ok (.aload_n 0, 1) := by decide +kernel
theorem dX12_opened_34 : decode cX12_opened 34 = .ok (.getfield 209, 3) := by decide +kernel
theorem dX12_opened_37 : decode cX12_opened 37 = .ok (.goto 7, 3) := by decide +kernel
theorem dX12_opened_40 : decode cX12_opened 40 = .ok (.aload_n 0, 1) := by decide +kernel
theorem dX12_opened_41 : decode cX12_opened 41 = .ok (.getfield 223, 3) := by decide +kernel
theorem dX12_opened_44 : decode cX12_opened 44 = .ok (.putfield 223, 3) := by decide +kernel
theorem dX12_opened_47 : decode cX12_opened 47 = .ok (.aload_n 0, 1) := by decide +kernel
theorem dX12_opened_48 : decode cX12_opened 48 = .ok (.iload_n 1, 1) := by decide +kernel
theorem dX12_opened_49 : decode cX12_opened 49 = .ok (.iload_n 2, 1) := by decide +kernel
theorem dX12_opened_50 : decode cX12_opened 50 = .ok (.invokevirtual 226, 3) := by decide +kernel
theorem dX12_opened_53 : decode cX12_opened 53 = .ok (.aload_n 0, 1) := by decide +kernel
theorem dX12_opened_54 : decode cX12_opened 54 = .ok (.invokevirtual 230, 3) := by decide +kernel
theorem dX12_opened_57 : decode cX12_opened 57 = .ok (.iconst 0, 1) := by decide +kernel
theorem dX12_opened_58 : decode cX12_opened 58 = .ok (.ireturn, 1) := by decide +kernel
theorem dX12_leaf_0 : decode cX12_leaf 0 = .ok (.aload_n 0, 1) := by decide +kernel
theorem dX12_leaf_1 : decode cX12_leaf 1 = .ok (.getfield 233, 3) := by decide +kernel
theorem dX12_leaf_4 : decode cX12_leaf 4 = .ok (.bipush 16, 2) := by decide +kernel
theorem dX12_leaf_6 : decode cX12_leaf 6 = .ok (.if_icmp .ne 5, 3) := by decide +kernel
theorem dX12_leaf_9 : decode cX12_leaf 9 = .ok (.iconst 4, 1) := by decide +kernel
theorem dX12_leaf_10 : decode cX12_leaf 10 = .ok (.ireturn, 1) := by decide +kernel
theorem dX12_leaf_11 : decode cX12_leaf 11 = .ok (.aload_n 0, 1) := by decide +kernel
theorem dX12_leaf_12 : decode cX12_leaf 12 = .ok (.dup, 1) := by decide +kernel
theorem dX12_leaf_13 : decode cX12_leaf 13 = .ok (.getfield 233, 3) := by decide +kernel
theorem dX12_leaf_16 : decode cX12_leaf 16 = .ok (.iconst 1, 1) := by decide +kernel
theorem dX12_leaf_17 : decode cX12_leaf 17 = .ok (.iadd, 1) := by decide +kernel
theorem dX12_leaf_18 : decode cX12_leaf 18 = .ok (.putfield 233, 3) := by decide +kernel
theorem dX12_leaf_21 : decode cX12_leaf 21 = .ok (.aload_n 0, 1) := by decide +kernel
theorem dX12_leaf_22 : decode cX12_leaf 22 = .ok (.iload_n 1, 1) := by decide +kernel
theorem dX12_leaf_23 : decode cX12_leaf 23 = .ok (.iload_n 2, 1) := by decide +kernel
theorem dX12_leaf_24 : decode cX12_leaf 24 = .ok (.invokevirtual 236, 3) := by decide +kernel
theorem dX12_leaf_27 : decode cX12_leaf 27 = .ok (.iload_n 1, 1) := by decide +kernel
theorem dX12_leaf_28 : decode cX12_leaf 28 = .ok (.iconst 1, 1) := by decide +kernel
theorem dX12_leaf_29 : decode cX12_leaf 29 = .ok (.if_icmp .ne 18, 3) := by decide +kernel
theorem dX12_leaf_32 : decode cX12_leaf 32 = .ok (.aload_n 0, 1) := by decide +kernel
theorem dX12_leaf_33 : decode cX12_leaf 33 = .ok (.dup, 1) := by decide +kernel
theorem dX12_leaf_34 : decode cX12_leaf 34 = .ok (.getfield 239, 3) := by decide +kernel
theorem dX12_leaf_37 : decode cX12_leaf 37 = .ok (.iconst 1, 1) := by decide +kernel
theorem dX12_leaf_38 : decode cX12_leaf 38 = .ok (.iload_n 2, 1) := by decide +kernel
theorem dX12_leaf_39 : decode cX12_leaf 39 = .ok (.ishl, 1) := by decide +kernel
theorem dX12_leaf_40 : decode cX12_leaf 40 = .ok (.ior, 1) := by decide +kernel
theorem dX12_leaf_41 : decode cX12_leaf 41 = .ok (.putfield 239, 3) := by decide +kernel
theorem dX12_leaf_44 : decode cX12_leaf 44 = .ok (.goto 23, 3) := by decide +kernel
theorem dX12_leaf_47 : decode cX12_leaf 47 = .ok (.aload_n 0, 1) := by decide +kernel
theorem dX12_leaf_48 : decode cX12_leaf 48 = .ok (.iload_n 2, 1) := by decide +kernel
theorem dX12_leaf_49 : decode cX12_leaf 49 = .ok (.aload_n 0, 1) := by decide +kernel
theorem dX12_leaf_50 : decode cX12_leaf 50 = .ok (.getfield 242, 3) := by decide +kernel
theorem dX12_leaf_53 : decode cX12_leaf 53 = .ok (.if_icmp .le 7, 3) := by decide +kernel
theorem dX12_leaf_56 : decode cX12_leaf 56 = .ok (.iload_n 2, 1) := by decide +kernel
theorem dX12_leaf_57 : decode cX12_leaf 57 = .ok (.goto 7, 3) := by decide +kernel
theorem dX12_leaf_60 : decode cX12_leaf 60 = .ok (.aload_n 0, 1) := by decide +kernel
theorem dX12_leaf_61 : decode cX12_leaf 61 = .ok (.getfield 242, 3) := by decide +kernel
theorem dX12_leaf_64 : decode cX12_leaf 64 = .ok (.putfield 242, 3) := by decide +kernel
theorem dX12_leaf_67 : decode cX12_leaf 67 = .ok (.aload_n 0, 1) := by decide +kernel
theorem dX12_leaf_68 : decode cX12_leaf 68 = .ok (.getfield 47, 3) := by decide +kernel
theorem dX12_leaf_71 : decode cX12_leaf 71 = .ok (.aload_n 0, 1) := by decide +kernel
theorem dX12_leaf_72 : decode cX12_leaf 72 = .ok (.getfield 209, 3) := by decide +kernel
theorem dX12_leaf_75 : decode cX12_leaf 75 = .ok (.dup2, 1) := by decide +kernel
theorem dX12_leaf_76 : decode cX12_leaf 76 = .ok (.iaload, 1) := by decide +kernel
theorem dX12_leaf_77 : decode cX12_leaf 77 = .ok (.iconst 1, 1) := by decide +kernel
theorem dX12_leaf_78 : decode cX12_leaf 78 = .ok (.iadd, 1) := by decide +kernel
theorem dX12_leaf_79 : decode cX12_leaf 79 = .ok (.iastore, 1) := by decide +kernel
theorem dX12_leaf_80 : decode cX12_leaf 80 = .ok (.aload_n 0, 1) := by decide +kernel
theorem dX12_leaf_81 : decode cX12_leaf 81 = .ok (.invokevirtual 230, 3) := by decide +kernel
theorem dX12_leaf_84 : decode cX12_leaf 84 = .ok (.iconst 0, 1) := by decide +kernel
theorem dX12_leaf_85 : decode cX12_leaf 85 = .ok (.ireturn, 1) := by decide +kernel
theorem dX12_beginOne_0 : decode cX12_beginOne 0 = .ok (.aload_n 0, 1) := by decide +kernel
theorem dX12_beginOne_1 : decode cX12_beginOne 1 = .ok (.getfield 169, 3) := by decide +kernel
theorem dX12_beginOne_4 : decode cX12_beginOne 4 = .ok (.iconst 1, 1) := by decide +kernel
theorem dX12_beginOne_5 : decode cX12_beginOne 5 = .ok (.if_icmp .ne 29, 3) := by decide +kernel
theorem dX12_beginOne_8 : decode cX12_beginOne 8 = .ok (.aload_n 0, 1) := by decide +kernel
theorem dX12_beginOne_9 : decode cX12_beginOne 9 = .ok (.getfield 175, 3) := by decide +kernel
theorem dX12_beginOne_12 : decode cX12_beginOne 12 = .ok (.bipush 99, 2) := by decide +kernel
theorem dX12_beginOne_14 : decode cX12_beginOne 14 = .ok (.if_icmp .le 5, 3) := by decide +kernel
theorem dX12_beginOne_17 : decode cX12_beginOne 17 = .ok (.iconst 2, 1) := by decide +kernel
theorem dX12_beginOne_18 : decode cX12_beginOne 18 = .ok (.ireturn, 1) := by decide +kernel
theorem dX12_beginOne_19 : decode cX12_beginOne 19 = .ok (.aload_n 0, 1) := by decide +kernel
theorem dX12_beginOne_20 : decode cX12_beginOne 20 = .ok (.iconst 1, 1) := by decide +kernel
theorem dX12_beginOne_21 : decode cX12_beginOne 21 = .ok (.putfield 245, 3) := by decide +kernel
theorem dX12_beginOne_24 : decode cX12_beginOne 24 = .ok (.aload_n 0, 1) := by decide +kernel
theorem dX12_beginOne_25 : decode cX12_beginOne 25 = .ok (.iconst 0, 1) := by decide +kernel
theorem dX12_beginOne_26 : decode cX12_beginOne 26 = .ok (.aload_n 0, 1) := by decide +kernel
theorem dX12_beginOne_27 : decode cX12_beginOne 27 = .ok (.getfield 175, 3) := by decide +kernel
theorem dX12_beginOne_30 : decode cX12_beginOne 30 = .ok (.invokevirtual 249, 3) := by decide +kernel
theorem dX12_beginOne_33 : decode cX12_beginOne 33 = .ok (.ireturn, 1) := by decide +kernel
theorem dX12_beginOne_34 : decode cX12_beginOne 34 = .ok (.aload_n 0, 1) := by decide +kernel
theorem dX12_beginOne_35 : decode cX12_beginOne 35 = .ok (.invokevirtual 253, 3) := by decide +kernel
theorem dX12_beginOne_38 : decode cX12_beginOne 38 = .ok (.ifCond .lt 18, 3) := by decide +kernel
theorem dX12_beginOne_41 : decode cX12_beginOne 41 = .ok (.aload_n 0, 1) := by decide +kernel
theorem dX12_beginOne_42 : decode cX12_beginOne 42 = .ok (.iconst 1, 1) := by decide +kernel
theorem dX12_beginOne_43 : decode cX12_beginOne 43 = .ok (.putfield 245, 3) := by decide +kernel
theorem dX12_beginOne_46 : decode cX12_beginOne 46 = .ok (.aload_n 0, 1) := by decide +kernel
theorem dX12_beginOne_47 : decode cX12_beginOne 47 = .ok (.iconst 1, 1) := by decide +kernel
theorem dX12_beginOne_48 : decode cX12_beginOne 48 = .ok (.aload_n 0, 1) := by decide +kernel
theorem dX12_beginOne_49 : decode cX12_beginOne 49 = .ok (.invokevirtual 253, 3) := by decide +kernel
theorem dX12_beginOne_52 : decode cX12_beginOne 52 = .ok (.invokevirtual 249, 3) := by decide +kernel
theorem dX12_beginOne_55 : decode cX12_beginOne 55 = .ok (.ireturn, 1) := by decide +kernel
theorem dX12_beginOne_56 : decode cX12_beginOne 56 = .ok (.aload_n 0, 1) := by decide +kernel
theorem dX12_beginOne_57 : decode cX12_beginOne 57 = .ok (.getfield 169, 3) := by decide +kernel
theorem dX12_beginOne_60 : decode cX12_beginOne 60 = .ok (.bipush 40, 2) := by decide +kernel
theorem dX12_beginOne_62 : decode cX12_beginOne 62 = .ok (.if_icmp .ne 31, 3) := by decide +kernel
theorem dX12_beginOne_65 : decode cX12_beginOne 65 = .ok (.aload_n 0, 1) := by decide +kernel
theorem dX12_beginOne_66 : decode cX12_beginOne 66 = .ok (.getfield 209, 3) := by decide +kernel
theorem dX12_beginOne_69 : decode cX12_beginOne 69 = .ok (.bipush 8, 2) := by decide +kernel
theorem dX12_beginOne_71 : decode cX12_beginOne 71 = .ok (.if_icmp .ge 15, 3) := by decide +kernel
theorem dX12_beginOne_74 : decode cX12_beginOne 74 = .ok (.aload_n 0, 1) := by decide +kernel
theorem dX12_beginOne_75 : decode cX12_beginOne 75 = .ok (.dup, 1) := by decide +kernel
theorem dX12_beginOne_76 : decode cX12_beginOne 76 = .ok (.getfield 239, 3) := by decide +kernel
theorem dX12_beginOne_79 : decode cX12_beginOne 79 = .ok (.sipush 128, 3) := by decide +kernel
theorem dX12_beginOne_82 : decode cX12_beginOne 82 = .ok (.ior, 1) := by decide +kernel
theorem dX12_beginOne_83 : decode cX12_beginOne 83 = .ok (.putfield 239, 3) := by decide +kernel
theorem dX12_beginOne_86 : decode cX12_beginOne 86 = .ok (.aload_n 0, 1) := by decide +kernel
theorem dX12_beginOne_87 : decode cX12_beginOne 87 = .ok (.iconst 1, 1) := by decide +kernel
theorem dX12_beginOne_88 : decode cX12_beginOne 88 = .ok (.iconst 0, 1) := by decide +kernel
theorem dX12_beginOne_89 : decode cX12_beginOne 89 = .ok (.invokevirtual 257, 3) := by decide +kernel
theorem dX12_beginOne_92 : decode cX12_beginOne 92 = .ok (.ireturn, 1) := by decide +kernel
theorem dX12_beginOne_93 : decode cX12_beginOne 93 = .ok (.aload_n 0, 1) := by decide +kernel
theorem dX12_beginOne_94 : decode cX12_beginOne 94 = .ok (.ldc2_w 260, 3) := by decide +kernel
theorem dX12_beginOne_97 : decode cX12_beginOne 97 = .ok (.invokevirtual 219, 3) := by decide +kernel
theorem dX12_beginOne_100 : decode cX12_beginOne 100 = .ok (.ifCond .eq 31, 3) := by decide +kernel
theorem dX12_beginOne_103 : decode cX12_beginOne 103 = .ok (.aload_n 0, 1) := by decide +kernel
theorem dX12_beginOne_104 : decode cX12_beginOne 104 = .ok (.getfield 209, 3) := by decide +kernel
theorem dX12_beginOne_107 : decode cX12_beginOne 107 = .ok (.bipush 8, 2) := by decide +kernel
theorem dX12_beginOne_109 : decode cX12_beginOne 109 = .ok (.if_icmp .ge 15, 3) := by decide +kernel
theorem dX12_beginOne_112 : decode cX12_beginOne 112 = .ok (.aload_n 0, 1) := by decide +kernel
theorem dX12_beginOne_113 : decode cX12_beginOne 113 = .ok (.dup, 1) := by decide +kernel
theorem dX12_beginOne_114 : decode cX12_beginOne 114 = .ok (.getfield 239, 3) := by decide +kernel
theorem dX12_beginOne_117 : decode cX12_beginOne 117 = .ok (.sipush 16384, 3) := by decide +kernel
theorem dX12_beginOne_120 : decode cX12_beginOne 120 = .ok (.ior, 1) := by decide +kernel
theorem dX12_beginOne_121 : decode cX12_beginOne 121 = .ok (.putfield 239, 3) := by decide +kernel
theorem dX12_beginOne_124 : decode cX12_beginOne 124 = .ok (.aload_n 0, 1) := by decide +kernel
theorem dX12_beginOne_125 : decode cX12_beginOne 125 = .ok (.iconst 5, 1) := by decide +kernel
theorem dX12_beginOne_126 : decode cX12_beginOne 126 = .ok (.iconst 0, 1) := by decide +kernel
theorem dX12_beginOne_127 : decode cX12_beginOne 127 = .ok (.invokevirtual 257, 3) := by decide +kernel
theorem dX12_beginOne_130 : decode cX12_beginOne 130 = .ok (.ireturn, 1) := by decide +kernel
theorem dX12_beginOne_131 : decode cX12_beginOne 131 = .ok (.aload_n 0, 1) := by decide +kernel
theorem dX12_beginOne_132 : decode cX12_beginOne 132 = .ok (.invokevirtual 262, 3) := by decide +kernel
theorem dX12_beginOne_135 : decode cX12_beginOne 135 = .ok (.istore_n 1, 1) := by decide +kernel
theorem dX12_beginOne_136 : decode cX12_beginOne 136 = .ok (.iload_n 1, 1) := by decide +kernel
theorem dX12_beginOne_137 : decode cX12_beginOne 137 = .ok (.ifCond .ge 5, 3) := by decide +kernel
theorem dX12_beginOne_140 : decode cX12_beginOne 140 = .ok (.iconst 1, 1) := by decide +kernel
theorem dX12_beginOne_141 : decode cX12_beginOne 141 = .ok (.ireturn, 1) := by decide +kernel
theorem dX12_beginOne_142 : decode cX12_beginOne 142 = .ok (.aload_n 0, 1) := by decide +kernel
theorem dX12_beginOne_143 : decode cX12_beginOne 143 = .ok (.dup, 1) := by decide +kernel
theorem dX12_beginOne_144 : decode cX12_beginOne 144 = .ok (.getfield 239, 3) := by decide +kernel
theorem dX12_beginOne_147 : decode cX12_beginOne 147 = .ok (.iconst 1, 1) := by decide +kernel
theorem dX12_beginOne_148 : decode cX12_beginOne 148 = .ok (.iload_n 1, 1) := by decide +kernel
theorem dX12_beginOne_149 : decode cX12_beginOne 149 = .ok (.iconst 4, 1) := by decide +kernel
theorem dX12_beginOne_150 : decode cX12_beginOne 150 = .ok (.iadd, 1) := by decide +kernel
theorem dX12_beginOne_151 : decode cX12_beginOne 151 = .ok (.ishl, 1) := by decide +kernel
theorem dX12_beginOne_152 : decode cX12_beginOne 152 = .ok (.ior, 1) := by decide +kernel
theorem dX12_beginOne_153 : decode cX12_beginOne 153 = .ok (.putfield 239, 3) := by decide +kernel
theorem dX12_beginOne_156 : decode cX12_beginOne 156 = .ok (.aload_n 0, 1) := by decide +kernel
theorem dX12_beginOne_157 : decode cX12_beginOne 157 = .ok (.invokevirtual 230, 3) := by decide +kernel
theorem dX12_beginOne_160 : decode cX12_beginOne 160 = .ok (.aload_n 0, 1) := by decide +kernel
theorem dX12_beginOne_161 : decode cX12_beginOne 161 = .ok (.getfield 169, 3) := by decide +kernel
theorem dX12_beginOne_164 : decode cX12_beginOne 164 = .ok (.bipush 40, 2) := by decide +kernel
theorem dX12_beginOne_166 : decode cX12_beginOne 166 = .ok (.if_icmp .eq 5, 3) := by decide +kernel
theorem dX12_beginOne_169 : decode cX12_beginOne 169 = .ok (.iconst 1, 1) := by decide +kernel
theorem dX12_beginOne_170 : decode cX12_beginOne 170 = .ok (.ireturn, 1) := by decide +kernel
theorem dX12_beginOne_171 : decode cX12_beginOne 171 = .ok (.aload_n 0, 1) := by decide +kernel
theorem dX12_beginOne_172 : decode cX12_beginOne 172 = .ok (.iload_n 1, 1) := by decide +kernel
theorem dX12_beginOne_173 : decode cX12_beginOne 173 = .ok (.bipush 6, 2) := by decide +kernel
theorem dX12_beginOne_175 : decode cX12_beginOne 175 = .ok (.if_icmp .ge 7, 3) := by decide +kernel
theorem dX12_beginOne_178 : decode cX12_beginOne 178 = .ok (.iconst 2, 1) := by decide +kernel
theorem dX12_beginOne_179 : decode cX12_beginOne 179 = .ok (.goto 4, 3) := by decide +kernel
theorem dX12_beginOne_182 : decode cX12_beginOne 182 = .ok (.iconst 3, 1) := by decide +kernel
theorem dX12_beginOne_183 : decode cX12_beginOne 183 = .ok (.iload_n 1, 1) := by decide +kernel
theorem dX12_beginOne_184 : decode cX12_beginOne 184 = .ok (.invokevirtual 257, 3) := by decide +kernel
theorem dX12_beginOne_187 : decode cX12_beginOne 187 = .ok (.ireturn, 1) := by decide +kernel
theorem dX12_endTerm_0 : decode cX12_endTerm 0 = .ok (.aload_n 0, 1) := by decide +kernel
theorem dX12_endTerm_1 : decode cX12_endTerm 1 = .ok (.getfield 47, 3) := by decide +kernel
theorem dX12_endTerm_4 : decode cX12_endTerm 4 = .ok (.aload_n 0, 1) := by decide +kernel
theorem dX12_endTerm_5 : decode cX12_endTerm 5 = .ok (.getfield 209, 3) := by decide +kernel
theorem dX12_endTerm_8 : decode cX12_endTerm 8 = .ok (.iaload, 1) := by decide +kernel
theorem dX12_endTerm_9 : decode cX12_endTerm 9 = .ok (.iconst 1, 1) := by decide +kernel
theorem dX12_endTerm_10 : decode cX12_endTerm 10 = .ok (.if_icmp .le 17, 3) := by decide +kernel
theorem dX12_endTerm_13 : decode cX12_endTerm 13 = .ok (.aload_n 0, 1) := by decide +kernel
theorem dX12_endTerm_14 : decode cX12_endTerm 14 = .ok (.iconst 3, 1) := by decide +kernel
theorem dX12_endTerm_15 : decode cX12_endTerm 15 = .ok (.aload_n 0, 1) := by decide +kernel
theorem dX12_endTerm_16 : decode cX12_endTerm 16 = .ok (.getfield 47, 3) := by decide +kernel
theorem dX12_endTerm_19 : decode cX12_endTerm 19 = .ok (.aload_n 0, 1) := by decide +kernel
theorem dX12_endTerm_20 : decode cX12_endTerm 20 = .ok (.getfield 209, 3) := by decide +kernel
theorem dX12_endTerm_23 : decode cX12_endTerm 23 = .ok (.iaload, 1) := by decide +kernel
theorem dX12_endTerm_24 : decode cX12_endTerm 24 = .ok (.invokevirtual 236, 3) := by decide +kernel
theorem dX12_endTerm_27 : decode cX12_endTerm 27 = .ok (.aload_n 0, 1) := by decide +kernel
theorem dX12_endTerm_28 : decode cX12_endTerm 28 = .ok (.getfield 47, 3) := by decide +kernel
theorem dX12_endTerm_31 : decode cX12_endTerm 31 = .ok (.aload_n 0, 1) := by decide +kernel
theorem dX12_endTerm_32 : decode cX12_endTerm 32 = .ok (.getfield 209, 3) := by decide +kernel
theorem dX12_endTerm_35 : decode cX12_endTerm 35 = .ok (.iconst 0, 1) := by decide +kernel
theorem dX12_endTerm_36 : decode cX12_endTerm 36 = .ok (.iastore, 1) := by decide +kernel
theorem dX12_endTerm_37 : decode cX12_endTerm 37 = .ok (.aload_n 0, 1) := by decide +kernel
theorem dX12_endTerm_38 : decode cX12_endTerm 38 = .ok (.getfield 41, 3) := by decide +kernel
theorem dX12_endTerm_41 : decode cX12_endTerm 41 = .ok (.aload_n 0, 1) := by decide +kernel
theorem dX12_endTerm_42 : decode cX12_endTerm 42 = .ok (.getfield 209, 3) := by decide +kernel
theorem dX12_endTerm_45 : decode cX12_endTerm 45 = .ok (.dup2, 1) := by decide +kernel
theorem dX12_endTerm_46 : decode cX12_endTerm 46 = .ok (.iaload, 1) := by decide +kernel
theorem dX12_endTerm_47 : decode cX12_endTerm 47 = .ok (.iconst 1, 1) := by decide +kernel
theorem dX12_endTerm_48 : decode cX12_endTerm 48 = .ok (.iadd, 1) := by decide +kernel
theorem dX12_endTerm_49 : decode cX12_endTerm 49 = .ok (.iastore, 1) := by decide +kernel
theorem dX12_endTerm_50 : decode cX12_endTerm 50 = .ok (.return_, 1) := by decide +kernel
theorem dX12_endSum_0 : decode cX12_endSum 0 = .ok (.aload_n 0, 1) := by decide +kernel
theorem dX12_endSum_1 : decode cX12_endSum 1 = .ok (.invokevirtual 265, 3) := by decide +kernel
theorem dX12_endSum_4 : decode cX12_endSum 4 = .ok (.aload_n 0, 1) := by decide +kernel
theorem dX12_endSum_5 : decode cX12_endSum 5 = .ok (.getfield 41, 3) := by decide +kernel
theorem dX12_endSum_8 : decode cX12_endSum 8 = .ok (.aload_n 0, 1) := by decide +kernel
theorem dX12_endSum_9 : decode cX12_endSum 9 = .ok (.getfield 209, 3) := by decide +kernel
theorem dX12_endSum_12 : decode cX12_endSum 12 = .ok (.iaload, 1) := by decide +kernel
theorem dX12_endSum_13 : decode cX12_endSum 13 = .ok (.iconst 1, 1) := by decide +kernel
theorem dX12_endSum_14 : decode cX12_endSum 14 = .ok (.if_icmp .le 30, 3) := by decide +kernel
theorem dX12_endSum_17 : decode cX12_endSum 17 = .ok (.aload_n 0, 1) := by decide +kernel
theorem dX12_endSum_18 : decode cX12_endSum 18 = .ok (.iconst 2, 1) := by decide +kernel
theorem dX12_endSum_19 : decode cX12_endSum 19 = .ok (.aload_n 0, 1) := by decide +kernel
theorem dX12_endSum_20 : decode cX12_endSum 20 = .ok (.getfield 41, 3) := by decide +kernel
theorem dX12_endSum_23 : decode cX12_endSum 23 = .ok (.aload_n 0, 1) := by decide +kernel
theorem dX12_endSum_24 : decode cX12_endSum 24 = .ok (.getfield 209, 3) := by decide +kernel
theorem dX12_endSum_27 : decode cX12_endSum 27 = .ok (.iaload, 1) := by decide +kernel
theorem dX12_endSum_28 : decode cX12_endSum 28 = .ok (.aload_n 0, 1) := by decide +kernel
theorem dX12_endSum_29 : decode cX12_endSum 29 = .ok (.getfield 44, 3) := by decide +kernel
theorem dX12_endSum_32 : decode cX12_endSum 32 = .ok (.aload_n 0, 1) := by decide +kernel
theorem dX12_endSum_33 : decode cX12_endSum 33 = .ok (.getfield 209, 3) := by decide +kernel
theorem dX12_endSum_36 : decode cX12_endSum 36 = .ok (.iaload, 1) := by decide +kernel
theorem dX12_endSum_37 : decode cX12_endSum 37 = .ok (.bipush 8, 2) := by decide +kernel
theorem dX12_endSum_39 : decode cX12_endSum 39 = .ok (.ishl, 1) := by decide +kernel
theorem dX12_endSum_40 : decode cX12_endSum 40 = .ok (.ior, 1) := by decide +kernel
theorem dX12_endSum_41 : decode cX12_endSum 41 = .ok (.invokevirtual 236, 3) := by decide +kernel
theorem dX12_endSum_44 : decode cX12_endSum 44 = .ok (.return_, 1) := by decide +kernel
theorem dX12_compareAt_0 : decode cX12_compareAt 0 = .ok (.aload_n 0, 1) := by decide +kernel
theorem dX12_compareAt_1 : decode cX12_compareAt 1 = .ok (.getfield 169, 3) := by decide +kernel
theorem dX12_compareAt_4 : decode cX12_compareAt 4 = .ok (.lookupswitch 62 #[(4, 54), (5, 58), (60, 52), (61, 60), (62, 56)], 52) := by decide +kernel
theorem dX12_compareAt_56 : decode cX12_compareAt 56 = .ok (.iconst 0, 1) := by decide +kernel
theorem dX12_compareAt_57 : decode cX12_compareAt 57 = .ok (.ireturn, 1) := by decide +kernel
theorem dX12_compareAt_58 : decode cX12_compareAt 58 = .ok (.iconst 1, 1) := by decide +kernel
theorem dX12_compareAt_59 : decode cX12_compareAt 59 = .ok (.ireturn, 1) := by decide +kernel
theorem dX12_compareAt_60 : decode cX12_compareAt 60 = .ok (.iconst 2, 1) := by decide +kernel
theorem dX12_compareAt_61 : decode cX12_compareAt 61 = .ok (.ireturn, 1) := by decide +kernel
theorem dX12_compareAt_62 : decode cX12_compareAt 62 = .ok (.iconst 3, 1) := by decide +kernel
theorem dX12_compareAt_63 : decode cX12_compareAt 63 = .ok (.ireturn, 1) := by decide +kernel
theorem dX12_compareAt_64 : decode cX12_compareAt 64 = .ok (.iconst 4, 1) := by decide +kernel
theorem dX12_compareAt_65 : decode cX12_compareAt 65 = .ok (.ireturn, 1) := by decide +kernel
theorem dX12_compareAt_66 : decode cX12_compareAt 66 = .ok (.aload_n 0, 1) := by decide +kernel
theorem dX12_compareAt_67 : decode cX12_compareAt 67 = .ok (.getfield 169, 3) := by decide +kernel
theorem dX12_compareAt_70 : decode cX12_compareAt 70 = .ok (.bipush 35, 2) := by decide +kernel
theorem dX12_compareAt_72 : decode cX12_compareAt 72 = .ok (.if_icmp .ne 7, 3) := by decide +kernel
theorem dX12_compareAt_75 : decode cX12_compareAt 75 = .ok (.iconst 5, 1) := by decide +kernel
theorem dX12_compareAt_76 : decode cX12_compareAt 76 = .ok (.goto 4, 3) := by decide +kernel
theorem dX12_compareAt_79 : decode cX12_compareAt 79 = .ok (.iconst (-1), 1) := by decide +kernel
theorem dX12_compareAt_80 : decode cX12_compareAt 80 = .ok (.ireturn, 1) := by decide +kernel
theorem dX12_closed_0 : decode cX12_closed 0 = .ok (.iload_n 1, 1) := by decide +kernel
theorem dX12_closed_1 : decode cX12_closed 1 = .ok (.ifCond .ne 5, 3) := by decide +kernel
theorem dX12_closed_4 : decode cX12_closed 4 = .ok (.iconst 1, 1) := by decide +kernel
theorem dX12_closed_5 : decode cX12_closed 5 = .ok (.ireturn, 1) := by decide +kernel
theorem dX12_closed_6 : decode cX12_closed 6 = .ok (.iload_n 2, 1) := by decide +kernel
theorem dX12_closed_7 : decode cX12_closed 7 = .ok (.ifCond .lt 9, 3) := by decide +kernel
theorem dX12_closed_10 : decode cX12_closed 10 = .ok (.aload_n 0, 1) := by decide +kernel
theorem dX12_closed_11 : decode cX12_closed 11 = .ok (.iload_n 2, 1) := by decide +kernel
theorem dX12_closed_12 : decode cX12_closed 12 = .ok (.iload_n 3, 1) := by decide +kernel
theorem dX12_closed_13 : decode cX12_closed 13 = .ok (.invokevirtual 236, 3) := by decide +kernel
theorem dX12_closed_16 : decode cX12_closed 16 = .ok (.aload_n 0, 1) := by decide +kernel
theorem dX12_closed_17 : decode cX12_closed 17 = .ok (.dup, 1) := by decide +kernel
theorem dX12_closed_18 : decode cX12_closed 18 = .ok (.getfield 209, 3) := by decide +kernel
theorem dX12_closed_21 : decode cX12_closed 21 = .ok (.iconst 1, 1) := by decide +kernel
theorem dX12_closed_22 : decode cX12_closed 22 = .ok (.isub, 1) := by decide +kernel
theorem dX12_closed_23 : decode cX12_closed 23 = .ok (.putfield 209, 3) := by decide +kernel
theorem dX12_closed_26 : decode cX12_closed 26 = .ok (.aload_n 0, 1) := by decide +kernel
theorem dX12_closed_27 : decode cX12_closed 27 = .ok (.getfield 47, 3) := by decide +kernel
theorem dX12_closed_30 : decode cX12_closed 30 = .ok (.aload_n 0, 1) := by decide +kernel
theorem dX12_closed_31 : decode cX12_closed 31 = .ok (.getfield 209, 3) := by decide +kernel
theorem dX12_closed_34 : decode cX12_closed 34 = .ok (.dup2, 1) := by decide +kernel
theorem dX12_closed_35 : decode cX12_closed 35 = .ok (.iaload, 1) := by decide +kernel
theorem dX12_closed_36 : decode cX12_closed 36 = .ok (.iconst 1, 1) := by decide +kernel
theorem dX12_closed_37 : decode cX12_closed 37 = .ok (.iadd, 1) := by decide +kernel
theorem dX12_closed_38 : decode cX12_closed 38 = .ok (.iastore, 1) := by decide +kernel
theorem dX12_closed_39 : decode cX12_closed 39 = .ok (.aload_n 0, 1) := by decide +kernel
theorem dX12_closed_40 : decode cX12_closed 40 = .ok (.invokevirtual 230, 3) := by decide +kernel
theorem dX12_closed_43 : decode cX12_closed 43 = .ok (.iconst 0, 1) := by decide +kernel
theorem dX12_closed_44 : decode cX12_closed 44 = .ok (.ireturn, 1) := by decide +kernel
theorem dX12_goesOn_0 : decode cX12_goesOn 0 = .ok (.iload_n 1, 1) := by decide +kernel
theorem dX12_goesOn_1 : decode cX12_goesOn 1 = .ok (.ifCond .ne 5, 3) := by decide +kernel
theorem dX12_goesOn_4 : decode cX12_goesOn 4 = .ok (.iconst 1, 1) := by decide +kernel
theorem dX12_goesOn_5 : decode cX12_goesOn 5 = .ok (.ireturn, 1) := by decide +kernel
theorem dX12_goesOn_6 : decode cX12_goesOn 6 = .ok (.aload_n 0, 1) := by decide +kernel
theorem dX12_goesOn_7 : decode cX12_goesOn 7 = .ok (.getfield 35, 3) := by decide +kernel
theorem dX12_goesOn_10 : decode cX12_goesOn 10 = .ok (.aload_n 0, 1) := by decide +kernel
theorem dX12_goesOn_11 : decode cX12_goesOn 11 = .ok (.getfield 209, 3) := by decide +kernel
theorem dX12_goesOn_14 : decode cX12_goesOn 14 = .ok (.iload_n 2, 1) := by decide +kernel
theorem dX12_goesOn_15 : decode cX12_goesOn 15 = .ok (.iastore, 1) := by decide +kernel
theorem dX12_goesOn_16 : decode cX12_goesOn 16 = .ok (.aload_n 0, 1) := by decide +kernel
theorem dX12_goesOn_17 : decode cX12_goesOn 17 = .ok (.invokevirtual 212, 3) := by decide +kernel
theorem dX12_goesOn_20 : decode cX12_goesOn 20 = .ok (.aload_n 0, 1) := by decide +kernel
theorem dX12_goesOn_21 : decode cX12_goesOn 21 = .ok (.iconst 0, 1) := by decide +kernel
theorem dX12_goesOn_22 : decode cX12_goesOn 22 = .ok (.putfield 245, 3) := by decide +kernel
theorem dX12_goesOn_25 : decode cX12_goesOn 25 = .ok (.aload_n 0, 1) := by decide +kernel
theorem dX12_goesOn_26 : decode cX12_goesOn 26 = .ok (.invokevirtual 230, 3) := by decide +kernel
theorem dX12_goesOn_29 : decode cX12_goesOn 29 = .ok (.iconst 0, 1) := by decide +kernel
theorem dX12_goesOn_30 : decode cX12_goesOn 30 = .ok (.ireturn, 1) := by decide +kernel
theorem dX12_behindOne_0 : decode cX12_behindOne 0 = .ok (.aload_n 0, 1) := by decide +kernel
theorem dX12_behindOne_1 : decode cX12_behindOne 1 = .ok (.getfield 169, 3) := by decide +kernel
theorem dX12_behindOne_4 : decode cX12_behindOne 4 = .ok (.bipush 42, 2) := by decide +kernel
theorem dX12_behindOne_6 : decode cX12_behindOne 6 = .ok (.if_icmp .ne 25, 3) := by decide +kernel
theorem dX12_behindOne_9 : decode cX12_behindOne 9 = .ok (.aload_n 0, 1) := by decide +kernel
theorem dX12_behindOne_10 : decode cX12_behindOne 10 = .ok (.dup, 1) := by decide +kernel
theorem dX12_behindOne_11 : decode cX12_behindOne 11 = .ok (.getfield 239, 3) := by decide +kernel
theorem dX12_behindOne_14 : decode cX12_behindOne 14 = .ok (.bipush 64, 2) := by decide +kernel
theorem dX12_behindOne_16 : decode cX12_behindOne 16 = .ok (.ior, 1) := by decide +kernel
theorem dX12_behindOne_17 : decode cX12_behindOne 17 = .ok (.putfield 239, 3) := by decide +kernel
theorem dX12_behindOne_20 : decode cX12_behindOne 20 = .ok (.aload_n 0, 1) := by decide +kernel
theorem dX12_behindOne_21 : decode cX12_behindOne 21 = .ok (.iconst 0, 1) := by decide +kernel
theorem dX12_behindOne_22 : decode cX12_behindOne 22 = .ok (.putfield 245, 3) := by decide +kernel
theorem dX12_behindOne_25 : decode cX12_behindOne 25 = .ok (.aload_n 0, 1) := by decide +kernel
theorem dX12_behindOne_26 : decode cX12_behindOne 26 = .ok (.invokevirtual 230, 3) := by decide +kernel
theorem dX12_behindOne_29 : decode cX12_behindOne 29 = .ok (.iconst 0, 1) := by decide +kernel
theorem dX12_behindOne_30 : decode cX12_behindOne 30 = .ok (.ireturn, 1) := by decide +kernel
theorem dX12_behindOne_31 : decode cX12_behindOne 31 = .ok (.aload_n 0, 1) := by decide +kernel
theorem dX12_behindOne_32 : decode cX12_behindOne 32 = .ok (.getfield 169, 3) := by decide +kernel
theorem dX12_behindOne_35 : decode cX12_behindOne 35 = .ok (.bipush 43, 2) := by decide +kernel
theorem dX12_behindOne_37 : decode cX12_behindOne 37 = .ok (.if_icmp .eq 12, 3) := by decide +kernel
theorem dX12_behindOne_40 : decode cX12_behindOne 40 = .ok (.aload_n 0, 1) := by decide +kernel
theorem dX12_behindOne_41 : decode cX12_behindOne 41 = .ok (.getfield 169, 3) := by decide +kernel
theorem dX12_behindOne_44 : decode cX12_behindOne 44 = .ok (.bipush 45, 2) := by decide +kernel
theorem dX12_behindOne_46 : decode cX12_behindOne 46 = .ok (.if_icmp .ne 75, 3) := by decide +kernel
theorem dX12_behindOne_49 : decode cX12_behindOne 49 = .ok (.aload_n 0, 1) := by decide +kernel
theorem dX12_behindOne_50 : decode cX12_behindOne 50 = .ok (.invokevirtual 265, 3) := by decide +kernel
theorem dX12_behindOne_53 : decode cX12_behindOne 53 = .ok (.aload_n 0, 1) := by decide +kernel
theorem dX12_behindOne_54 : decode cX12_behindOne 54 = .ok (.dup, 1) := by decide +kernel
theorem dX12_behindOne_55 : decode cX12_behindOne 55 = .ok (.getfield 239, 3) := by decide +kernel
theorem dX12_behindOne_58 : decode cX12_behindOne 58 = .ok (.iconst 1, 1) := by decide +kernel
theorem dX12_behindOne_59 : decode cX12_behindOne 59 = .ok (.aload_n 0, 1) := by decide +kernel
theorem dX12_behindOne_60 : decode cX12_behindOne 60 = .ok (.getfield 169, 3) := by decide +kernel
theorem dX12_behindOne_63 : decode cX12_behindOne 63 = .ok (.bipush 43, 2) := by decide +kernel
theorem dX12_behindOne_65 : decode cX12_behindOne 65 = .ok (.if_icmp .ne 7, 3) := by decide +kernel
theorem dX12_behindOne_68 : decode cX12_behindOne 68 = .ok (.iconst 4, 1) := by decide +kernel
theorem dX12_behindOne_69 : decode cX12_behindOne 69 = .ok (.goto 4, 3) := by decide +kernel
theorem dX12_behindOne_72 : decode cX12_behindOne 72 = .ok (.iconst 5, 1) := by decide +kernel
theorem dX12_behindOne_73 : decode cX12_behindOne 73 = .ok (.ishl, 1) := by decide +kernel
theorem dX12_behindOne_74 : decode cX12_behindOne 74 = .ok (.ior, 1) := by decide +kernel
theorem dX12_behindOne_75 : decode cX12_behindOne 75 = .ok (.putfield 239, 3) := by decide +kernel
theorem dX12_behindOne_78 : decode cX12_behindOne 78 = .ok (.aload_n 0, 1) := by decide +kernel
theorem dX12_behindOne_79 : decode cX12_behindOne 79 = .ok (.getfield 169, 3) := by decide +kernel
theorem dX12_behindOne_82 : decode cX12_behindOne 82 = .ok (.bipush 45, 2) := by decide +kernel
theorem dX12_behindOne_84 : decode cX12_behindOne 84 = .ok (.if_icmp .ne 26, 3) := by decide +kernel
theorem dX12_behindOne_87 : decode cX12_behindOne 87 = .ok (.aload_n 0, 1) := by decide +kernel
theorem dX12_behindOne_88 : decode cX12_behindOne 88 = .ok (.getfield 44, 3) := by decide +kernel
theorem dX12_behindOne_91 : decode cX12_behindOne 91 = .ok (.aload_n 0, 1) := by decide +kernel
theorem dX12_behindOne_92 : decode cX12_behindOne 92 = .ok (.getfield 209, 3) := by decide +kernel
theorem dX12_behindOne_95 : decode cX12_behindOne 95 = .ok (.dup2, 1) := by decide +kernel
theorem dX12_behindOne_96 : decode cX12_behindOne 96 = .ok (.iaload, 1) := by decide +kernel
theorem dX12_behindOne_97 : decode cX12_behindOne 97 = .ok (.iconst 1, 1) := by decide +kernel
theorem dX12_behindOne_98 : decode cX12_behindOne 98 = .ok (.aload_n 0, 1) := by decide +kernel
theorem dX12_behindOne_99 : decode cX12_behindOne 99 = .ok (.getfield 41, 3) := by decide +kernel
theorem dX12_behindOne_102 : decode cX12_behindOne 102 = .ok (.aload_n 0, 1) := by decide +kernel
theorem dX12_behindOne_103 : decode cX12_behindOne 103 = .ok (.getfield 209, 3) := by decide +kernel
theorem dX12_behindOne_106 : decode cX12_behindOne 106 = .ok (.iaload, 1) := by decide +kernel
theorem dX12_behindOne_107 : decode cX12_behindOne 107 = .ok (.ishl, 1) := by decide +kernel
theorem dX12_behindOne_108 : decode cX12_behindOne 108 = .ok (.ior, 1) := by decide +kernel
theorem dX12_behindOne_109 : decode cX12_behindOne 109 = .ok (.iastore, 1) := by decide +kernel
theorem dX12_behindOne_110 : decode cX12_behindOne 110 = .ok (.aload_n 0, 1) := by decide +kernel
theorem dX12_behindOne_111 : decode cX12_behindOne 111 = .ok (.iconst 0, 1) := by decide +kernel
theorem dX12_behindOne_112 : decode cX12_behindOne 112 = .ok (.putfield 245, 3) := by decide +kernel
theorem dX12_behindOne_115 : decode cX12_behindOne 115 = .ok (.aload_n 0, 1) := by decide +kernel
theorem dX12_behindOne_116 : decode cX12_behindOne 116 = .ok (.invokevirtual 230, 3) := by decide +kernel
theorem dX12_behindOne_119 : decode cX12_behindOne 119 = .ok (.iconst 0, 1) := by decide +kernel
theorem dX12_behindOne_120 : decode cX12_behindOne 120 = .ok (.ireturn, 1) := by decide +kernel
theorem dX12_behindOne_121 : decode cX12_behindOne 121 = .ok (.aload_n 0, 1) := by decide +kernel
theorem dX12_behindOne_122 : decode cX12_behindOne 122 = .ok (.invokevirtual 268, 3) := by decide +kernel
theorem dX12_behindOne_125 : decode cX12_behindOne 125 = .ok (.aload_n 0, 1) := by decide +kernel
theorem dX12_behindOne_126 : decode cX12_behindOne 126 = .ok (.getfield 35, 3) := by decide +kernel
theorem dX12_behindOne_129 : decode cX12_behindOne 129 = .ok (.aload_n 0, 1) := by decide +kernel
theorem dX12_behindOne_130 : decode cX12_behindOne 130 = .ok (.getfield 209, 3) := by decide +kernel
theorem dX12_behindOne_133 : decode cX12_behindOne 133 = .ok (.iaload, 1) := by decide +kernel
theorem dX12_behindOne_134 : decode cX12_behindOne 134 = .ok (.tableswitch 248 1 8 #[46, 67, 96, 116, 145, 177, 198, 219], 46) := by decide +kernel
theorem dX12_behindOne_180 : decode cX12_behindOne 180 = .ok (.aload_n 0, 1) := by decide +kernel
theorem dX12_behindOne_181 : decode cX12_behindOne 181 = .ok (.aload_n 0, 1) := by decide +kernel
theorem dX12_behindOne_182 : decode cX12_behindOne 182 = .ok (.getfield 169, 3) := by decide +kernel
theorem dX12_behindOne_185 : decode cX12_behindOne 185 = .ok (.bipush 41, 2) := by decide +kernel
theorem dX12_behindOne_187 : decode cX12_behindOne 187 = .ok (.if_icmp .ne 7, 3) := by decide +kernel
theorem dX12_behindOne_190 : decode cX12_behindOne 190 = .ok (.iconst 1, 1) := by decide +kernel
theorem dX12_behindOne_191 : decode cX12_behindOne 191 = .ok (.goto 4, 3) := by decide +kernel
theorem dX12_behindOne_194 : decode cX12_behindOne 194 = .ok (.iconst 0, 1) := by decide +kernel
theorem dX12_behindOne_195 : decode cX12_behindOne 195 = .ok (.iconst (-1), 1) := by decide +kernel
theorem dX12_behindOne_196 : decode cX12_behindOne 196 = .ok (.iconst 0, 1) := by decide +kernel
theorem dX12_behindOne_197 : decode cX12_behindOne 197 = .ok (.invokevirtual 271, 3) := by decide +kernel
theorem dX12_behindOne_200 : decode cX12_behindOne 200 = .ok (.ireturn, 1) := by decide +kernel
theorem dX12_behindOne_201 : decode cX12_behindOne 201 = .ok (.aload_n 0, 1) := by decide +kernel
theorem dX12_behindOne_202 : decode cX12_behindOne 202 = .ok (.aload_n 0, 1) := by decide +kernel
theorem dX12_behindOne_203 : decode cX12_behindOne 203 = .ok (.getfield 169, 3) := by decide +kernel
theorem dX12_behindOne_206 : decode cX12_behindOne 206 = .ok (.bipush 41, 2) := by decide +kernel
theorem dX12_behindOne_208 : decode cX12_behindOne 208 = .ok (.if_icmp .ne 7, 3) := by decide +kernel
theorem dX12_behindOne_211 : decode cX12_behindOne 211 = .ok (.iconst 1, 1) := by decide +kernel
theorem dX12_behindOne_212 : decode cX12_behindOne 212 = .ok (.goto 4, 3) := by decide +kernel
theorem dX12_behindOne_215 : decode cX12_behindOne 215 = .ok (.iconst 0, 1) := by decide +kernel
theorem dX12_behindOne_216 : decode cX12_behindOne 216 = .ok (.aload_n 0, 1) := by decide +kernel
theorem dX12_behindOne_217 : decode cX12_behindOne 217 = .ok (.getfield 38, 3) := by decide +kernel
theorem dX12_behindOne_220 : decode cX12_behindOne 220 = .ok (.aload_n 0, 1) := by decide +kernel
theorem dX12_behindOne_221 : decode cX12_behindOne 221 = .ok (.getfield 209, 3) := by decide +kernel
theorem dX12_behindOne_224 : decode cX12_behindOne 224 = .ok (.iaload, 1) := by decide +kernel
theorem dX12_behindOne_225 : decode cX12_behindOne 225 = .ok (.iconst 0, 1) := by decide +kernel
theorem dX12_behindOne_226 : decode cX12_behindOne 226 = .ok (.invokevirtual 271, 3) := by decide +kernel
theorem dX12_behindOne_229 : decode cX12_behindOne 229 = .ok (.ireturn, 1) := by decide +kernel
theorem dX12_behindOne_230 : decode cX12_behindOne 230 = .ok (.aload_n 0, 1) := by decide +kernel
theorem dX12_behindOne_231 : decode cX12_behindOne 231 = .ok (.aload_n 0, 1) := by decide +kernel
theorem dX12_behindOne_232 : decode cX12_behindOne 232 = .ok (.getfield 169, 3) := by decide +kernel
theorem dX12_behindOne_235 : decode cX12_behindOne 235 = .ok (.bipush 44, 2) := by decide +kernel
theorem dX12_behindOne_237 : decode cX12_behindOne 237 = .ok (.if_icmp .ne 7, 3) := by decide +kernel
theorem dX12_behindOne_240 : decode cX12_behindOne 240 = .ok (.iconst 1, 1) := by decide +kernel
theorem dX12_behindOne_241 : decode cX12_behindOne 241 = .ok (.goto 4, 3) := by decide +kernel
theorem dX12_behindOne_244 : decode cX12_behindOne 244 = .ok (.iconst 0, 1) := by decide +kernel
theorem dX12_behindOne_245 : decode cX12_behindOne 245 = .ok (.iconst 4, 1) := by decide +kernel
theorem dX12_behindOne_246 : decode cX12_behindOne 246 = .ok (.invokevirtual 275, 3) := by decide +kernel
theorem dX12_behindOne_249 : decode cX12_behindOne 249 = .ok (.ireturn, 1) := by decide +kernel
theorem dX12_behindOne_250 : decode cX12_behindOne 250 = .ok (.aload_n 0, 1) := by decide +kernel
theorem dX12_behindOne_251 : decode cX12_behindOne 251 = .ok (.aload_n 0, 1) := by decide +kernel
theorem dX12_behindOne_252 : decode cX12_behindOne 252 = .ok (.getfield 169, 3) := by decide +kernel
theorem dX12_behindOne_255 : decode cX12_behindOne 255 = .ok (.bipush 41, 2) := by decide +kernel
theorem dX12_behindOne_257 : decode cX12_behindOne 257 = .ok (.if_icmp .ne 7, 3) := by decide +kernel
theorem dX12_behindOne_260 : decode cX12_behindOne 260 = .ok (.iconst 1, 1) := by decide +kernel
theorem dX12_behindOne_261 : decode cX12_behindOne 261 = .ok (.goto 4, 3) := by decide +kernel
theorem dX12_behindOne_264 : decode cX12_behindOne 264 = .ok (.iconst 0, 1) := by decide +kernel
theorem dX12_behindOne_265 : decode cX12_behindOne 265 = .ok (.aload_n 0, 1) := by decide +kernel
theorem dX12_behindOne_266 : decode cX12_behindOne 266 = .ok (.getfield 38, 3) := by decide +kernel
theorem dX12_behindOne_269 : decode cX12_behindOne 269 = .ok (.aload_n 0, 1) := by decide +kernel
theorem dX12_behindOne_270 : decode cX12_behindOne 270 = .ok (.getfield 209, 3) := by decide +kernel
theorem dX12_behindOne_273 : decode cX12_behindOne 273 = .ok (.iaload, 1) := by decide +kernel
theorem dX12_behindOne_274 : decode cX12_behindOne 274 = .ok (.iconst 0, 1) := by decide +kernel
theorem dX12_behindOne_275 : decode cX12_behindOne 275 = .ok (.invokevirtual 271, 3) := by decide +kernel
theorem dX12_behindOne_278 : decode cX12_behindOne 278 = .ok (.ireturn, 1) := by decide +kernel
theorem dX12_behindOne_279 : decode cX12_behindOne 279 = .ok (.aload_n 0, 1) := by decide +kernel
theorem dX12_behindOne_280 : decode cX12_behindOne 280 = .ok (.getfield 38, 3) := by decide +kernel
theorem dX12_behindOne_283 : decode cX12_behindOne 283 = .ok (.aload_n 0, 1) := by decide +kernel
theorem dX12_behindOne_284 : decode cX12_behindOne 284 = .ok (.getfield 209, 3) := by decide +kernel
theorem dX12_behindOne_287 : decode cX12_behindOne 287 = .ok (.aload_n 0, 1) := by decide +kernel
theorem dX12_behindOne_288 : decode cX12_behindOne 288 = .ok (.invokevirtual 279, 3) := by decide +kernel
theorem dX12_behindOne_291 : decode cX12_behindOne 291 = .ok (.iastore, 1) := by decide +kernel
theorem dX12_behindOne_292 : decode cX12_behindOne 292 = .ok (.aload_n 0, 1) := by decide +kernel
theorem dX12_behindOne_293 : decode cX12_behindOne 293 = .ok (.aload_n 0, 1) := by decide +kernel
theorem dX12_behindOne_294 : decode cX12_behindOne 294 = .ok (.invokevirtual 279, 3) := by decide +kernel
theorem dX12_behindOne_297 : decode cX12_behindOne 297 = .ok (.ifCond .lt 7, 3) := by decide +kernel
theorem dX12_behindOne_300 : decode cX12_behindOne 300 = .ok (.iconst 1, 1) := by decide +kernel
theorem dX12_behindOne_301 : decode cX12_behindOne 301 = .ok (.goto 4, 3) := by decide +kernel
theorem dX12_behindOne_304 : decode cX12_behindOne 304 = .ok (.iconst 0, 1) := by decide +kernel
theorem dX12_behindOne_305 : decode cX12_behindOne 305 = .ok (.bipush 6, 2) := by decide +kernel
theorem dX12_behindOne_307 : decode cX12_behindOne 307 = .ok (.invokevirtual 275, 3) := by decide +kernel
theorem dX12_behindOne_310 : decode cX12_behindOne 310 = .ok (.ireturn, 1) := by decide +kernel
theorem dX12_behindOne_311 : decode cX12_behindOne 311 = .ok (.aload_n 0, 1) := by decide +kernel
theorem dX12_behindOne_312 : decode cX12_behindOne 312 = .ok (.aload_n 0, 1) := by decide +kernel
theorem dX12_behindOne_313 : decode cX12_behindOne 313 = .ok (.getfield 169, 3) := by decide +kernel
theorem dX12_behindOne_316 : decode cX12_behindOne 316 = .ok (.bipush 63, 2) := by decide +kernel
theorem dX12_behindOne_318 : decode cX12_behindOne 318 = .ok (.if_icmp .ne 7, 3) := by decide +kernel
theorem dX12_behindOne_321 : decode cX12_behindOne 321 = .ok (.iconst 1, 1) := by decide +kernel
theorem dX12_behindOne_322 : decode cX12_behindOne 322 = .ok (.goto 4, 3) := by decide +kernel
theorem dX12_behindOne_325 : decode cX12_behindOne 325 = .ok (.iconst 0, 1) := by decide +kernel
theorem dX12_behindOne_326 : decode cX12_behindOne 326 = .ok (.bipush 7, 2) := by decide +kernel
theorem dX12_behindOne_328 : decode cX12_behindOne 328 = .ok (.invokevirtual 275, 3) := by decide +kernel
theorem dX12_behindOne_331 : decode cX12_behindOne 331 = .ok (.ireturn, 1) := by decide +kernel
theorem dX12_behindOne_332 : decode cX12_behindOne 332 = .ok (.aload_n 0, 1) := by decide +kernel
theorem dX12_behindOne_333 : decode cX12_behindOne 333 = .ok (.aload_n 0, 1) := by decide +kernel
theorem dX12_behindOne_334 : decode cX12_behindOne 334 = .ok (.getfield 169, 3) := by decide +kernel
theorem dX12_behindOne_337 : decode cX12_behindOne 337 = .ok (.bipush 58, 2) := by decide +kernel
theorem dX12_behindOne_339 : decode cX12_behindOne 339 = .ok (.if_icmp .ne 7, 3) := by decide +kernel
theorem dX12_behindOne_342 : decode cX12_behindOne 342 = .ok (.iconst 1, 1) := by decide +kernel
theorem dX12_behindOne_343 : decode cX12_behindOne 343 = .ok (.goto 4, 3) := by decide +kernel
theorem dX12_behindOne_346 : decode cX12_behindOne 346 = .ok (.iconst 0, 1) := by decide +kernel
theorem dX12_behindOne_347 : decode cX12_behindOne 347 = .ok (.bipush 8, 2) := by decide +kernel
theorem dX12_behindOne_349 : decode cX12_behindOne 349 = .ok (.invokevirtual 275, 3) := by decide +kernel
theorem dX12_behindOne_352 : decode cX12_behindOne 352 = .ok (.ireturn, 1) := by decide +kernel
theorem dX12_behindOne_353 : decode cX12_behindOne 353 = .ok (.aload_n 0, 1) := by decide +kernel
theorem dX12_behindOne_354 : decode cX12_behindOne 354 = .ok (.aload_n 0, 1) := by decide +kernel
theorem dX12_behindOne_355 : decode cX12_behindOne 355 = .ok (.bipush 101, 2) := by decide +kernel
theorem dX12_behindOne_357 : decode cX12_behindOne 357 = .ok (.bipush 110, 2) := by decide +kernel
theorem dX12_behindOne_359 : decode cX12_behindOne 359 = .ok (.bipush 100, 2) := by decide +kernel
theorem dX12_behindOne_361 : decode cX12_behindOne 361 = .ok (.invokestatic 191, 3) := by decide +kernel
theorem dX12_behindOne_364 : decode cX12_behindOne 364 = .ok (.invokevirtual 219, 3) := by decide +kernel
theorem dX12_behindOne_367 : decode cX12_behindOne 367 = .ok (.bipush 10, 2) := by decide +kernel
theorem dX12_behindOne_369 : decode cX12_behindOne 369 = .ok (.aload_n 0, 1) := by decide +kernel
theorem dX12_behindOne_370 : decode cX12_behindOne 370 = .ok (.getfield 38, 3) := by decide +kernel
theorem dX12_behindOne_373 : decode cX12_behindOne 373 = .ok (.aload_n 0, 1) := by decide +kernel
theorem dX12_behindOne_374 : decode cX12_behindOne 374 = .ok (.getfield 209, 3) := by decide +kernel
theorem dX12_behindOne_377 : decode cX12_behindOne 377 = .ok (.iaload, 1) := by decide +kernel
theorem dX12_behindOne_378 : decode cX12_behindOne 378 = .ok (.invokevirtual 271, 3) := by decide +kernel
theorem dX12_behindOne_381 : decode cX12_behindOne 381 = .ok (.ireturn, 1) := by decide +kernel
theorem dX12_behindOne_382 : decode cX12_behindOne 382 = .ok (.iconst (-1), 1) := by decide +kernel
theorem dX12_behindOne_383 : decode cX12_behindOne 383 = .ok (.ireturn, 1) := by decide +kernel
theorem dX12_summed_0 : decode cX12_summed 0 = .ok (.aload_n 0, 1) := by decide +kernel
theorem dX12_summed_1 : decode cX12_summed 1 = .ok (.iconst 0, 1) := by decide +kernel
theorem dX12_summed_2 : decode cX12_summed 2 = .ok (.putfield 209, 3) := by decide +kernel
theorem dX12_summed_5 : decode cX12_summed 5 = .ok (.aload_n 0, 1) := by decide +kernel
theorem dX12_summed_6 : decode cX12_summed 6 = .ok (.iconst 0, 1) := by decide +kernel
theorem dX12_summed_7 : decode cX12_summed 7 = .ok (.putfield 239, 3) := by decide +kernel
theorem dX12_summed_10 : decode cX12_summed 10 = .ok (.aload_n 0, 1) := by decide +kernel
theorem dX12_summed_11 : decode cX12_summed 11 = .ok (.iconst 0, 1) := by decide +kernel
theorem dX12_summed_12 : decode cX12_summed 12 = .ok (.putfield 223, 3) := by decide +kernel
theorem dX12_summed_15 : decode cX12_summed 15 = .ok (.aload_n 0, 1) := by decide +kernel
theorem dX12_summed_16 : decode cX12_summed 16 = .ok (.iconst 0, 1) := by decide +kernel
theorem dX12_summed_17 : decode cX12_summed 17 = .ok (.putfield 233, 3) := by decide +kernel
theorem dX12_summed_20 : decode cX12_summed 20 = .ok (.aload_n 0, 1) := by decide +kernel
theorem dX12_summed_21 : decode cX12_summed 21 = .ok (.iconst (-1), 1) := by decide +kernel
theorem dX12_summed_22 : decode cX12_summed 22 = .ok (.putfield 242, 3) := by decide +kernel
theorem dX12_summed_25 : decode cX12_summed 25 = .ok (.aload_n 0, 1) := by decide +kernel
theorem dX12_summed_26 : decode cX12_summed 26 = .ok (.iconst 0, 1) := by decide +kernel
theorem dX12_summed_27 : decode cX12_summed 27 = .ok (.iconst 0, 1) := by decide +kernel
theorem dX12_summed_28 : decode cX12_summed 28 = .ok (.invokevirtual 226, 3) := by decide +kernel
theorem dX12_summed_31 : decode cX12_summed 31 = .ok (.aload_n 0, 1) := by decide +kernel
theorem dX12_summed_32 : decode cX12_summed 32 = .ok (.iconst 0, 1) := by decide +kernel
theorem dX12_summed_33 : decode cX12_summed 33 = .ok (.putfield 245, 3) := by decide +kernel
theorem dX12_summed_36 : decode cX12_summed 36 = .ok (.aload_n 0, 1) := by decide +kernel
theorem dX12_summed_37 : decode cX12_summed 37 = .ok (.getfield 245, 3) := by decide +kernel
theorem dX12_summed_40 : decode cX12_summed 40 = .ok (.ifCond .eq 10, 3) := by decide +kernel
theorem dX12_summed_43 : decode cX12_summed 43 = .ok (.aload_n 0, 1) := by decide +kernel
theorem dX12_summed_44 : decode cX12_summed 44 = .ok (.invokevirtual 282, 3) := by decide +kernel
theorem dX12_summed_47 : decode cX12_summed 47 = .ok (.goto 7, 3) := by decide +kernel
theorem dX12_summed_50 : decode cX12_summed 50 = .ok (.aload_n 0, 1) := by decide +kernel
theorem dX12_summed_51 : decode cX12_summed 51 = .ok (.invokevirtual 285, 3) := by decide +kernel
theorem dX12_summed_54 : decode cX12_summed 54 = .ok (.istore_n 1, 1) := by decide +kernel
theorem dX12_summed_55 : decode cX12_summed 55 = .ok (.iload_n 1, 1) := by decide +kernel
theorem dX12_summed_56 : decode cX12_summed 56 = .ok (.iconst (-1), 1) := by decide +kernel
theorem dX12_summed_57 : decode cX12_summed 57 = .ok (.if_icmp .ne 5, 3) := by decide +kernel
theorem dX12_summed_60 : decode cX12_summed 60 = .ok (.iconst 0, 1) := by decide +kernel
theorem dX12_summed_61 : decode cX12_summed 61 = .ok (.ireturn, 1) := by decide +kernel
theorem dX12_summed_62 : decode cX12_summed 62 = .ok (.iload_n 1, 1) := by decide +kernel
theorem dX12_summed_63 : decode cX12_summed 63 = .ok (.ifCond .eq 5, 3) := by decide +kernel
theorem dX12_summed_66 : decode cX12_summed 66 = .ok (.iload_n 1, 1) := by decide +kernel
theorem dX12_summed_67 : decode cX12_summed 67 = .ok (.ireturn, 1) := by decide +kernel
theorem dX12_summed_68 : decode cX12_summed 68 = .ok (.goto (-32), 3) := by decide +kernel
theorem dX12_figure_0 : decode cX12_figure 0 = .ok (.aload_n 0, 1) := by decide +kernel
theorem dX12_figure_1 : decode cX12_figure 1 = .ok (.getfield 169, 3) := by decide +kernel
theorem dX12_figure_4 : decode cX12_figure 4 = .ok (.iconst 1, 1) := by decide +kernel
theorem dX12_figure_5 : decode cX12_figure 5 = .ok (.if_icmp .eq 5, 3) := by decide +kernel
theorem dX12_figure_8 : decode cX12_figure 8 = .ok (.iconst 1, 1) := by decide +kernel
theorem dX12_figure_9 : decode cX12_figure 9 = .ok (.ireturn, 1) := by decide +kernel
theorem dX12_figure_10 : decode cX12_figure 10 = .ok (.aload_n 0, 1) := by decide +kernel
theorem dX12_figure_11 : decode cX12_figure 11 = .ok (.getfield 175, 3) := by decide +kernel
theorem dX12_figure_14 : decode cX12_figure 14 = .ok (.iload_n 2, 1) := by decide +kernel
theorem dX12_figure_15 : decode cX12_figure 15 = .ok (.iload_n 3, 1) := by decide +kernel
theorem dX12_figure_16 : decode cX12_figure 16 = .ok (.invokestatic 126, 3) := by decide +kernel
theorem dX12_figure_19 : decode cX12_figure 19 = .ok (.ifCond .ne 5, 3) := by decide +kernel
theorem dX12_figure_22 : decode cX12_figure 22 = .ok (.iconst 2, 1) := by decide +kernel
theorem dX12_figure_23 : decode cX12_figure 23 = .ok (.ireturn, 1) := by decide +kernel
theorem dX12_figure_24 : decode cX12_figure 24 = .ok (.aload_n 0, 1) := by decide +kernel
theorem dX12_figure_25 : decode cX12_figure 25 = .ok (.getfield 32, 3) := by decide +kernel
theorem dX12_figure_28 : decode cX12_figure 28 = .ok (.aload_n 0, 1) := by decide +kernel
theorem dX12_figure_29 : decode cX12_figure 29 = .ok (.getfield 288, 3) := by decide +kernel
theorem dX12_figure_32 : decode cX12_figure 32 = .ok (.iconst 1, 1) := by decide +kernel
theorem dX12_figure_33 : decode cX12_figure 33 = .ok (.iadd, 1) := by decide +kernel
theorem dX12_figure_34 : decode cX12_figure 34 = .ok (.iload_n 1, 1) := by decide +kernel
theorem dX12_figure_35 : decode cX12_figure 35 = .ok (.iadd, 1) := by decide +kernel
theorem dX12_figure_36 : decode cX12_figure 36 = .ok (.aload_n 0, 1) := by decide +kernel
theorem dX12_figure_37 : decode cX12_figure 37 = .ok (.getfield 175, 3) := by decide +kernel
theorem dX12_figure_40 : decode cX12_figure 40 = .ok (.iastore, 1) := by decide +kernel
theorem dX12_figure_41 : decode cX12_figure 41 = .ok (.aload_n 0, 1) := by decide +kernel
theorem dX12_figure_42 : decode cX12_figure 42 = .ok (.invokevirtual 230, 3) := by decide +kernel
theorem dX12_figure_45 : decode cX12_figure 45 = .ok (.iconst 0, 1) := by decide +kernel
theorem dX12_figure_46 : decode cX12_figure 46 = .ok (.ireturn, 1) := by decide +kernel
theorem dX12_worded_0 : decode cX12_worded 0 = .ok (.aload_n 0, 1) := by decide +kernel
theorem dX12_worded_1 : decode cX12_worded 1 = .ok (.lload_n 1, 1) := by decide +kernel
theorem dX12_worded_2 : decode cX12_worded 2 = .ok (.invokevirtual 219, 3) := by decide +kernel
theorem dX12_worded_5 : decode cX12_worded 5 = .ok (.ifCond .ne 5, 3) := by decide +kernel
theorem dX12_worded_8 : decode cX12_worded 8 = .ok (.iconst 1, 1) := by decide +kernel
theorem dX12_worded_9 : decode cX12_worded 9 = .ok (.ireturn, 1) := by decide +kernel
theorem dX12_worded_10 : decode cX12_worded 10 = .ok (.aload_n 0, 1) := by decide +kernel
theorem dX12_worded_11 : decode cX12_worded 11 = .ok (.invokevirtual 230, 3) := by decide +kernel
theorem dX12_worded_14 : decode cX12_worded 14 = .ok (.aload_n 0, 1) := by decide +kernel
theorem dX12_worded_15 : decode cX12_worded 15 = .ok (.iload_n 3, 1) := by decide +kernel
theorem dX12_worded_16 : decode cX12_worded 16 = .ok (.iload 4, 2) := by decide +kernel
theorem dX12_worded_18 : decode cX12_worded 18 = .ok (.iload 5, 2) := by decide +kernel
theorem dX12_worded_20 : decode cX12_worded 20 = .ok (.invokevirtual 291, 3) := by decide +kernel
theorem dX12_worded_23 : decode cX12_worded 23 = .ok (.ireturn, 1) := by decide +kernel
theorem dX12_let_0 : decode cX12_let 0 = .ok (.aload_n 0, 1) := by decide +kernel
theorem dX12_let_1 : decode cX12_let 1 = .ok (.invokevirtual 253, 3) := by decide +kernel
theorem dX12_let_4 : decode cX12_let 4 = .ok (.ifCond .ge 5, 3) := by decide +kernel
theorem dX12_let_7 : decode cX12_let 7 = .ok (.iconst 1, 1) := by decide +kernel
theorem dX12_let_8 : decode cX12_let 8 = .ok (.ireturn, 1) := by decide +kernel
theorem dX12_let_9 : decode cX12_let 9 = .ok (.aload_n 0, 1) := by decide +kernel
theorem dX12_let_10 : decode cX12_let 10 = .ok (.getfield 32, 3) := by decide +kernel
theorem dX12_let_13 : decode cX12_let 13 = .ok (.aload_n 0, 1) := by decide +kernel
theorem dX12_let_14 : decode cX12_let 14 = .ok (.getfield 288, 3) := by decide +kernel
theorem dX12_let_17 : decode cX12_let 17 = .ok (.iconst 1, 1) := by decide +kernel
theorem dX12_let_18 : decode cX12_let 18 = .ok (.iadd, 1) := by decide +kernel
theorem dX12_let_19 : decode cX12_let 19 = .ok (.aload_n 0, 1) := by decide +kernel
theorem dX12_let_20 : decode cX12_let 20 = .ok (.invokevirtual 253, 3) := by decide +kernel
theorem dX12_let_23 : decode cX12_let 23 = .ok (.iastore, 1) := by decide +kernel
theorem dX12_let_24 : decode cX12_let 24 = .ok (.aload_n 0, 1) := by decide +kernel
theorem dX12_let_25 : decode cX12_let 25 = .ok (.invokevirtual 230, 3) := by decide +kernel
theorem dX12_let_28 : decode cX12_let 28 = .ok (.aload_n 0, 1) := by decide +kernel
theorem dX12_let_29 : decode cX12_let 29 = .ok (.ldc2_w 295, 3) := by decide +kernel
theorem dX12_let_32 : decode cX12_let 32 = .ok (.iconst 1, 1) := by decide +kernel
theorem dX12_let_33 : decode cX12_let 33 = .ok (.iconst 0, 1) := by decide +kernel
theorem dX12_let_34 : decode cX12_let 34 = .ok (.bipush 99, 2) := by decide +kernel
theorem dX12_let_36 : decode cX12_let 36 = .ok (.invokevirtual 297, 3) := by decide +kernel
theorem dX12_let_39 : decode cX12_let 39 = .ok (.ireturn, 1) := by decide +kernel
theorem dX12_born_0 : decode cX12_born 0 = .ok (.aload_n 0, 1) := by decide +kernel
theorem dX12_born_1 : decode cX12_born 1 = .ok (.iconst 0, 1) := by decide +kernel
theorem dX12_born_2 : decode cX12_born 2 = .ok (.iconst 0, 1) := by decide +kernel
theorem dX12_born_3 : decode cX12_born 3 = .ok (.bipush 99, 2) := by decide +kernel
theorem dX12_born_5 : decode cX12_born 5 = .ok (.invokevirtual 291, 3) := by decide +kernel
theorem dX12_born_8 : decode cX12_born 8 = .ok (.istore_n 1, 1) := by decide +kernel
theorem dX12_born_9 : decode cX12_born 9 = .ok (.aload_n 0, 1) := by decide +kernel
theorem dX12_born_10 : decode cX12_born 10 = .ok (.getfield 32, 3) := by decide +kernel
theorem dX12_born_13 : decode cX12_born 13 = .ok (.aload_n 0, 1) := by decide +kernel
theorem dX12_born_14 : decode cX12_born 14 = .ok (.getfield 288, 3) := by decide +kernel
theorem dX12_born_17 : decode cX12_born 17 = .ok (.iconst 2, 1) := by decide +kernel
theorem dX12_born_18 : decode cX12_born 18 = .ok (.iadd, 1) := by decide +kernel
theorem dX12_born_19 : decode cX12_born 19 = .ok (.iconst (-1), 1) := by decide +kernel
theorem dX12_born_20 : decode cX12_born 20 = .ok (.iastore, 1) := by decide +kernel
theorem dX12_born_21 : decode cX12_born 21 = .ok (.aload_n 0, 1) := by decide +kernel
theorem dX12_born_22 : decode cX12_born 22 = .ok (.getfield 32, 3) := by decide +kernel
theorem dX12_born_25 : decode cX12_born 25 = .ok (.aload_n 0, 1) := by decide +kernel
theorem dX12_born_26 : decode cX12_born 26 = .ok (.getfield 288, 3) := by decide +kernel
theorem dX12_born_29 : decode cX12_born 29 = .ok (.iconst 3, 1) := by decide +kernel
theorem dX12_born_30 : decode cX12_born 30 = .ok (.iadd, 1) := by decide +kernel
theorem dX12_born_31 : decode cX12_born 31 = .ok (.iconst (-1), 1) := by decide +kernel
theorem dX12_born_32 : decode cX12_born 32 = .ok (.iastore, 1) := by decide +kernel
theorem dX12_born_33 : decode cX12_born 33 = .ok (.iload_n 1, 1) := by decide +kernel
theorem dX12_born_34 : decode cX12_born 34 = .ok (.ifCond .ne 12, 3) := by decide +kernel
theorem dX12_born_37 : decode cX12_born 37 = .ok (.aload_n 0, 1) := by decide +kernel
theorem dX12_born_38 : decode cX12_born 38 = .ok (.getfield 169, 3) := by decide +kernel
theorem dX12_born_41 : decode cX12_born 41 = .ok (.bipush 59, 2) := by decide +kernel
theorem dX12_born_43 : decode cX12_born 43 = .ok (.if_icmp .ne 5, 3) := by decide +kernel
theorem dX12_born_46 : decode cX12_born 46 = .ok (.iload_n 1, 1) := by decide +kernel
theorem dX12_born_47 : decode cX12_born 47 = .ok (.ireturn, 1) := by decide +kernel
theorem dX12_born_48 : decode cX12_born 48 = .ok (.aload_n 0, 1) := by decide +kernel
theorem dX12_born_49 : decode cX12_born 49 = .ok (.ldc2_w 301, 3) := by decide +kernel
theorem dX12_born_52 : decode cX12_born 52 = .ok (.iconst 1, 1) := by decide +kernel
theorem dX12_born_53 : decode cX12_born 53 = .ok (.iconst 0, 1) := by decide +kernel
theorem dX12_born_54 : decode cX12_born 54 = .ok (.bipush 7, 2) := by decide +kernel
theorem dX12_born_56 : decode cX12_born 56 = .ok (.invokevirtual 297, 3) := by decide +kernel
theorem dX12_born_59 : decode cX12_born 59 = .ok (.istore_n 1, 1) := by decide +kernel
theorem dX12_born_60 : decode cX12_born 60 = .ok (.iload_n 1, 1) := by decide +kernel
theorem dX12_born_61 : decode cX12_born 61 = .ok (.ifCond .eq 7, 3) := by decide +kernel
theorem dX12_born_64 : decode cX12_born 64 = .ok (.iload_n 1, 1) := by decide +kernel
theorem dX12_born_65 : decode cX12_born 65 = .ok (.goto 20, 3) := by decide +kernel
theorem dX12_born_68 : decode cX12_born 68 = .ok (.aload_n 0, 1) := by decide +kernel
theorem dX12_born_69 : decode cX12_born 69 = .ok (.bipush 97, 2) := by decide +kernel
theorem dX12_born_71 : decode cX12_born 71 = .ok (.bipush 110, 2) := by decide +kernel
theorem dX12_born_73 : decode cX12_born 73 = .ok (.bipush 100, 2) := by decide +kernel
theorem dX12_born_75 : decode cX12_born 75 = .ok (.invokestatic 191, 3) := by decide +kernel
theorem dX12_born_78 : decode cX12_born 78 = .ok (.iconst 2, 1) := by decide +kernel
theorem dX12_born_79 : decode cX12_born 79 = .ok (.iconst 0, 1) := by decide +kernel
theorem dX12_born_80 : decode cX12_born 80 = .ok (.bipush 7, 2) := by decide +kernel
theorem dX12_born_82 : decode cX12_born 82 = .ok (.invokevirtual 297, 3) := by decide +kernel
theorem dX12_born_85 : decode cX12_born 85 = .ok (.ireturn, 1) := by decide +kernel
theorem dX12_path_0 : decode cX12_path 0 = .ok (.aload_n 0, 1) := by decide +kernel
theorem dX12_path_1 : decode cX12_path 1 = .ok (.iconst 0, 1) := by decide +kernel
theorem dX12_path_2 : decode cX12_path 2 = .ok (.iconst 0, 1) := by decide +kernel
theorem dX12_path_3 : decode cX12_path 3 = .ok (.iconst 5, 1) := by decide +kernel
theorem dX12_path_4 : decode cX12_path 4 = .ok (.invokevirtual 291, 3) := by decide +kernel
theorem dX12_path_7 : decode cX12_path 7 = .ok (.istore_n 1, 1) := by decide +kernel
theorem dX12_path_8 : decode cX12_path 8 = .ok (.iload_n 1, 1) := by decide +kernel
theorem dX12_path_9 : decode cX12_path 9 = .ok (.ifCond .ne 14, 3) := by decide +kernel
theorem dX12_path_12 : decode cX12_path 12 = .ok (.aload_n 0, 1) := by decide +kernel
theorem dX12_path_13 : decode cX12_path 13 = .ok (.ldc2_w 303, 3) := by decide +kernel
theorem dX12_path_16 : decode cX12_path 16 = .ok (.iconst 1, 1) := by decide +kernel
theorem dX12_path_17 : decode cX12_path 17 = .ok (.iconst 0, 1) := by decide +kernel
theorem dX12_path_18 : decode cX12_path 18 = .ok (.iconst 5, 1) := by decide +kernel
theorem dX12_path_19 : decode cX12_path 19 = .ok (.invokevirtual 297, 3) := by decide +kernel
theorem dX12_path_22 : decode cX12_path 22 = .ok (.istore_n 1, 1) := by decide +kernel
theorem dX12_path_23 : decode cX12_path 23 = .ok (.iload_n 1, 1) := by decide +kernel
theorem dX12_path_24 : decode cX12_path 24 = .ok (.ifCond .eq 7, 3) := by decide +kernel
theorem dX12_path_27 : decode cX12_path 27 = .ok (.iload_n 1, 1) := by decide +kernel
theorem dX12_path_28 : decode cX12_path 28 = .ok (.goto 22, 3) := by decide +kernel
theorem dX12_path_31 : decode cX12_path 31 = .ok (.aload_n 0, 1) := by decide +kernel
theorem dX12_path_32 : decode cX12_path 32 = .ok (.bipush 108, 2) := by decide +kernel
theorem dX12_path_34 : decode cX12_path 34 = .ok (.bipush 111, 2) := by decide +kernel
theorem dX12_path_36 : decode cX12_path 36 = .ok (.bipush 110, 2) := by decide +kernel
theorem dX12_path_38 : decode cX12_path 38 = .ok (.bipush 103, 2) := by decide +kernel
theorem dX12_path_40 : decode cX12_path 40 = .ok (.invokestatic 195, 3) := by decide +kernel
theorem dX12_path_43 : decode cX12_path 43 = .ok (.iconst 2, 1) := by decide +kernel
theorem dX12_path_44 : decode cX12_path 44 = .ok (.iconst 1, 1) := by decide +kernel
theorem dX12_path_45 : decode cX12_path 45 = .ok (.bipush 99, 2) := by decide +kernel
theorem dX12_path_47 : decode cX12_path 47 = .ok (.invokevirtual 297, 3) := by decide +kernel
theorem dX12_path_50 : decode cX12_path 50 = .ok (.ireturn, 1) := by decide +kernel
theorem dX12_pupilClause_0 : decode cX12_pupilClause 0 = .ok (.aload_n 0, 1) := by decide +kernel
theorem dX12_pupilClause_1 : decode cX12_pupilClause 1 = .ok (.iconst 0, 1) := by decide +kernel
theorem dX12_pupilClause_2 : decode cX12_pupilClause 2 = .ok (.iconst 1, 1) := by decide +kernel
theorem dX12_pupilClause_3 : decode cX12_pupilClause 3 = .ok (.bipush 99, 2) := by decide +kernel
theorem dX12_pupilClause_5 : decode cX12_pupilClause 5 = .ok (.invokevirtual 291, 3) := by decide +kernel
theorem dX12_pupilClause_8 : decode cX12_pupilClause 8 = .ok (.istore_n 1, 1) := by decide +kernel
theorem dX12_pupilClause_9 : decode cX12_pupilClause 9 = .ok (.iload_n 1, 1) := by decide +kernel
theorem dX12_pupilClause_10 : decode cX12_pupilClause 10 = .ok (.ifCond .ne 26, 3) := by decide +kernel
theorem dX12_pupilClause_13 : decode cX12_pupilClause 13 = .ok (.aload_n 0, 1) := by decide +kernel
theorem dX12_pupilClause_14 : decode cX12_pupilClause 14 = .ok (.bipush 107, 2) := by decide +kernel
theorem dX12_pupilClause_16 : decode cX12_pupilClause 16 = .ok (.bipush 110, 2) := by decide +kernel
theorem dX12_pupilClause_18 : decode cX12_pupilClause 18 = .ok (.bipush 111, 2) := by decide +kernel
theorem dX12_pupilClause_20 : decode cX12_pupilClause 20 = .ok (.bipush 119, 2) := by decide +kernel
theorem dX12_pupilClause_22 : decode cX12_pupilClause 22 = .ok (.bipush 115, 2) := by decide +kernel
theorem dX12_pupilClause_24 : decode cX12_pupilClause 24 = .ok (.invokestatic 199, 3) := by decide +kernel
theorem dX12_pupilClause_27 : decode cX12_pupilClause 27 = .ok (.iconst 1, 1) := by decide +kernel
theorem dX12_pupilClause_28 : decode cX12_pupilClause 28 = .ok (.iconst 0, 1) := by decide +kernel
theorem dX12_pupilClause_29 : decode cX12_pupilClause 29 = .ok (.sipush 32767, 3) := by decide +kernel
theorem dX12_pupilClause_32 : decode cX12_pupilClause 32 = .ok (.invokevirtual 297, 3) := by decide +kernel
theorem dX12_pupilClause_35 : decode cX12_pupilClause 35 = .ok (.istore_n 1, 1) := by decide +kernel
theorem dX12_pupilClause_36 : decode cX12_pupilClause 36 = .ok (.iload_n 1, 1) := by decide +kernel
theorem dX12_pupilClause_37 : decode cX12_pupilClause 37 = .ok (.ifCond .ne 15, 3) := by decide +kernel
theorem dX12_pupilClause_40 : decode cX12_pupilClause 40 = .ok (.aload_n 0, 1) := by decide +kernel
theorem dX12_pupilClause_41 : decode cX12_pupilClause 41 = .ok (.ldc2_w 303, 3) := by decide +kernel
theorem dX12_pupilClause_44 : decode cX12_pupilClause 44 = .ok (.iconst 2, 1) := by decide +kernel
theorem dX12_pupilClause_45 : decode cX12_pupilClause 45 = .ok (.iconst 0, 1) := by decide +kernel
theorem dX12_pupilClause_46 : decode cX12_pupilClause 46 = .ok (.bipush 99, 2) := by decide +kernel
theorem dX12_pupilClause_48 : decode cX12_pupilClause 48 = .ok (.invokevirtual 297, 3) := by decide +kernel
theorem dX12_pupilClause_51 : decode cX12_pupilClause 51 = .ok (.istore_n 1, 1) := by decide +kernel
theorem dX12_pupilClause_52 : decode cX12_pupilClause 52 = .ok (.iload_n 1, 1) := by decide +kernel
theorem dX12_pupilClause_53 : decode cX12_pupilClause 53 = .ok (.ifCond .ne 23, 3) := by decide +kernel
theorem dX12_pupilClause_56 : decode cX12_pupilClause 56 = .ok (.aload_n 0, 1) := by decide +kernel
theorem dX12_pupilClause_57 : decode cX12_pupilClause 57 = .ok (.bipush 100, 2) := by decide +kernel
theorem dX12_pupilClause_59 : decode cX12_pupilClause 59 = .ok (.bipush 101, 2) := by decide +kernel
theorem dX12_pupilClause_61 : decode cX12_pupilClause 61 = .ok (.bipush 101, 2) := by decide +kernel
theorem dX12_pupilClause_63 : decode cX12_pupilClause 63 = .ok (.bipush 112, 2) := by decide +kernel
theorem dX12_pupilClause_65 : decode cX12_pupilClause 65 = .ok (.invokestatic 195, 3) := by decide +kernel
theorem dX12_pupilClause_68 : decode cX12_pupilClause 68 = .ok (.iconst 3, 1) := by decide +kernel
theorem dX12_pupilClause_69 : decode cX12_pupilClause 69 = .ok (.iconst 0, 1) := by decide +kernel
theorem dX12_pupilClause_70 : decode cX12_pupilClause 70 = .ok (.bipush 8, 2) := by decide +kernel
theorem dX12_pupilClause_72 : decode cX12_pupilClause 72 = .ok (.invokevirtual 297, 3) := by decide +kernel
theorem dX12_pupilClause_75 : decode cX12_pupilClause 75 = .ok (.istore_n 1, 1) := by decide +kernel
theorem dX12_pupilClause_76 : decode cX12_pupilClause 76 = .ok (.iload_n 1, 1) := by decide +kernel
theorem dX12_pupilClause_77 : decode cX12_pupilClause 77 = .ok (.ifCond .eq 7, 3) := by decide +kernel
theorem dX12_pupilClause_80 : decode cX12_pupilClause 80 = .ok (.iload_n 1, 1) := by decide +kernel
theorem dX12_pupilClause_81 : decode cX12_pupilClause 81 = .ok (.goto 22, 3) := by decide +kernel
theorem dX12_pupilClause_84 : decode cX12_pupilClause 84 = .ok (.aload_n 0, 1) := by decide +kernel
theorem dX12_pupilClause_85 : decode cX12_pupilClause 85 = .ok (.bipush 108, 2) := by decide +kernel
theorem dX12_pupilClause_87 : decode cX12_pupilClause 87 = .ok (.bipush 111, 2) := by decide +kernel
theorem dX12_pupilClause_89 : decode cX12_pupilClause 89 = .ok (.bipush 110, 2) := by decide +kernel
theorem dX12_pupilClause_91 : decode cX12_pupilClause 91 = .ok (.bipush 103, 2) := by decide +kernel
theorem dX12_pupilClause_93 : decode cX12_pupilClause 93 = .ok (.invokestatic 195, 3) := by decide +kernel
theorem dX12_pupilClause_96 : decode cX12_pupilClause 96 = .ok (.iconst 4, 1) := by decide +kernel
theorem dX12_pupilClause_97 : decode cX12_pupilClause 97 = .ok (.iconst 1, 1) := by decide +kernel
theorem dX12_pupilClause_98 : decode cX12_pupilClause 98 = .ok (.bipush 16, 2) := by decide +kernel
theorem dX12_pupilClause_100 : decode cX12_pupilClause 100 = .ok (.invokevirtual 297, 3) := by decide +kernel
theorem dX12_pupilClause_103 : decode cX12_pupilClause 103 = .ok (.ireturn, 1) := by decide +kernel
theorem dX12_sortAt_0 : decode cX12_sortAt 0 = .ok (.aload_n 0, 1) := by decide +kernel
theorem dX12_sortAt_1 : decode cX12_sortAt 1 = .ok (.bipush 97, 2) := by decide +kernel
theorem dX12_sortAt_3 : decode cX12_sortAt 3 = .ok (.bipush 115, 2) := by decide +kernel
theorem dX12_sortAt_5 : decode cX12_sortAt 5 = .ok (.bipush 107, 2) := by decide +kernel
theorem dX12_sortAt_7 : decode cX12_sortAt 7 = .ok (.invokestatic 191, 3) := by decide +kernel
theorem dX12_sortAt_10 : decode cX12_sortAt 10 = .ok (.invokevirtual 219, 3) := by decide +kernel
theorem dX12_sortAt_13 : decode cX12_sortAt 13 = .ok (.ifCond .eq 5, 3) := by decide +kernel
theorem dX12_sortAt_16 : decode cX12_sortAt 16 = .ok (.iconst 0, 1) := by decide +kernel
theorem dX12_sortAt_17 : decode cX12_sortAt 17 = .ok (.ireturn, 1) := by decide +kernel
theorem dX12_sortAt_18 : decode cX12_sortAt 18 = .ok (.aload_n 0, 1) := by decide +kernel
theorem dX12_sortAt_19 : decode cX12_sortAt 19 = .ok (.bipush 108, 2) := by decide +kernel
theorem dX12_sortAt_21 : decode cX12_sortAt 21 = .ok (.bipush 101, 2) := by decide +kernel
theorem dX12_sortAt_23 : decode cX12_sortAt 23 = .ok (.bipush 116, 2) := by decide +kernel
theorem dX12_sortAt_25 : decode cX12_sortAt 25 = .ok (.invokestatic 191, 3) := by decide +kernel
theorem dX12_sortAt_28 : decode cX12_sortAt 28 = .ok (.invokevirtual 219, 3) := by decide +kernel
theorem dX12_sortAt_31 : decode cX12_sortAt 31 = .ok (.ifCond .eq 5, 3) := by decide +kernel
theorem dX12_sortAt_34 : decode cX12_sortAt 34 = .ok (.iconst 1, 1) := by decide +kernel
theorem dX12_sortAt_35 : decode cX12_sortAt 35 = .ok (.ireturn, 1) := by decide +kernel
theorem dX12_sortAt_36 : decode cX12_sortAt 36 = .ok (.aload_n 0, 1) := by decide +kernel
theorem dX12_sortAt_37 : decode cX12_sortAt 37 = .ok (.bipush 98, 2) := by decide +kernel
theorem dX12_sortAt_39 : decode cX12_sortAt 39 = .ok (.bipush 111, 2) := by decide +kernel
theorem dX12_sortAt_41 : decode cX12_sortAt 41 = .ok (.bipush 114, 2) := by decide +kernel
theorem dX12_sortAt_43 : decode cX12_sortAt 43 = .ok (.bipush 110, 2) := by decide +kernel
theorem dX12_sortAt_45 : decode cX12_sortAt 45 = .ok (.invokestatic 195, 3) := by decide +kernel
theorem dX12_sortAt_48 : decode cX12_sortAt 48 = .ok (.invokevirtual 219, 3) := by decide +kernel
theorem dX12_sortAt_51 : decode cX12_sortAt 51 = .ok (.ifCond .eq 5, 3) := by decide +kernel
theorem dX12_sortAt_54 : decode cX12_sortAt 54 = .ok (.iconst 2, 1) := by decide +kernel
theorem dX12_sortAt_55 : decode cX12_sortAt 55 = .ok (.ireturn, 1) := by decide +kernel
theorem dX12_sortAt_56 : decode cX12_sortAt 56 = .ok (.aload_n 0, 1) := by decide +kernel
theorem dX12_sortAt_57 : decode cX12_sortAt 57 = .ok (.bipush 112, 2) := by decide +kernel
theorem dX12_sortAt_59 : decode cX12_sortAt 59 = .ok (.bipush 97, 2) := by decide +kernel
theorem dX12_sortAt_61 : decode cX12_sortAt 61 = .ok (.bipush 116, 2) := by decide +kernel
theorem dX12_sortAt_63 : decode cX12_sortAt 63 = .ok (.bipush 104, 2) := by decide +kernel
theorem dX12_sortAt_65 : decode cX12_sortAt 65 = .ok (.invokestatic 195, 3) := by decide +kernel
theorem dX12_sortAt_68 : decode cX12_sortAt 68 = .ok (.invokevirtual 219, 3) := by decide +kernel
theorem dX12_sortAt_71 : decode cX12_sortAt 71 = .ok (.ifCond .eq 5, 3) := by decide +kernel
theorem dX12_sortAt_74 : decode cX12_sortAt 74 = .ok (.iconst 3, 1) := by decide +kernel
theorem dX12_sortAt_75 : decode cX12_sortAt 75 = .ok (.ireturn, 1) := by decide +kernel
theorem dX12_sortAt_76 : decode cX12_sortAt 76 = .ok (.aload_n 0, 1) := by decide +kernel
theorem dX12_sortAt_77 : decode cX12_sortAt 77 = .ok (.bipush 115, 2) := by decide +kernel
theorem dX12_sortAt_79 : decode cX12_sortAt 79 = .ok (.bipush 97, 2) := by decide +kernel
theorem dX12_sortAt_81 : decode cX12_sortAt 81 = .ok (.bipush 121, 2) := by decide +kernel
theorem dX12_sortAt_83 : decode cX12_sortAt 83 = .ok (.invokestatic 191, 3) := by decide +kernel
theorem dX12_sortAt_86 : decode cX12_sortAt 86 = .ok (.invokevirtual 219, 3) := by decide +kernel
theorem dX12_sortAt_89 : decode cX12_sortAt 89 = .ok (.ifCond .eq 5, 3) := by decide +kernel
theorem dX12_sortAt_92 : decode cX12_sortAt 92 = .ok (.iconst 4, 1) := by decide +kernel
theorem dX12_sortAt_93 : decode cX12_sortAt 93 = .ok (.ireturn, 1) := by decide +kernel
theorem dX12_sortAt_94 : decode cX12_sortAt 94 = .ok (.aload_n 0, 1) := by decide +kernel
theorem dX12_sortAt_95 : decode cX12_sortAt 95 = .ok (.bipush 112, 2) := by decide +kernel
theorem dX12_sortAt_97 : decode cX12_sortAt 97 = .ok (.bipush 117, 2) := by decide +kernel
theorem dX12_sortAt_99 : decode cX12_sortAt 99 = .ok (.bipush 112, 2) := by decide +kernel
theorem dX12_sortAt_101 : decode cX12_sortAt 101 = .ok (.bipush 105, 2) := by decide +kernel
theorem dX12_sortAt_103 : decode cX12_sortAt 103 = .ok (.bipush 108, 2) := by decide +kernel
theorem dX12_sortAt_105 : decode cX12_sortAt 105 = .ok (.invokestatic 199, 3) := by decide +kernel
theorem dX12_sortAt_108 : decode cX12_sortAt 108 = .ok (.invokevirtual 219, 3) := by decide +kernel
theorem dX12_sortAt_111 : decode cX12_sortAt 111 = .ok (.ifCond .eq 5, 3) := by decide +kernel
theorem dX12_sortAt_114 : decode cX12_sortAt 114 = .ok (.iconst 5, 1) := by decide +kernel
theorem dX12_sortAt_115 : decode cX12_sortAt 115 = .ok (.ireturn, 1) := by decide +kernel
theorem dX12_sortAt_116 : decode cX12_sortAt 116 = .ok (.aload_n 0, 1) := by decide +kernel
theorem dX12_sortAt_117 : decode cX12_sortAt 117 = .ok (.bipush 97, 2) := by decide +kernel
theorem dX12_sortAt_119 : decode cX12_sortAt 119 = .ok (.bipush 110, 2) := by decide +kernel
theorem dX12_sortAt_121 : decode cX12_sortAt 121 = .ok (.bipush 115, 2) := by decide +kernel
theorem dX12_sortAt_123 : decode cX12_sortAt 123 = .ok (.bipush 119, 2) := by decide +kernel
theorem dX12_sortAt_125 : decode cX12_sortAt 125 = .ok (.bipush 101, 2) := by decide +kernel
theorem dX12_sortAt_127 : decode cX12_sortAt 127 = .ok (.bipush 114, 2) := by decide +kernel
theorem dX12_sortAt_129 : decode cX12_sortAt 129 = .ok (.invokestatic 305, 3) := by decide +kernel
theorem dX12_sortAt_132 : decode cX12_sortAt 132 = .ok (.invokevirtual 219, 3) := by decide +kernel
theorem dX12_sortAt_135 : decode cX12_sortAt 135 = .ok (.ifCond .eq 6, 3) := by decide +kernel
theorem dX12_sortAt_138 : decode cX12_sortAt 138 = .ok (.bipush 6, 2) := by decide +kernel
theorem dX12_sortAt_140 : decode cX12_sortAt 140 = .ok (.ireturn, 1) := by decide +kernel
theorem dX12_sortAt_141 : decode cX12_sortAt 141 = .ok (.aload_n 0, 1) := by decide +kernel
theorem dX12_sortAt_142 : decode cX12_sortAt 142 = .ok (.bipush 97, 2) := by decide +kernel
theorem dX12_sortAt_144 : decode cX12_sortAt 144 = .ok (.bipush 115, 2) := by decide +kernel
theorem dX12_sortAt_146 : decode cX12_sortAt 146 = .ok (.bipush 107, 2) := by decide +kernel
theorem dX12_sortAt_148 : decode cX12_sortAt 148 = .ok (.bipush 115, 2) := by decide +kernel
theorem dX12_sortAt_150 : decode cX12_sortAt 150 = .ok (.invokestatic 195, 3) := by decide +kernel
theorem dX12_sortAt_153 : decode cX12_sortAt 153 = .ok (.invokevirtual 219, 3) := by decide +kernel
theorem dX12_sortAt_156 : decode cX12_sortAt 156 = .ok (.ifCond .eq 6, 3) := by decide +kernel
theorem dX12_sortAt_159 : decode cX12_sortAt 159 = .ok (.bipush 7, 2) := by decide +kernel
theorem dX12_sortAt_161 : decode cX12_sortAt 161 = .ok (.ireturn, 1) := by decide +kernel
theorem dX12_sortAt_162 : decode cX12_sortAt 162 = .ok (.aload_n 0, 1) := by decide +kernel
theorem dX12_sortAt_163 : decode cX12_sortAt 163 = .ok (.bipush 109, 2) := by decide +kernel
theorem dX12_sortAt_165 : decode cX12_sortAt 165 = .ok (.bipush 111, 2) := by decide +kernel
theorem dX12_sortAt_167 : decode cX12_sortAt 167 = .ok (.bipush 114, 2) := by decide +kernel
theorem dX12_sortAt_169 : decode cX12_sortAt 169 = .ok (.invokestatic 191, 3) := by decide +kernel
theorem dX12_sortAt_172 : decode cX12_sortAt 172 = .ok (.bipush 32, 2) := by decide +kernel
theorem dX12_sortAt_174 : decode cX12_sortAt 174 = .ok (.lshl, 1) := by decide +kernel
theorem dX12_sortAt_175 : decode cX12_sortAt 175 = .ok (.bipush 110, 2) := by decide +kernel
theorem dX12_sortAt_177 : decode cX12_sortAt 177 = .ok (.bipush 105, 2) := by decide +kernel
theorem dX12_sortAt_179 : decode cX12_sortAt 179 = .ok (.bipush 110, 2) := by decide +kernel
theorem dX12_sortAt_181 : decode cX12_sortAt 181 = .ok (.bipush 103, 2) := by decide +kernel
theorem dX12_sortAt_183 : decode cX12_sortAt 183 = .ok (.invokestatic 195, 3) := by decide +kernel
theorem dX12_sortAt_186 : decode cX12_sortAt 186 = .ok (.lor, 1) := by decide +kernel
theorem dX12_sortAt_187 : decode cX12_sortAt 187 = .ok (.invokevirtual 219, 3) := by decide +kernel
theorem dX12_sortAt_190 : decode cX12_sortAt 190 = .ok (.ifCond .eq 8, 3) := by decide +kernel
theorem dX12_sortAt_193 : decode cX12_sortAt 193 = .ok (.bipush 8, 2) := by decide +kernel
theorem dX12_sortAt_195 : decode cX12_sortAt 195 = .ok (.goto 4, 3) := by decide +kernel
theorem dX12_sortAt_198 : decode cX12_sortAt 198 = .ok (.iconst (-1), 1) := by decide +kernel
theorem dX12_sortAt_199 : decode cX12_sortAt 199 = .ok (.ireturn, 1) := by decide +kernel
theorem dX12_body_0 : decode cX12_body 0 = .ok (.iload_n 1, 1) := by decide +kernel
theorem dX12_body_1 : decode cX12_body 1 = .ok (.tableswitch 117 0 7 #[47, 52, 57, 62, 67, 77, 82, 92], 47) := by decide +kernel
theorem dX12_body_48 : decode cX12_body 48 = .ok (.aload_n 0, 1) := by decide +kernel
theorem dX12_body_49 : decode cX12_body 49 = .ok (.invokevirtual 309, 3) := by decide +kernel
theorem dX12_body_52 : decode cX12_body 52 = .ok (.ireturn, 1) := by decide +kernel
theorem dX12_body_53 : decode cX12_body 53 = .ok (.aload_n 0, 1) := by decide +kernel
theorem dX12_body_54 : decode cX12_body 54 = .ok (.invokevirtual 312, 3) := by decide +kernel
theorem dX12_body_57 : decode cX12_body 57 = .ok (.ireturn, 1) := by decide +kernel
theorem dX12_body_58 : decode cX12_body 58 = .ok (.aload_n 0, 1) := by decide +kernel
theorem dX12_body_59 : decode cX12_body 59 = .ok (.invokevirtual 315, 3) := by decide +kernel
theorem dX12_body_62 : decode cX12_body 62 = .ok (.ireturn, 1) := by decide +kernel
theorem dX12_body_63 : decode cX12_body 63 = .ok (.aload_n 0, 1) := by decide +kernel
theorem dX12_body_64 : decode cX12_body 64 = .ok (.invokevirtual 318, 3) := by decide +kernel
theorem dX12_body_67 : decode cX12_body 67 = .ok (.ireturn, 1) := by decide +kernel
theorem dX12_body_68 : decode cX12_body 68 = .ok (.aload_n 0, 1) := by decide +kernel
theorem dX12_body_69 : decode cX12_body 69 = .ok (.iconst 0, 1) := by decide +kernel
theorem dX12_body_70 : decode cX12_body 70 = .ok (.iconst 0, 1) := by decide +kernel
theorem dX12_body_71 : decode cX12_body 71 = .ok (.sipush 255, 3) := by decide +kernel
theorem dX12_body_74 : decode cX12_body 74 = .ok (.invokevirtual 291, 3) := by decide +kernel
theorem dX12_body_77 : decode cX12_body 77 = .ok (.ireturn, 1) := by decide +kernel
theorem dX12_body_78 : decode cX12_body 78 = .ok (.aload_n 0, 1) := by decide +kernel
theorem dX12_body_79 : decode cX12_body 79 = .ok (.invokevirtual 321, 3) := by decide +kernel
theorem dX12_body_82 : decode cX12_body 82 = .ok (.ireturn, 1) := by decide +kernel
theorem dX12_body_83 : decode cX12_body 83 = .ok (.aload_n 0, 1) := by decide +kernel
theorem dX12_body_84 : decode cX12_body 84 = .ok (.iconst 0, 1) := by decide +kernel
theorem dX12_body_85 : decode cX12_body 85 = .ok (.iconst 0, 1) := by decide +kernel
theorem dX12_body_86 : decode cX12_body 86 = .ok (.sipush 9999, 3) := by decide +kernel
theorem dX12_body_89 : decode cX12_body 89 = .ok (.invokevirtual 291, 3) := by decide +kernel
theorem dX12_body_92 : decode cX12_body 92 = .ok (.ireturn, 1) := by decide +kernel
theorem dX12_body_93 : decode cX12_body 93 = .ok (.aload_n 0, 1) := by decide +kernel
theorem dX12_body_94 : decode cX12_body 94 = .ok (.iconst 0, 1) := by decide +kernel
theorem dX12_body_95 : decode cX12_body 95 = .ok (.iconst 0, 1) := by decide +kernel
theorem dX12_body_96 : decode cX12_body 96 = .ok (.iconst 5, 1) := by decide +kernel
theorem dX12_body_97 : decode cX12_body 97 = .ok (.invokevirtual 291, 3) := by decide +kernel
theorem dX12_body_100 : decode cX12_body 100 = .ok (.istore_n 2, 1) := by decide +kernel
theorem dX12_body_101 : decode cX12_body 101 = .ok (.iload_n 2, 1) := by decide +kernel
theorem dX12_body_102 : decode cX12_body 102 = .ok (.ifCond .eq 7, 3) := by decide +kernel
theorem dX12_body_105 : decode cX12_body 105 = .ok (.iload_n 2, 1) := by decide +kernel
theorem dX12_body_106 : decode cX12_body 106 = .ok (.goto 11, 3) := by decide +kernel
theorem dX12_body_109 : decode cX12_body 109 = .ok (.aload_n 0, 1) := by decide +kernel
theorem dX12_body_110 : decode cX12_body 110 = .ok (.iconst 1, 1) := by decide +kernel
theorem dX12_body_111 : decode cX12_body 111 = .ok (.iconst 0, 1) := by decide +kernel
theorem dX12_body_112 : decode cX12_body 112 = .ok (.bipush 11, 2) := by decide +kernel
theorem dX12_body_114 : decode cX12_body 114 = .ok (.invokevirtual 291, 3) := by decide +kernel
theorem dX12_body_117 : decode cX12_body 117 = .ok (.ireturn, 1) := by decide +kernel
theorem dX12_body_118 : decode cX12_body 118 = .ok (.iconst 0, 1) := by decide +kernel
theorem dX12_body_119 : decode cX12_body 119 = .ok (.ireturn, 1) := by decide +kernel
theorem dX12_clause_0 : decode cX12_clause 0 = .ok (.aload_n 0, 1) := by decide +kernel
theorem dX12_clause_1 : decode cX12_clause 1 = .ok (.invokevirtual 324, 3) := by decide +kernel
theorem dX12_clause_4 : decode cX12_clause 4 = .ok (.istore_n 1, 1) := by decide +kernel
theorem dX12_clause_5 : decode cX12_clause 5 = .ok (.iload_n 1, 1) := by decide +kernel
theorem dX12_clause_6 : decode cX12_clause 6 = .ok (.ifCond .ge 5, 3) := by decide +kernel
theorem dX12_clause_9 : decode cX12_clause 9 = .ok (.iconst 1, 1) := by decide +kernel
theorem dX12_clause_10 : decode cX12_clause 10 = .ok (.ireturn, 1) := by decide +kernel
theorem dX12_clause_11 : decode cX12_clause 11 = .ok (.aload_n 0, 1) := by decide +kernel
theorem dX12_clause_12 : decode cX12_clause 12 = .ok (.getfield 32, 3) := by decide +kernel
theorem dX12_clause_15 : decode cX12_clause 15 = .ok (.aload_n 0, 1) := by decide +kernel
theorem dX12_clause_16 : decode cX12_clause 16 = .ok (.getfield 203, 3) := by decide +kernel
theorem dX12_clause_19 : decode cX12_clause 19 = .ok (.iaload, 1) := by decide +kernel
theorem dX12_clause_20 : decode cX12_clause 20 = .ok (.istore_n 2, 1) := by decide +kernel
theorem dX12_clause_21 : decode cX12_clause 21 = .ok (.iload_n 2, 1) := by decide +kernel
theorem dX12_clause_22 : decode cX12_clause 22 = .ok (.bipush 24, 2) := by decide +kernel
theorem dX12_clause_24 : decode cX12_clause 24 = .ok (.if_icmp .ne 5, 3) := by decide +kernel
theorem dX12_clause_27 : decode cX12_clause 27 = .ok (.iconst 5, 1) := by decide +kernel
theorem dX12_clause_28 : decode cX12_clause 28 = .ok (.ireturn, 1) := by decide +kernel
theorem dX12_clause_29 : decode cX12_clause 29 = .ok (.aload_n 0, 1) := by decide +kernel
theorem dX12_clause_30 : decode cX12_clause 30 = .ok (.invokevirtual 230, 3) := by decide +kernel
theorem dX12_clause_33 : decode cX12_clause 33 = .ok (.aload_n 0, 1) := by decide +kernel
theorem dX12_clause_34 : decode cX12_clause 34 = .ok (.aload_n 0, 1) := by decide +kernel
theorem dX12_clause_35 : decode cX12_clause 35 = .ok (.getfield 203, 3) := by decide +kernel
theorem dX12_clause_38 : decode cX12_clause 38 = .ok (.iconst 1, 1) := by decide +kernel
theorem dX12_clause_39 : decode cX12_clause 39 = .ok (.iadd, 1) := by decide +kernel
theorem dX12_clause_40 : decode cX12_clause 40 = .ok (.bipush 12, 2) := by decide +kernel
theorem dX12_clause_42 : decode cX12_clause 42 = .ok (.iload_n 2, 1) := by decide +kernel
theorem dX12_clause_43 : decode cX12_clause 43 = .ok (.imul, 1) := by decide +kernel
theorem dX12_clause_44 : decode cX12_clause 44 = .ok (.iadd, 1) := by decide +kernel
theorem dX12_clause_45 : decode cX12_clause 45 = .ok (.putfield 288, 3) := by decide +kernel
theorem dX12_clause_48 : decode cX12_clause 48 = .ok (.aload_n 0, 1) := by decide +kernel
theorem dX12_clause_49 : decode cX12_clause 49 = .ok (.getfield 32, 3) := by decide +kernel
theorem dX12_clause_52 : decode cX12_clause 52 = .ok (.aload_n 0, 1) := by decide +kernel
theorem dX12_clause_53 : decode cX12_clause 53 = .ok (.getfield 288, 3) := by decide +kernel
theorem dX12_clause_56 : decode cX12_clause 56 = .ok (.iload_n 1, 1) := by decide +kernel
theorem dX12_clause_57 : decode cX12_clause 57 = .ok (.iastore, 1) := by decide +kernel
theorem dX12_clause_58 : decode cX12_clause 58 = .ok (.aload_n 0, 1) := by decide +kernel
theorem dX12_clause_59 : decode cX12_clause 59 = .ok (.getfield 32, 3) := by decide +kernel
theorem dX12_clause_62 : decode cX12_clause 62 = .ok (.aload_n 0, 1) := by decide +kernel
theorem dX12_clause_63 : decode cX12_clause 63 = .ok (.getfield 288, 3) := by decide +kernel
theorem dX12_clause_66 : decode cX12_clause 66 = .ok (.bipush 6, 2) := by decide +kernel
theorem dX12_clause_68 : decode cX12_clause 68 = .ok (.iadd, 1) := by decide +kernel
theorem dX12_clause_69 : decode cX12_clause 69 = .ok (.aload_n 0, 1) := by decide +kernel
theorem dX12_clause_70 : decode cX12_clause 70 = .ok (.getfield 206, 3) := by decide +kernel
theorem dX12_clause_73 : decode cX12_clause 73 = .ok (.iastore, 1) := by decide +kernel
theorem dX12_clause_74 : decode cX12_clause 74 = .ok (.aload_n 0, 1) := by decide +kernel
theorem dX12_clause_75 : decode cX12_clause 75 = .ok (.iload_n 1, 1) := by decide +kernel
theorem dX12_clause_76 : decode cX12_clause 76 = .ok (.invokevirtual 327, 3) := by decide +kernel
theorem dX12_clause_79 : decode cX12_clause 79 = .ok (.istore_n 3, 1) := by decide +kernel
theorem dX12_clause_80 : decode cX12_clause 80 = .ok (.iload_n 3, 1) := by decide +kernel
theorem dX12_clause_81 : decode cX12_clause 81 = .ok (.ifCond .eq 5, 3) := by decide +kernel
theorem dX12_clause_84 : decode cX12_clause 84 = .ok (.iload_n 3, 1) := by decide +kernel
theorem dX12_clause_85 : decode cX12_clause 85 = .ok (.ireturn, 1) := by decide +kernel
theorem dX12_clause_86 : decode cX12_clause 86 = .ok (.aload_n 0, 1) := by decide +kernel
theorem dX12_clause_87 : decode cX12_clause 87 = .ok (.getfield 32, 3) := by decide +kernel
theorem dX12_clause_90 : decode cX12_clause 90 = .ok (.aload_n 0, 1) := by decide +kernel
theorem dX12_clause_91 : decode cX12_clause 91 = .ok (.getfield 288, 3) := by decide +kernel
theorem dX12_clause_94 : decode cX12_clause 94 = .ok (.bipush 7, 2) := by decide +kernel
theorem dX12_clause_96 : decode cX12_clause 96 = .ok (.iadd, 1) := by decide +kernel
theorem dX12_clause_97 : decode cX12_clause 97 = .ok (.aload_n 0, 1) := by decide +kernel
theorem dX12_clause_98 : decode cX12_clause 98 = .ok (.getfield 206, 3) := by decide +kernel
theorem dX12_clause_101 : decode cX12_clause 101 = .ok (.iastore, 1) := by decide +kernel
theorem dX12_clause_102 : decode cX12_clause 102 = .ok (.aload_n 0, 1) := by decide +kernel
theorem dX12_clause_103 : decode cX12_clause 103 = .ok (.getfield 32, 3) := by decide +kernel
theorem dX12_clause_106 : decode cX12_clause 106 = .ok (.aload_n 0, 1) := by decide +kernel
theorem dX12_clause_107 : decode cX12_clause 107 = .ok (.getfield 288, 3) := by decide +kernel
theorem dX12_clause_110 : decode cX12_clause 110 = .ok (.bipush 8, 2) := by decide +kernel
theorem dX12_clause_112 : decode cX12_clause 112 = .ok (.iadd, 1) := by decide +kernel
theorem dX12_clause_113 : decode cX12_clause 113 = .ok (.aload_n 0, 1) := by decide +kernel
theorem dX12_clause_114 : decode cX12_clause 114 = .ok (.getfield 239, 3) := by decide +kernel
theorem dX12_clause_117 : decode cX12_clause 117 = .ok (.iastore, 1) := by decide +kernel
theorem dX12_clause_118 : decode cX12_clause 118 = .ok (.aload_n 0, 1) := by decide +kernel
theorem dX12_clause_119 : decode cX12_clause 119 = .ok (.getfield 32, 3) := by decide +kernel
theorem dX12_clause_122 : decode cX12_clause 122 = .ok (.aload_n 0, 1) := by decide +kernel
theorem dX12_clause_123 : decode cX12_clause 123 = .ok (.getfield 288, 3) := by decide +kernel
theorem dX12_clause_126 : decode cX12_clause 126 = .ok (.bipush 9, 2) := by decide +kernel
theorem dX12_clause_128 : decode cX12_clause 128 = .ok (.iadd, 1) := by decide +kernel
theorem dX12_clause_129 : decode cX12_clause 129 = .ok (.aload_n 0, 1) := by decide +kernel
theorem dX12_clause_130 : decode cX12_clause 130 = .ok (.getfield 223, 3) := by decide +kernel
theorem dX12_clause_133 : decode cX12_clause 133 = .ok (.iastore, 1) := by decide +kernel
theorem dX12_clause_134 : decode cX12_clause 134 = .ok (.aload_n 0, 1) := by decide +kernel
theorem dX12_clause_135 : decode cX12_clause 135 = .ok (.getfield 32, 3) := by decide +kernel
theorem dX12_clause_138 : decode cX12_clause 138 = .ok (.aload_n 0, 1) := by decide +kernel
theorem dX12_clause_139 : decode cX12_clause 139 = .ok (.getfield 288, 3) := by decide +kernel
theorem dX12_clause_142 : decode cX12_clause 142 = .ok (.bipush 10, 2) := by decide +kernel
theorem dX12_clause_144 : decode cX12_clause 144 = .ok (.iadd, 1) := by decide +kernel
theorem dX12_clause_145 : decode cX12_clause 145 = .ok (.aload_n 0, 1) := by decide +kernel
theorem dX12_clause_146 : decode cX12_clause 146 = .ok (.getfield 233, 3) := by decide +kernel
theorem dX12_clause_149 : decode cX12_clause 149 = .ok (.iastore, 1) := by decide +kernel
theorem dX12_clause_150 : decode cX12_clause 150 = .ok (.aload_n 0, 1) := by decide +kernel
theorem dX12_clause_151 : decode cX12_clause 151 = .ok (.getfield 32, 3) := by decide +kernel
theorem dX12_clause_154 : decode cX12_clause 154 = .ok (.aload_n 0, 1) := by decide +kernel
theorem dX12_clause_155 : decode cX12_clause 155 = .ok (.getfield 288, 3) := by decide +kernel
theorem dX12_clause_158 : decode cX12_clause 158 = .ok (.bipush 11, 2) := by decide +kernel
theorem dX12_clause_160 : decode cX12_clause 160 = .ok (.iadd, 1) := by decide +kernel
theorem dX12_clause_161 : decode cX12_clause 161 = .ok (.aload_n 0, 1) := by decide +kernel
theorem dX12_clause_162 : decode cX12_clause 162 = .ok (.getfield 242, 3) := by decide +kernel
theorem dX12_clause_165 : decode cX12_clause 165 = .ok (.iastore, 1) := by decide +kernel
theorem dX12_clause_166 : decode cX12_clause 166 = .ok (.aload_n 0, 1) := by decide +kernel
theorem dX12_clause_167 : decode cX12_clause 167 = .ok (.getfield 32, 3) := by decide +kernel
theorem dX12_clause_170 : decode cX12_clause 170 = .ok (.aload_n 0, 1) := by decide +kernel
theorem dX12_clause_171 : decode cX12_clause 171 = .ok (.getfield 203, 3) := by decide +kernel
theorem dX12_clause_174 : decode cX12_clause 174 = .ok (.dup2, 1) := by decide +kernel
theorem dX12_clause_175 : decode cX12_clause 175 = .ok (.iaload, 1) := by decide +kernel
theorem dX12_clause_176 : decode cX12_clause 176 = .ok (.iconst 1, 1) := by decide +kernel
theorem dX12_clause_177 : decode cX12_clause 177 = .ok (.iadd, 1) := by decide +kernel
theorem dX12_clause_178 : decode cX12_clause 178 = .ok (.iastore, 1) := by decide +kernel
theorem dX12_clause_179 : decode cX12_clause 179 = .ok (.aload_n 0, 1) := by decide +kernel
theorem dX12_clause_180 : decode cX12_clause 180 = .ok (.getfield 169, 3) := by decide +kernel
theorem dX12_clause_183 : decode cX12_clause 183 = .ok (.bipush 59, 2) := by decide +kernel
theorem dX12_clause_185 : decode cX12_clause 185 = .ok (.if_icmp .eq 5, 3) := by decide +kernel
theorem dX12_clause_188 : decode cX12_clause 188 = .ok (.iconst 1, 1) := by decide +kernel
theorem dX12_clause_189 : decode cX12_clause 189 = .ok (.ireturn, 1) := by decide +kernel
theorem dX12_clause_190 : decode cX12_clause 190 = .ok (.aload_n 0, 1) := by decide +kernel
theorem dX12_clause_191 : decode cX12_clause 191 = .ok (.invokevirtual 230, 3) := by decide +kernel
theorem dX12_clause_194 : decode cX12_clause 194 = .ok (.iconst 0, 1) := by decide +kernel
theorem dX12_clause_195 : decode cX12_clause 195 = .ok (.ireturn, 1) := by decide +kernel
theorem dX12_readText_0 : decode cX12_readText 0 = .ok (.aload_n 0, 1) := by decide +kernel
theorem dX12_readText_1 : decode cX12_readText 1 = .ok (.sipush 889, 3) := by decide +kernel
theorem dX12_readText_4 : decode cX12_readText 4 = .ok (.aload_n 0, 1) := by decide +kernel
theorem dX12_readText_5 : decode cX12_readText 5 = .ok (.getfield 7, 3) := by decide +kernel
theorem dX12_readText_8 : decode cX12_readText 8 = .ok (.bipush 6, 2) := by decide +kernel
theorem dX12_readText_10 : decode cX12_readText 10 = .ok (.iaload, 1) := by decide +kernel
theorem dX12_readText_11 : decode cX12_readText 11 = .ok (.imul, 1) := by decide +kernel
theorem dX12_readText_12 : decode cX12_readText 12 = .ok (.putfield 203, 3) := by decide +kernel
theorem dX12_readText_15 : decode cX12_readText 15 = .ok (.aload_n 0, 1) := by decide +kernel
theorem dX12_readText_16 : decode cX12_readText 16 = .ok (.getfield 32, 3) := by decide +kernel
theorem dX12_readText_19 : decode cX12_readText 19 = .ok (.aload_n 0, 1) := by decide +kernel
theorem dX12_readText_20 : decode cX12_readText 20 = .ok (.getfield 203, 3) := by decide +kernel
theorem dX12_readText_23 : decode cX12_readText 23 = .ok (.iconst 0, 1) := by decide +kernel
theorem dX12_readText_24 : decode cX12_readText 24 = .ok (.iastore, 1) := by decide +kernel
theorem dX12_readText_25 : decode cX12_readText 25 = .ok (.aload_n 0, 1) := by decide +kernel
theorem dX12_readText_26 : decode cX12_readText 26 = .ok (.iconst 0, 1) := by decide +kernel
theorem dX12_readText_27 : decode cX12_readText 27 = .ok (.putfield 206, 3) := by decide +kernel
theorem dX12_readText_30 : decode cX12_readText 30 = .ok (.aload_n 0, 1) := by decide +kernel
theorem dX12_readText_31 : decode cX12_readText 31 = .ok (.iconst 0, 1) := by decide +kernel
theorem dX12_readText_32 : decode cX12_readText 32 = .ok (.putfield 160, 3) := by decide +kernel
theorem dX12_readText_35 : decode cX12_readText 35 = .ok (.aload_n 0, 1) := by decide +kernel
theorem dX12_readText_36 : decode cX12_readText 36 = .ok (.invokevirtual 230, 3) := by decide +kernel
theorem dX12_readText_39 : decode cX12_readText 39 = .ok (.aload_n 0, 1) := by decide +kernel
theorem dX12_readText_40 : decode cX12_readText 40 = .ok (.getfield 169, 3) := by decide +kernel
theorem dX12_readText_43 : decode cX12_readText 43 = .ok (.ifCond .eq 17, 3) := by decide +kernel
theorem dX12_readText_46 : decode cX12_readText 46 = .ok (.aload_n 0, 1) := by decide +kernel
theorem dX12_readText_47 : decode cX12_readText 47 = .ok (.invokevirtual 330, 3) := by decide +kernel
theorem dX12_readText_50 : decode cX12_readText 50 = .ok (.istore_n 1, 1) := by decide +kernel
theorem dX12_readText_51 : decode cX12_readText 51 = .ok (.iload_n 1, 1) := by decide +kernel
theorem dX12_readText_52 : decode cX12_readText 52 = .ok (.ifCond .eq 5, 3) := by decide +kernel
theorem dX12_readText_55 : decode cX12_readText 55 = .ok (.iload_n 1, 1) := by decide +kernel
theorem dX12_readText_56 : decode cX12_readText 56 = .ok (.ireturn, 1) := by decide +kernel
theorem dX12_readText_57 : decode cX12_readText 57 = .ok (.goto (-18), 3) := by decide +kernel
theorem dX12_readText_60 : decode cX12_readText 60 = .ok (.iconst 0, 1) := by decide +kernel
theorem dX12_readText_61 : decode cX12_readText 61 = .ok (.ireturn, 1) := by decide +kernel
theorem dX12_text_0 : decode cX12_text 0 = .ok (.aload_n 0, 1) := by decide +kernel
theorem dX12_text_1 : decode cX12_text 1 = .ok (.getfield 7, 3) := by decide +kernel
theorem dX12_text_4 : decode cX12_text 4 = .ok (.bipush 6, 2) := by decide +kernel
theorem dX12_text_6 : decode cX12_text 6 = .ok (.iaload, 1) := by decide +kernel
theorem dX12_text_7 : decode cX12_text 7 = .ok (.iconst 4, 1) := by decide +kernel
theorem dX12_text_8 : decode cX12_text 8 = .ok (.if_icmp .ne 5, 3) := by decide +kernel
theorem dX12_text_11 : decode cX12_text 11 = .ok (.iconst (-1), 1) := by decide +kernel
theorem dX12_text_12 : decode cX12_text 12 = .ok (.ireturn, 1) := by decide +kernel
theorem dX12_text_13 : decode cX12_text 13 = .ok (.aload_n 0, 1) := by decide +kernel
theorem dX12_text_14 : decode cX12_text 14 = .ok (.aload_n 0, 1) := by decide +kernel
theorem dX12_text_15 : decode cX12_text 15 = .ok (.invokevirtual 333, 3) := by decide +kernel
theorem dX12_text_18 : decode cX12_text 18 = .ok (.putfield 25, 3) := by decide +kernel
theorem dX12_text_21 : decode cX12_text 21 = .ok (.aload_n 0, 1) := by decide +kernel
theorem dX12_text_22 : decode cX12_text 22 = .ok (.aload_n 0, 1) := by decide +kernel
theorem dX12_text_23 : decode cX12_text 23 = .ok (.getfield 25, 3) := by decide +kernel
theorem dX12_text_26 : decode cX12_text 26 = .ok (.ifCond .ne 7, 3) := by decide +kernel
theorem dX12_text_29 : decode cX12_text 29 = .ok (.iconst (-1), 1) := by decide +kernel
theorem dX12_text_30 : decode cX12_text 30 = .ok (.goto 7, 3) := by decide +kernel
theorem dX12_text_33 : decode cX12_text 33 = .ok (.aload_n 0, 1) := by decide +kernel
theorem dX12_text_34 : decode cX12_text 34 = .ok (.getfield 166, 3) := by decide +kernel
theorem dX12_text_37 : decode cX12_text 37 = .ok (.putfield 29, 3) := by decide +kernel
theorem dX12_text_40 : decode cX12_text 40 = .ok (.aload_n 0, 1) := by decide +kernel
theorem dX12_text_41 : decode cX12_text 41 = .ok (.iconst 0, 1) := by decide +kernel
theorem dX12_text_42 : decode cX12_text 42 = .ok (.putfield 153, 3) := by decide +kernel
theorem dX12_text_45 : decode cX12_text 45 = .ok (.aload_n 0, 1) := by decide +kernel
theorem dX12_text_46 : decode cX12_text 46 = .ok (.getfield 25, 3) := by decide +kernel
theorem dX12_text_49 : decode cX12_text 49 = .ok (.ifCond .eq 5, 3) := by decide +kernel
theorem dX12_text_52 : decode cX12_text 52 = .ok (.iconst (-1), 1) := by decide +kernel
theorem dX12_text_53 : decode cX12_text 53 = .ok (.ireturn, 1) := by decide +kernel
theorem dX12_text_54 : decode cX12_text 54 = .ok (.aload_n 0, 1) := by decide +kernel
theorem dX12_text_55 : decode cX12_text 55 = .ok (.getfield 7, 3) := by decide +kernel
theorem dX12_text_58 : decode cX12_text 58 = .ok (.bipush 6, 2) := by decide +kernel
theorem dX12_text_60 : decode cX12_text 60 = .ok (.dup2, 1) := by decide +kernel
theorem dX12_text_61 : decode cX12_text 61 = .ok (.iaload, 1) := by decide +kernel
theorem dX12_text_62 : decode cX12_text 62 = .ok (.iconst 1, 1) := by decide +kernel
theorem dX12_text_63 : decode cX12_text 63 = .ok (.iadd, 1) := by decide +kernel
theorem dX12_text_64 : decode cX12_text 64 = .ok (.iastore, 1) := by decide +kernel
theorem dX12_text_65 : decode cX12_text 65 = .ok (.aload_n 0, 1) := by decide +kernel
theorem dX12_text_66 : decode cX12_text 66 = .ok (.getfield 7, 3) := by decide +kernel
theorem dX12_text_69 : decode cX12_text 69 = .ok (.bipush 6, 2) := by decide +kernel
theorem dX12_text_71 : decode cX12_text 71 = .ok (.iaload, 1) := by decide +kernel
theorem dX12_text_72 : decode cX12_text 72 = .ok (.iconst 1, 1) := by decide +kernel
theorem dX12_text_73 : decode cX12_text 73 = .ok (.isub, 1) := by decide +kernel
theorem dX12_text_74 : decode cX12_text 74 = .ok (.ireturn, 1) := by decide +kernel
theorem dX12_fault_0 : decode cX12_fault 0 = .ok (.iload_n 1, 1) := by decide +kernel
theorem dX12_fault_1 : decode cX12_fault 1 = .ok (.ifCond .ne 10, 3) := by decide +kernel
