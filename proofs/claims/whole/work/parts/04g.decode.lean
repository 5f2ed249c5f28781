theorem d_MD_determinant_0 : decode c_MD_determinant 0 = .ok (.lconst 1, 1) := by decide +kernel
theorem d_MD_determinant_1 : decode c_MD_determinant 1 = .ok (.lstore_n 1, 1) := by decide +kernel
theorem d_MD_determinant_2 : decode c_MD_determinant 2 = .ok (.iconst 0, 1) := by decide +kernel
theorem d_MD_determinant_3 : decode c_MD_determinant 3 = .ok (.istore_n 3, 1) := by decide +kernel
theorem d_MD_determinant_4 : decode c_MD_determinant 4 = .ok (.iload_n 3, 1) := by decide +kernel
theorem d_MD_determinant_5 : decode c_MD_determinant 5 = .ok (.sipush 625, 3) := by decide +kernel
theorem d_MD_determinant_8 : decode c_MD_determinant 8 = .ok (.if_icmp .ge 21, 3) := by decide +kernel
theorem d_MD_determinant_11 : decode c_MD_determinant 11 = .ok (.aload_n 0, 1) := by decide +kernel
theorem d_MD_determinant_12 : decode c_MD_determinant 12 = .ok (.getfield 59, 3) := by decide +kernel
theorem d_MD_determinant_15 : decode c_MD_determinant 15 = .ok (.iload_n 3, 1) := by decide +kernel
theorem d_MD_determinant_16 : decode c_MD_determinant 16 = .ok (.dup2, 1) := by decide +kernel
theorem d_MD_determinant_17 : decode c_MD_determinant 17 = .ok (.laload, 1) := by decide +kernel
theorem d_MD_determinant_18 : decode c_MD_determinant 18 = .ok (.ldc2_w 140, 3) := by decide +kernel
theorem d_MD_determinant_21 : decode c_MD_determinant 21 = .ok (.lrem, 1) := by decide +kernel
theorem d_MD_determinant_22 : decode c_MD_determinant 22 = .ok (.lastore, 1) := by decide +kernel
theorem d_MD_determinant_23 : decode c_MD_determinant 23 = .ok (.iinc 3 1, 3) := by decide +kernel
theorem d_MD_determinant_26 : decode c_MD_determinant 26 = .ok (.goto (-22), 3) := by decide +kernel
theorem d_MD_determinant_29 : decode c_MD_determinant 29 = .ok (.iconst 0, 1) := by decide +kernel
theorem d_MD_determinant_30 : decode c_MD_determinant 30 = .ok (.istore_n 3, 1) := by decide +kernel
theorem d_MD_determinant_31 : decode c_MD_determinant 31 = .ok (.iload_n 3, 1) := by decide +kernel
theorem d_MD_determinant_32 : decode c_MD_determinant 32 = .ok (.bipush 25, 2) := by decide +kernel
theorem d_MD_determinant_34 : decode c_MD_determinant 34 = .ok (.if_icmp .ge 288, 3) := by decide +kernel
theorem d_MD_determinant_37 : decode c_MD_determinant 37 = .ok (.iload_n 3, 1) := by decide +kernel
theorem d_MD_determinant_38 : decode c_MD_determinant 38 = .ok (.istore 4, 2) := by decide +kernel
theorem d_MD_determinant_40 : decode c_MD_determinant 40 = .ok (.iload 4, 2) := by decide +kernel
theorem d_MD_determinant_42 : decode c_MD_determinant 42 = .ok (.bipush 25, 2) := by decide +kernel
theorem d_MD_determinant_44 : decode c_MD_determinant 44 = .ok (.if_icmp .ge 26, 3) := by decide +kernel
theorem d_MD_determinant_47 : decode c_MD_determinant 47 = .ok (.aload_n 0, 1) := by decide +kernel
theorem d_MD_determinant_48 : decode c_MD_determinant 48 = .ok (.getfield 59, 3) := by decide +kernel
theorem d_MD_determinant_51 : decode c_MD_determinant 51 = .ok (.bipush 25, 2) := by decide +kernel
theorem d_MD_determinant_53 : decode c_MD_determinant 53 = .ok (.iload 4, 2) := by decide +kernel
theorem d_MD_determinant_55 : decode c_MD_determinant 55 = .ok (.imul, 1) := by decide +kernel
theorem d_MD_determinant_56 : decode c_MD_determinant 56 = .ok (.iload_n 3, 1) := by decide +kernel
theorem d_MD_determinant_57 : decode c_MD_determinant 57 = .ok (.iadd, 1) := by decide +kernel
theorem d_MD_determinant_58 : decode c_MD_determinant 58 = .ok (.laload, 1) := by decide +kernel
theorem d_MD_determinant_59 : decode c_MD_determinant 59 = .ok (.lconst 0, 1) := by decide +kernel
theorem d_MD_determinant_60 : decode c_MD_determinant 60 = .ok (.lcmp, 1) := by decide +kernel
theorem d_MD_determinant_61 : decode c_MD_determinant 61 = .ok (.ifCond .ne 9, 3) := by decide +kernel
theorem d_MD_determinant_64 : decode c_MD_determinant 64 = .ok (.iinc 4 1, 3) := by decide +kernel
theorem d_MD_determinant_67 : decode c_MD_determinant 67 = .ok (.goto (-27), 3) := by decide +kernel
theorem d_MD_determinant_70 : decode c_MD_determinant 70 = .ok (.iload 4, 2) := by decide +kernel
theorem d_MD_determinant_72 : decode c_MD_determinant 72 = .ok (.bipush 25, 2) := by decide +kernel
theorem d_MD_determinant_74 : decode c_MD_determinant 74 = .ok (.if_icmp .ne 5, 3) := by decide +kernel
theorem d_MD_determinant_77 : decode c_MD_determinant 77 = .ok (.lconst 0, 1) := by decide +kernel
theorem d_MD_determinant_78 : decode c_MD_determinant 78 = .ok (.lreturn, 1) := by decide +kernel
theorem d_MD_determinant_79 : decode c_MD_determinant 79 = .ok (.iconst 0, 1) := by decide +kernel
theorem d_MD_determinant_80 : decode c_MD_determinant 80 = .ok (.istore 5, 2) := by decide +kernel
theorem d_MD_determinant_82 : decode c_MD_determinant 82 = .ok (.iload 5, 2) := by decide +kernel
theorem d_MD_determinant_84 : decode c_MD_determinant 84 = .ok (.bipush 25, 2) := by decide +kernel
theorem d_MD_determinant_86 : decode c_MD_determinant 86 = .ok (.if_icmp .ge 69, 3) := by decide +kernel
theorem d_MD_determinant_89 : decode c_MD_determinant 89 = .ok (.iload 4, 2) := by decide +kernel
theorem d_MD_determinant_91 : decode c_MD_determinant 91 = .ok (.iload_n 3, 1) := by decide +kernel
theorem d_MD_determinant_92 : decode c_MD_determinant 92 = .ok (.if_icmp .eq 63, 3) := by decide +kernel
theorem d_MD_determinant_95 : decode c_MD_determinant 95 = .ok (.aload_n 0, 1) := by decide +kernel
theorem d_MD_determinant_96 : decode c_MD_determinant 96 = .ok (.getfield 59, 3) := by decide +kernel
theorem d_MD_determinant_99 : decode c_MD_determinant 99 = .ok (.bipush 25, 2) := by decide +kernel
theorem d_MD_determinant_101 : decode c_MD_determinant 101 = .ok (.iload 4, 2) := by decide +kernel
theorem d_MD_determinant_103 : decode c_MD_determinant 103 = .ok (.imul, 1) := by decide +kernel
theorem d_MD_determinant_104 : decode c_MD_determinant 104 = .ok (.iload 5, 2) := by decide +kernel
theorem d_MD_determinant_106 : decode c_MD_determinant 106 = .ok (.iadd, 1) := by decide +kernel
theorem d_MD_determinant_107 : decode c_MD_determinant 107 = .ok (.laload, 1) := by decide +kernel
theorem d_MD_determinant_108 : decode c_MD_determinant 108 = .ok (.lstore 6, 2) := by decide +kernel
theorem d_MD_determinant_110 : decode c_MD_determinant 110 = .ok (.aload_n 0, 1) := by decide +kernel
theorem d_MD_determinant_111 : decode c_MD_determinant 111 = .ok (.getfield 59, 3) := by decide +kernel
theorem d_MD_determinant_114 : decode c_MD_determinant 114 = .ok (.bipush 25, 2) := by decide +kernel
theorem d_MD_determinant_116 : decode c_MD_determinant 116 = .ok (.iload 4, 2) := by decide +kernel
theorem d_MD_determinant_118 : decode c_MD_determinant 118 = .ok (.imul, 1) := by decide +kernel
theorem d_MD_determinant_119 : decode c_MD_determinant 119 = .ok (.iload 5, 2) := by decide +kernel
theorem d_MD_determinant_121 : decode c_MD_determinant 121 = .ok (.iadd, 1) := by decide +kernel
theorem d_MD_determinant_122 : decode c_MD_determinant 122 = .ok (.aload_n 0, 1) := by decide +kernel
theorem d_MD_determinant_123 : decode c_MD_determinant 123 = .ok (.getfield 59, 3) := by decide +kernel
theorem d_MD_determinant_126 : decode c_MD_determinant 126 = .ok (.bipush 25, 2) := by decide +kernel
theorem d_MD_determinant_128 : decode c_MD_determinant 128 = .ok (.iload_n 3, 1) := by decide +kernel
theorem d_MD_determinant_129 : decode c_MD_determinant 129 = .ok (.imul, 1) := by decide +kernel
theorem d_MD_determinant_130 : decode c_MD_determinant 130 = .ok (.iload 5, 2) := by decide +kernel
theorem d_MD_determinant_132 : decode c_MD_determinant 132 = .ok (.iadd, 1) := by decide +kernel
theorem d_MD_determinant_133 : decode c_MD_determinant 133 = .ok (.laload, 1) := by decide +kernel
theorem d_MD_determinant_134 : decode c_MD_determinant 134 = .ok (.lastore, 1) := by decide +kernel
theorem d_MD_determinant_135 : decode c_MD_determinant 135 = .ok (.aload_n 0, 1) := by decide +kernel
theorem d_MD_determinant_136 : decode c_MD_determinant 136 = .ok (.getfield 59, 3) := by decide +kernel
theorem d_MD_determinant_139 : decode c_MD_determinant 139 = .ok (.bipush 25, 2) := by decide +kernel
theorem d_MD_determinant_141 : decode c_MD_determinant 141 = .ok (.iload_n 3, 1) := by decide +kernel
theorem d_MD_determinant_142 : decode c_MD_determinant 142 = .ok (.imul, 1) := by decide +kernel
theorem d_MD_determinant_143 : decode c_MD_determinant 143 = .ok (.iload 5, 2) := by decide +kernel
theorem d_MD_determinant_145 : decode c_MD_determinant 145 = .ok (.iadd, 1) := by decide +kernel
theorem d_MD_determinant_146 : decode c_MD_determinant 146 = .ok (.lload 6, 2) := by decide +kernel
theorem d_MD_determinant_148 : decode c_MD_determinant 148 = .ok (.lastore, 1) := by decide +kernel
theorem d_MD_determinant_149 : decode c_MD_determinant 149 = .ok (.iinc 5 1, 3) := by decide +kernel
theorem d_MD_determinant_152 : decode c_MD_determinant 152 = .ok (.goto (-70), 3) := by decide +kernel
theorem d_MD_determinant_155 : decode c_MD_determinant 155 = .ok (.iload 4, 2) := by decide +kernel
theorem d_MD_determinant_157 : decode c_MD_determinant 157 = .ok (.iload_n 3, 1) := by decide +kernel
theorem d_MD_determinant_158 : decode c_MD_determinant 158 = .ok (.if_icmp .eq 9, 3) := by decide +kernel
theorem d_MD_determinant_161 : decode c_MD_determinant 161 = .ok (.ldc2_w 140, 3) := by decide +kernel
theorem d_MD_determinant_164 : decode c_MD_determinant 164 = .ok (.lload_n 1, 1) := by decide +kernel
theorem d_MD_determinant_165 : decode c_MD_determinant 165 = .ok (.lsub, 1) := by decide +kernel
theorem d_MD_determinant_166 : decode c_MD_determinant 166 = .ok (.lstore_n 1, 1) := by decide +kernel
theorem d_MD_determinant_167 : decode c_MD_determinant 167 = .ok (.lload_n 1, 1) := by decide +kernel
theorem d_MD_determinant_168 : decode c_MD_determinant 168 = .ok (.aload_n 0, 1) := by decide +kernel
theorem d_MD_determinant_169 : decode c_MD_determinant 169 = .ok (.getfield 59, 3) := by decide +kernel
theorem d_MD_determinant_172 : decode c_MD_determinant 172 = .ok (.bipush 25, 2) := by decide +kernel
theorem d_MD_determinant_174 : decode c_MD_determinant 174 = .ok (.iload_n 3, 1) := by decide +kernel
theorem d_MD_determinant_175 : decode c_MD_determinant 175 = .ok (.imul, 1) := by decide +kernel
theorem d_MD_determinant_176 : decode c_MD_determinant 176 = .ok (.iload_n 3, 1) := by decide +kernel
theorem d_MD_determinant_177 : decode c_MD_determinant 177 = .ok (.iadd, 1) := by decide +kernel
theorem d_MD_determinant_178 : decode c_MD_determinant 178 = .ok (.laload, 1) := by decide +kernel
theorem d_MD_determinant_179 : decode c_MD_determinant 179 = .ok (.lmul, 1) := by decide +kernel
theorem d_MD_determinant_180 : decode c_MD_determinant 180 = .ok (.ldc2_w 140, 3) := by decide +kernel
theorem d_MD_determinant_183 : decode c_MD_determinant 183 = .ok (.lrem, 1) := by decide +kernel
theorem d_MD_determinant_184 : decode c_MD_determinant 184 = .ok (.lstore_n 1, 1) := by decide +kernel
theorem d_MD_determinant_185 : decode c_MD_determinant 185 = .ok (.aload_n 0, 1) := by decide +kernel
theorem d_MD_determinant_186 : decode c_MD_determinant 186 = .ok (.getfield 59, 3) := by decide +kernel
theorem d_MD_determinant_189 : decode c_MD_determinant 189 = .ok (.bipush 25, 2) := by decide +kernel
theorem d_MD_determinant_191 : decode c_MD_determinant 191 = .ok (.iload_n 3, 1) := by decide +kernel
theorem d_MD_determinant_192 : decode c_MD_determinant 192 = .ok (.imul, 1) := by decide +kernel
theorem d_MD_determinant_193 : decode c_MD_determinant 193 = .ok (.iload_n 3, 1) := by decide +kernel
theorem d_MD_determinant_194 : decode c_MD_determinant 194 = .ok (.iadd, 1) := by decide +kernel
theorem d_MD_determinant_195 : decode c_MD_determinant 195 = .ok (.laload, 1) := by decide +kernel
theorem d_MD_determinant_196 : decode c_MD_determinant 196 = .ok (.ldc2_w 151, 3) := by decide +kernel
theorem d_MD_determinant_199 : decode c_MD_determinant 199 = .ok (.invokestatic 153, 3) := by decide +kernel
theorem d_MD_determinant_202 : decode c_MD_determinant 202 = .ok (.lstore 5, 2) := by decide +kernel
theorem d_MD_determinant_204 : decode c_MD_determinant 204 = .ok (.iload_n 3, 1) := by decide +kernel
theorem d_MD_determinant_205 : decode c_MD_determinant 205 = .ok (.iconst 1, 1) := by decide +kernel
theorem d_MD_determinant_206 : decode c_MD_determinant 206 = .ok (.iadd, 1) := by decide +kernel
theorem d_MD_determinant_207 : decode c_MD_determinant 207 = .ok (.istore 7, 2) := by decide +kernel
theorem d_MD_determinant_209 : decode c_MD_determinant 209 = .ok (.iload 7, 2) := by decide +kernel
theorem d_MD_determinant_211 : decode c_MD_determinant 211 = .ok (.bipush 25, 2) := by decide +kernel
theorem d_MD_determinant_213 : decode c_MD_determinant 213 = .ok (.if_icmp .ge 103, 3) := by decide +kernel
theorem d_MD_determinant_216 : decode c_MD_determinant 216 = .ok (.aload_n 0, 1) := by decide +kernel
theorem d_MD_determinant_217 : decode c_MD_determinant 217 = .ok (.getfield 59, 3) := by decide +kernel
theorem d_MD_determinant_220 : decode c_MD_determinant 220 = .ok (.bipush 25, 2) := by decide +kernel
theorem d_MD_determinant_222 : decode c_MD_determinant 222 = .ok (.iload 7, 2) := by decide +kernel
theorem d_MD_determinant_224 : decode c_MD_determinant 224 = .ok (.imul, 1) := by decide +kernel
theorem d_MD_determinant_225 : decode c_MD_determinant 225 = .ok (.iload_n 3, 1) := by decide +kernel
theorem d_MD_determinant_226 : decode c_MD_determinant 226 = .ok (.iadd, 1) := by decide +kernel
theorem d_MD_determinant_227 : decode c_MD_determinant 227 = .ok (.laload, 1) := by decide +kernel
theorem d_MD_determinant_228 : decode c_MD_determinant 228 = .ok (.lload 5, 2) := by decide +kernel
theorem d_MD_determinant_230 : decode c_MD_determinant 230 = .ok (.lmul, 1) := by decide +kernel
theorem d_MD_determinant_231 : decode c_MD_determinant 231 = .ok (.ldc2_w 140, 3) := by decide +kernel
theorem d_MD_determinant_234 : decode c_MD_determinant 234 = .ok (.lrem, 1) := by decide +kernel
theorem d_MD_determinant_235 : decode c_MD_determinant 235 = .ok (.lstore 8, 2) := by decide +kernel
theorem d_MD_determinant_237 : decode c_MD_determinant 237 = .ok (.iload_n 3, 1) := by decide +kernel
theorem d_MD_determinant_238 : decode c_MD_determinant 238 = .ok (.istore 10, 2) := by decide +kernel
theorem d_MD_determinant_240 : decode c_MD_determinant 240 = .ok (.iload 10, 2) := by decide +kernel
theorem d_MD_determinant_242 : decode c_MD_determinant 242 = .ok (.bipush 25, 2) := by decide +kernel
theorem d_MD_determinant_244 : decode c_MD_determinant 244 = .ok (.if_icmp .ge 66, 3) := by decide +kernel
theorem d_MD_determinant_247 : decode c_MD_determinant 247 = .ok (.lload 8, 2) := by decide +kernel
theorem d_MD_determinant_249 : decode c_MD_determinant 249 = .ok (.lconst 0, 1) := by decide +kernel
theorem d_MD_determinant_250 : decode c_MD_determinant 250 = .ok (.lcmp, 1) := by decide +kernel
theorem d_MD_determinant_251 : decode c_MD_determinant 251 = .ok (.ifCond .eq 59, 3) := by decide +kernel
theorem d_MD_determinant_254 : decode c_MD_determinant 254 = .ok (.aload_n 0, 1) := by decide +kernel
theorem d_MD_determinant_255 : decode c_MD_determinant 255 = .ok (.getfield 59, 3) := by decide +kernel
theorem d_MD_determinant_258 : decode c_MD_determinant 258 = .ok (.bipush 25, 2) := by decide +kernel
theorem d_MD_determinant_260 : decode c_MD_determinant 260 = .ok (.iload 7, 2) := by decide +kernel
theorem d_MD_determinant_262 : decode c_MD_determinant 262 = .ok (.imul, 1) := by decide +kernel
theorem d_MD_determinant_263 : decode c_MD_determinant 263 = .ok (.iload 10, 2) := by decide +kernel
theorem d_MD_determinant_265 : decode c_MD_determinant 265 = .ok (.iadd, 1) := by decide +kernel
theorem d_MD_determinant_266 : decode c_MD_determinant 266 = .ok (.aload_n 0, 1) := by decide +kernel
theorem d_MD_determinant_267 : decode c_MD_determinant 267 = .ok (.getfield 59, 3) := by decide +kernel
theorem d_MD_determinant_270 : decode c_MD_determinant 270 = .ok (.bipush 25, 2) := by decide +kernel
theorem d_MD_determinant_272 : decode c_MD_determinant 272 = .ok (.iload 7, 2) := by decide +kernel
theorem d_MD_determinant_274 : decode c_MD_determinant 274 = .ok (.imul, 1) := by decide +kernel
theorem d_MD_determinant_275 : decode c_MD_determinant 275 = .ok (.iload 10, 2) := by decide +kernel
theorem d_MD_determinant_277 : decode c_MD_determinant 277 = .ok (.iadd, 1) := by decide +kernel
theorem d_MD_determinant_278 : decode c_MD_determinant 278 = .ok (.laload, 1) := by decide +kernel
theorem d_MD_determinant_279 : decode c_MD_determinant 279 = .ok (.ldc2_w 140, 3) := by decide +kernel
theorem d_MD_determinant_282 : decode c_MD_determinant 282 = .ok (.lload 8, 2) := by decide +kernel
theorem d_MD_determinant_284 : decode c_MD_determinant 284 = .ok (.lsub, 1) := by decide +kernel
theorem d_MD_determinant_285 : decode c_MD_determinant 285 = .ok (.aload_n 0, 1) := by decide +kernel
theorem d_MD_determinant_286 : decode c_MD_determinant 286 = .ok (.getfield 59, 3) := by decide +kernel
theorem d_MD_determinant_289 : decode c_MD_determinant 289 = .ok (.bipush 25, 2) := by decide +kernel
theorem d_MD_determinant_291 : decode c_MD_determinant 291 = .ok (.iload_n 3, 1) := by decide +kernel
theorem d_MD_determinant_292 : decode c_MD_determinant 292 = .ok (.imul, 1) := by decide +kernel
theorem d_MD_determinant_293 : decode c_MD_determinant 293 = .ok (.iload 10, 2) := by decide +kernel
theorem d_MD_determinant_295 : decode c_MD_determinant 295 = .ok (.iadd, 1) := by decide +kernel
theorem d_MD_determinant_296 : decode c_MD_determinant 296 = .ok (.laload, 1) := by decide +kernel
theorem d_MD_determinant_297 : decode c_MD_determinant 297 = .ok (.lmul, 1) := by decide +kernel
theorem d_MD_determinant_298 : decode c_MD_determinant 298 = .ok (.ladd, 1) := by decide +kernel
theorem d_MD_determinant_299 : decode c_MD_determinant 299 = .ok (.ldc2_w 140, 3) := by decide +kernel
theorem d_MD_determinant_302 : decode c_MD_determinant 302 = .ok (.lrem, 1) := by decide +kernel
theorem d_MD_determinant_303 : decode c_MD_determinant 303 = .ok (.lastore, 1) := by decide +kernel
theorem d_MD_determinant_304 : decode c_MD_determinant 304 = .ok (.iinc 10 1, 3) := by decide +kernel
theorem d_MD_determinant_307 : decode c_MD_determinant 307 = .ok (.goto (-67), 3) := by decide +kernel
theorem d_MD_determinant_310 : decode c_MD_determinant 310 = .ok (.iinc 7 1, 3) := by decide +kernel
theorem d_MD_determinant_313 : decode c_MD_determinant 313 = .ok (.goto (-104), 3) := by decide +kernel
theorem d_MD_determinant_316 : decode c_MD_determinant 316 = .ok (.iinc 3 1, 3) := by decide +kernel
theorem d_MD_determinant_319 : decode c_MD_determinant 319 = .ok (.goto (-288), 3) := by decide +kernel
theorem d_MD_determinant_322 : decode c_MD_determinant 322 = .ok (.lload_n 1, 1) := by decide +kernel
theorem d_MD_determinant_323 : decode c_MD_determinant 323 = .ok (.ldc2_w 140, 3) := by decide +kernel
theorem d_MD_determinant_326 : decode c_MD_determinant 326 = .ok (.lrem, 1) := by decide +kernel
theorem d_MD_determinant_327 : decode c_MD_determinant 327 = .ok (.lreturn, 1) := by decide +kernel
theorem d_MD_drawTree_0 : decode c_MD_drawTree 0 = .ok (.lload_n 1, 1) := by decide +kernel
theorem d_MD_drawTree_1 : decode c_MD_drawTree 1 = .ok (.lstore_n 3, 1) := by decide +kernel
theorem d_MD_drawTree_2 : decode c_MD_drawTree 2 = .ok (.aload_n 0, 1) := by decide +kernel
theorem d_MD_drawTree_3 : decode c_MD_drawTree 3 = .ok (.lconst 0, 1) := by decide +kernel
theorem d_MD_drawTree_4 : decode c_MD_drawTree 4 = .ok (.putfield 157, 3) := by decide +kernel
theorem d_MD_drawTree_7 : decode c_MD_drawTree 7 = .ok (.lconst 0, 1) := by decide +kernel
theorem d_MD_drawTree_8 : decode c_MD_drawTree 8 = .ok (.lstore 5, 2) := by decide +kernel
theorem d_MD_drawTree_10 : decode c_MD_drawTree 10 = .ok (.iconst 0, 1) := by decide +kernel
theorem d_MD_drawTree_11 : decode c_MD_drawTree 11 = .ok (.istore 7, 2) := by decide +kernel
theorem d_MD_drawTree_13 : decode c_MD_drawTree 13 = .ok (.iload 7, 2) := by decide +kernel
theorem d_MD_drawTree_15 : decode c_MD_drawTree 15 = .ok (.aload_n 0, 1) := by decide +kernel
theorem d_MD_drawTree_16 : decode c_MD_drawTree 16 = .ok (.getfield 85, 3) := by decide +kernel
theorem d_MD_drawTree_19 : decode c_MD_drawTree 19 = .ok (.if_icmp .ge 105, 3) := by decide +kernel
theorem d_MD_drawTree_22 : decode c_MD_drawTree 22 = .ok (.aload_n 0, 1) := by decide +kernel
theorem d_MD_drawTree_23 : decode c_MD_drawTree 23 = .ok (.getfield 27, 3) := by decide +kernel
theorem d_MD_drawTree_26 : decode c_MD_drawTree 26 = .ok (.iload 7, 2) := by decide +kernel
theorem d_MD_drawTree_28 : decode c_MD_drawTree 28 = .ok (.iaload, 1) := by decide +kernel
theorem d_MD_drawTree_29 : decode c_MD_drawTree 29 = .ok (.iconst 1, 1) := by decide +kernel
theorem d_MD_drawTree_30 : decode c_MD_drawTree 30 = .ok (.if_icmp .ne 16, 3) := by decide +kernel
theorem d_MD_drawTree_33 : decode c_MD_drawTree 33 = .ok (.aload_n 0, 1) := by decide +kernel
theorem d_MD_drawTree_34 : decode c_MD_drawTree 34 = .ok (.aload_n 0, 1) := by decide +kernel
theorem d_MD_drawTree_35 : decode c_MD_drawTree 35 = .ok (.getfield 157, 3) := by decide +kernel
theorem d_MD_drawTree_38 : decode c_MD_drawTree 38 = .ok (.lconst 1, 1) := by decide +kernel
theorem d_MD_drawTree_39 : decode c_MD_drawTree 39 = .ok (.iload 7, 2) := by decide +kernel
theorem d_MD_drawTree_41 : decode c_MD_drawTree 41 = .ok (.lshl, 1) := by decide +kernel
theorem d_MD_drawTree_42 : decode c_MD_drawTree 42 = .ok (.lor, 1) := by decide +kernel
theorem d_MD_drawTree_43 : decode c_MD_drawTree 43 = .ok (.putfield 157, 3) := by decide +kernel
theorem d_MD_drawTree_46 : decode c_MD_drawTree 46 = .ok (.aload_n 0, 1) := by decide +kernel
theorem d_MD_drawTree_47 : decode c_MD_drawTree 47 = .ok (.getfield 27, 3) := by decide +kernel
theorem d_MD_drawTree_50 : decode c_MD_drawTree 50 = .ok (.iload 7, 2) := by decide +kernel
theorem d_MD_drawTree_52 : decode c_MD_drawTree 52 = .ok (.iaload, 1) := by decide +kernel
theorem d_MD_drawTree_53 : decode c_MD_drawTree 53 = .ok (.ifCond .eq 6, 3) := by decide +kernel
theorem d_MD_drawTree_56 : decode c_MD_drawTree 56 = .ok (.goto 62, 3) := by decide +kernel
theorem d_MD_drawTree_59 : decode c_MD_drawTree 59 = .ok (.lload 5, 2) := by decide +kernel
theorem d_MD_drawTree_61 : decode c_MD_drawTree 61 = .ok (.lconst 1, 1) := by decide +kernel
theorem d_MD_drawTree_62 : decode c_MD_drawTree 62 = .ok (.iload 7, 2) := by decide +kernel
theorem d_MD_drawTree_64 : decode c_MD_drawTree 64 = .ok (.lshl, 1) := by decide +kernel
theorem d_MD_drawTree_65 : decode c_MD_drawTree 65 = .ok (.lor, 1) := by decide +kernel
theorem d_MD_drawTree_66 : decode c_MD_drawTree 66 = .ok (.lstore 5, 2) := by decide +kernel
theorem d_MD_drawTree_68 : decode c_MD_drawTree 68 = .ok (.aload_n 0, 1) := by decide +kernel
theorem d_MD_drawTree_69 : decode c_MD_drawTree 69 = .ok (.getfield 27, 3) := by decide +kernel
theorem d_MD_drawTree_72 : decode c_MD_drawTree 72 = .ok (.iload 7, 2) := by decide +kernel
theorem d_MD_drawTree_74 : decode c_MD_drawTree 74 = .ok (.iconst 2, 1) := by decide +kernel
theorem d_MD_drawTree_75 : decode c_MD_drawTree 75 = .ok (.iastore, 1) := by decide +kernel
theorem d_MD_drawTree_76 : decode c_MD_drawTree 76 = .ok (.aload_n 0, 1) := by decide +kernel
theorem d_MD_drawTree_77 : decode c_MD_drawTree 77 = .ok (.invokevirtual 161, 3) := by decide +kernel
theorem d_MD_drawTree_80 : decode c_MD_drawTree 80 = .ok (.lstore 8, 2) := by decide +kernel
theorem d_MD_drawTree_82 : decode c_MD_drawTree 82 = .ok (.lload_n 3, 1) := by decide +kernel
theorem d_MD_drawTree_83 : decode c_MD_drawTree 83 = .ok (.lload 8, 2) := by decide +kernel
theorem d_MD_drawTree_85 : decode c_MD_drawTree 85 = .ok (.lcmp, 1) := by decide +kernel
theorem d_MD_drawTree_86 : decode c_MD_drawTree 86 = .ok (.ifCond .ge 6, 3) := by decide +kernel
theorem d_MD_drawTree_89 : decode c_MD_drawTree 89 = .ok (.goto 29, 3) := by decide +kernel
theorem d_MD_drawTree_92 : decode c_MD_drawTree 92 = .ok (.lload_n 3, 1) := by decide +kernel
theorem d_MD_drawTree_93 : decode c_MD_drawTree 93 = .ok (.lload 8, 2) := by decide +kernel
theorem d_MD_drawTree_95 : decode c_MD_drawTree 95 = .ok (.lsub, 1) := by decide +kernel
theorem d_MD_drawTree_96 : decode c_MD_drawTree 96 = .ok (.lstore_n 3, 1) := by decide +kernel
theorem d_MD_drawTree_97 : decode c_MD_drawTree 97 = .ok (.aload_n 0, 1) := by decide +kernel
theorem d_MD_drawTree_98 : decode c_MD_drawTree 98 = .ok (.getfield 27, 3) := by decide +kernel
theorem d_MD_drawTree_101 : decode c_MD_drawTree 101 = .ok (.iload 7, 2) := by decide +kernel
theorem d_MD_drawTree_103 : decode c_MD_drawTree 103 = .ok (.iconst 1, 1) := by decide +kernel
theorem d_MD_drawTree_104 : decode c_MD_drawTree 104 = .ok (.iastore, 1) := by decide +kernel
theorem d_MD_drawTree_105 : decode c_MD_drawTree 105 = .ok (.aload_n 0, 1) := by decide +kernel
theorem d_MD_drawTree_106 : decode c_MD_drawTree 106 = .ok (.aload_n 0, 1) := by decide +kernel
theorem d_MD_drawTree_107 : decode c_MD_drawTree 107 = .ok (.getfield 157, 3) := by decide +kernel
theorem d_MD_drawTree_110 : decode c_MD_drawTree 110 = .ok (.lconst 1, 1) := by decide +kernel
theorem d_MD_drawTree_111 : decode c_MD_drawTree 111 = .ok (.iload 7, 2) := by decide +kernel
theorem d_MD_drawTree_113 : decode c_MD_drawTree 113 = .ok (.lshl, 1) := by decide +kernel
theorem d_MD_drawTree_114 : decode c_MD_drawTree 114 = .ok (.lor, 1) := by decide +kernel
theorem d_MD_drawTree_115 : decode c_MD_drawTree 115 = .ok (.putfield 157, 3) := by decide +kernel
theorem d_MD_drawTree_118 : decode c_MD_drawTree 118 = .ok (.iinc 7 1, 3) := by decide +kernel
theorem d_MD_drawTree_121 : decode c_MD_drawTree 121 = .ok (.goto (-108), 3) := by decide +kernel
theorem d_MD_drawTree_124 : decode c_MD_drawTree 124 = .ok (.iconst 0, 1) := by decide +kernel
theorem d_MD_drawTree_125 : decode c_MD_drawTree 125 = .ok (.istore 7, 2) := by decide +kernel
theorem d_MD_drawTree_127 : decode c_MD_drawTree 127 = .ok (.iload 7, 2) := by decide +kernel
theorem d_MD_drawTree_129 : decode c_MD_drawTree 129 = .ok (.aload_n 0, 1) := by decide +kernel
theorem d_MD_drawTree_130 : decode c_MD_drawTree 130 = .ok (.getfield 85, 3) := by decide +kernel
theorem d_MD_drawTree_133 : decode c_MD_drawTree 133 = .ok (.if_icmp .ge 29, 3) := by decide +kernel
theorem d_MD_drawTree_136 : decode c_MD_drawTree 136 = .ok (.lload 5, 2) := by decide +kernel
theorem d_MD_drawTree_138 : decode c_MD_drawTree 138 = .ok (.iload 7, 2) := by decide +kernel
theorem d_MD_drawTree_140 : decode c_MD_drawTree 140 = .ok (.lshr, 1) := by decide +kernel
theorem d_MD_drawTree_141 : decode c_MD_drawTree 141 = .ok (.lconst 1, 1) := by decide +kernel
theorem d_MD_drawTree_142 : decode c_MD_drawTree 142 = .ok (.land, 1) := by decide +kernel
theorem d_MD_drawTree_143 : decode c_MD_drawTree 143 = .ok (.lconst 1, 1) := by decide +kernel
theorem d_MD_drawTree_144 : decode c_MD_drawTree 144 = .ok (.lcmp, 1) := by decide +kernel
theorem d_MD_drawTree_145 : decode c_MD_drawTree 145 = .ok (.ifCond .ne 11, 3) := by decide +kernel
theorem d_MD_drawTree_148 : decode c_MD_drawTree 148 = .ok (.aload_n 0, 1) := by decide +kernel
theorem d_MD_drawTree_149 : decode c_MD_drawTree 149 = .ok (.getfield 27, 3) := by decide +kernel
theorem d_MD_drawTree_152 : decode c_MD_drawTree 152 = .ok (.iload 7, 2) := by decide +kernel
theorem d_MD_drawTree_154 : decode c_MD_drawTree 154 = .ok (.iconst 0, 1) := by decide +kernel
theorem d_MD_drawTree_155 : decode c_MD_drawTree 155 = .ok (.iastore, 1) := by decide +kernel
theorem d_MD_drawTree_156 : decode c_MD_drawTree 156 = .ok (.iinc 7 1, 3) := by decide +kernel
theorem d_MD_drawTree_159 : decode c_MD_drawTree 159 = .ok (.goto (-32), 3) := by decide +kernel
theorem d_MD_drawTree_162 : decode c_MD_drawTree 162 = .ok (.return_, 1) := by decide +kernel
theorem d_MD_countAll_0 : decode c_MD_countAll 0 = .ok (.aload_n 0, 1) := by decide +kernel
theorem d_MD_countAll_1 : decode c_MD_countAll 1 = .ok (.getfield 66, 3) := by decide +kernel
theorem d_MD_countAll_4 : decode c_MD_countAll 4 = .ok (.iconst 3, 1) := by decide +kernel
theorem d_MD_countAll_5 : decode c_MD_countAll 5 = .ok (.if_icmp .ne 8, 3) := by decide +kernel
theorem d_MD_countAll_8 : decode c_MD_countAll 8 = .ok (.aload_n 0, 1) := by decide +kernel
theorem d_MD_countAll_9 : decode c_MD_countAll 9 = .ok (.invokevirtual 161, 3) := by decide +kernel
theorem d_MD_countAll_12 : decode c_MD_countAll 12 = .ok (.lreturn, 1) := by decide +kernel
theorem d_MD_countAll_13 : decode c_MD_countAll 13 = .ok (.aload_n 0, 1) := by decide +kernel
theorem d_MD_countAll_14 : decode c_MD_countAll 14 = .ok (.invokevirtual 164, 3) := by decide +kernel
theorem d_MD_countAll_17 : decode c_MD_countAll 17 = .ok (.lconst 0, 1) := by decide +kernel
theorem d_MD_countAll_18 : decode c_MD_countAll 18 = .ok (.lstore_n 1, 1) := by decide +kernel
theorem d_MD_countAll_19 : decode c_MD_countAll 19 = .ok (.iconst 0, 1) := by decide +kernel
theorem d_MD_countAll_20 : decode c_MD_countAll 20 = .ok (.istore_n 3, 1) := by decide +kernel
theorem d_MD_countAll_21 : decode c_MD_countAll 21 = .ok (.iload_n 3, 1) := by decide +kernel
theorem d_MD_countAll_22 : decode c_MD_countAll 22 = .ok (.aload_n 0, 1) := by decide +kernel
theorem d_MD_countAll_23 : decode c_MD_countAll 23 = .ok (.getfield 106, 3) := by decide +kernel
theorem d_MD_countAll_26 : decode c_MD_countAll 26 = .ok (.if_icmp .ge 30, 3) := by decide +kernel
theorem d_MD_countAll_29 : decode c_MD_countAll 29 = .ok (.lload_n 1, 1) := by decide +kernel
theorem d_MD_countAll_30 : decode c_MD_countAll 30 = .ok (.aload_n 0, 1) := by decide +kernel
theorem d_MD_countAll_31 : decode c_MD_countAll 31 = .ok (.aload_n 0, 1) := by decide +kernel
theorem d_MD_countAll_32 : decode c_MD_countAll 32 = .ok (.getfield 31, 3) := by decide +kernel
theorem d_MD_countAll_35 : decode c_MD_countAll 35 = .ok (.iload_n 3, 1) := by decide +kernel
theorem d_MD_countAll_36 : decode c_MD_countAll 36 = .ok (.laload, 1) := by decide +kernel
theorem d_MD_countAll_37 : decode c_MD_countAll 37 = .ok (.invokevirtual 167, 3) := by decide +kernel
theorem d_MD_countAll_40 : decode c_MD_countAll 40 = .ok (.ifCond .eq 7, 3) := by decide +kernel
theorem d_MD_countAll_43 : decode c_MD_countAll 43 = .ok (.lconst 1, 1) := by decide +kernel
theorem d_MD_countAll_44 : decode c_MD_countAll 44 = .ok (.goto 4, 3) := by decide +kernel
theorem d_MD_countAll_47 : decode c_MD_countAll 47 = .ok (.lconst 0, 1) := by decide +kernel
theorem d_MD_countAll_48 : decode c_MD_countAll 48 = .ok (.ladd, 1) := by decide +kernel
theorem d_MD_countAll_49 : decode c_MD_countAll 49 = .ok (.lstore_n 1, 1) := by decide +kernel
theorem d_MD_countAll_50 : decode c_MD_countAll 50 = .ok (.iinc 3 1, 3) := by decide +kernel
theorem d_MD_countAll_53 : decode c_MD_countAll 53 = .ok (.goto (-32), 3) := by decide +kernel
theorem d_MD_countAll_56 : decode c_MD_countAll 56 = .ok (.lload_n 1, 1) := by decide +kernel
theorem d_MD_countAll_57 : decode c_MD_countAll 57 = .ok (.lreturn, 1) := by decide +kernel
theorem d_MD_count_0 : decode c_MD_count 0 = .ok (.aload_n 0, 1) := by decide +kernel
theorem d_MD_count_1 : decode c_MD_count 1 = .ok (.iconst 0, 1) := by decide +kernel
theorem d_MD_count_2 : decode c_MD_count 2 = .ok (.putfield 78, 3) := by decide +kernel
theorem d_MD_count_5 : decode c_MD_count 5 = .ok (.aload_n 0, 1) := by decide +kernel
theorem d_MD_count_6 : decode c_MD_count 6 = .ok (.invokevirtual 171, 3) := by decide +kernel
theorem d_MD_count_9 : decode c_MD_count 9 = .ok (.lreturn, 1) := by decide +kernel
theorem d_MD_digit_0 : decode c_MD_digit 0 = .ok (.aload_n 0, 1) := by decide +kernel
theorem d_MD_digit_1 : decode c_MD_digit 1 = .ok (.iconst 0, 1) := by decide +kernel
theorem d_MD_digit_2 : decode c_MD_digit 2 = .ok (.putfield 78, 3) := by decide +kernel
theorem d_MD_digit_5 : decode c_MD_digit 5 = .ok (.aload_n 0, 1) := by decide +kernel
theorem d_MD_digit_6 : decode c_MD_digit 6 = .ok (.invokevirtual 171, 3) := by decide +kernel
theorem d_MD_digit_9 : decode c_MD_digit 9 = .ok (.lstore_n 2, 1) := by decide +kernel
theorem d_MD_digit_10 : decode c_MD_digit 10 = .ok (.iload_n 1, 1) := by decide +kernel
theorem d_MD_digit_11 : decode c_MD_digit 11 = .ok (.ifCond .ge 5, 3) := by decide +kernel
theorem d_MD_digit_14 : decode c_MD_digit 14 = .ok (.iconst (-1), 1) := by decide +kernel
theorem d_MD_digit_15 : decode c_MD_digit 15 = .ok (.ireturn, 1) := by decide +kernel
theorem d_MD_digit_16 : decode c_MD_digit 16 = .ok (.iconst 0, 1) := by decide +kernel
theorem d_MD_digit_17 : decode c_MD_digit 17 = .ok (.istore 4, 2) := by decide +kernel
theorem d_MD_digit_19 : decode c_MD_digit 19 = .ok (.iload 4, 2) := by decide +kernel
theorem d_MD_digit_21 : decode c_MD_digit 21 = .ok (.iload_n 1, 1) := by decide +kernel
theorem d_MD_digit_22 : decode c_MD_digit 22 = .ok (.if_icmp .ge 23, 3) := by decide +kernel
theorem d_MD_digit_25 : decode c_MD_digit 25 = .ok (.lload_n 2, 1) := by decide +kernel
theorem d_MD_digit_26 : decode c_MD_digit 26 = .ok (.ldc2_w 174, 3) := by decide +kernel
theorem d_MD_digit_29 : decode c_MD_digit 29 = .ok (.ldiv, 1) := by decide +kernel
theorem d_MD_digit_30 : decode c_MD_digit 30 = .ok (.lstore_n 2, 1) := by decide +kernel
theorem d_MD_digit_31 : decode c_MD_digit 31 = .ok (.lload_n 2, 1) := by decide +kernel
theorem d_MD_digit_32 : decode c_MD_digit 32 = .ok (.lconst 0, 1) := by decide +kernel
theorem d_MD_digit_33 : decode c_MD_digit 33 = .ok (.lcmp, 1) := by decide +kernel
theorem d_MD_digit_34 : decode c_MD_digit 34 = .ok (.ifCond .ne 5, 3) := by decide +kernel
theorem d_MD_digit_37 : decode c_MD_digit 37 = .ok (.iconst (-1), 1) := by decide +kernel
theorem d_MD_digit_38 : decode c_MD_digit 38 = .ok (.ireturn, 1) := by decide +kernel
theorem d_MD_digit_39 : decode c_MD_digit 39 = .ok (.iinc 4 1, 3) := by decide +kernel
theorem d_MD_digit_42 : decode c_MD_digit 42 = .ok (.goto (-23), 3) := by decide +kernel
theorem d_MD_digit_45 : decode c_MD_digit 45 = .ok (.lload_n 2, 1) := by decide +kernel
theorem d_MD_digit_46 : decode c_MD_digit 46 = .ok (.ldc2_w 174, 3) := by decide +kernel
theorem d_MD_digit_49 : decode c_MD_digit 49 = .ok (.lrem, 1) := by decide +kernel
theorem d_MD_digit_50 : decode c_MD_digit 50 = .ok (.l2i, 1) := by decide +kernel
theorem d_MD_digit_51 : decode c_MD_digit 51 = .ok (.ireturn, 1) := by decide +kernel
theorem d_MD_draw_0 : decode c_MD_draw 0 = .ok (.aload_n 0, 1) := by decide +kernel
theorem d_MD_draw_1 : decode c_MD_draw 1 = .ok (.iconst 0, 1) := by decide +kernel
theorem d_MD_draw_2 : decode c_MD_draw 2 = .ok (.putfield 78, 3) := by decide +kernel
theorem d_MD_draw_5 : decode c_MD_draw 5 = .ok (.aload_n 0, 1) := by decide +kernel
theorem d_MD_draw_6 : decode c_MD_draw 6 = .ok (.iconst 0, 1) := by decide +kernel
theorem d_MD_draw_7 : decode c_MD_draw 7 = .ok (.putfield 96, 3) := by decide +kernel
theorem d_MD_draw_10 : decode c_MD_draw 10 = .ok (.aload_n 0, 1) := by decide +kernel
theorem d_MD_draw_11 : decode c_MD_draw 11 = .ok (.invokevirtual 171, 3) := by decide +kernel
theorem d_MD_draw_14 : decode c_MD_draw 14 = .ok (.lstore_n 3, 1) := by decide +kernel
theorem d_MD_draw_15 : decode c_MD_draw 15 = .ok (.lload_n 3, 1) := by decide +kernel
theorem d_MD_draw_16 : decode c_MD_draw 16 = .ok (.lconst 0, 1) := by decide +kernel
theorem d_MD_draw_17 : decode c_MD_draw 17 = .ok (.lcmp, 1) := by decide +kernel
theorem d_MD_draw_18 : decode c_MD_draw 18 = .ok (.ifCond .ne 5, 3) := by decide +kernel
theorem d_MD_draw_21 : decode c_MD_draw 21 = .ok (.iconst 0, 1) := by decide +kernel
theorem d_MD_draw_22 : decode c_MD_draw 22 = .ok (.ireturn, 1) := by decide +kernel
theorem d_MD_draw_23 : decode c_MD_draw 23 = .ok (.aload_n 0, 1) := by decide +kernel
theorem d_MD_draw_24 : decode c_MD_draw 24 = .ok (.ldc2_w 176, 3) := by decide +kernel
theorem d_MD_draw_27 : decode c_MD_draw 27 = .ok (.lload_n 1, 1) := by decide +kernel
theorem d_MD_draw_28 : decode c_MD_draw 28 = .ok (.lmul, 1) := by decide +kernel
theorem d_MD_draw_29 : decode c_MD_draw 29 = .ok (.ldc2_w 178, 3) := by decide +kernel
theorem d_MD_draw_32 : decode c_MD_draw 32 = .ok (.ladd, 1) := by decide +kernel
theorem d_MD_draw_33 : decode c_MD_draw 33 = .ok (.iconst 1, 1) := by decide +kernel
theorem d_MD_draw_34 : decode c_MD_draw 34 = .ok (.lushr, 1) := by decide +kernel
theorem d_MD_draw_35 : decode c_MD_draw 35 = .ok (.lload_n 3, 1) := by decide +kernel
theorem d_MD_draw_36 : decode c_MD_draw 36 = .ok (.lrem, 1) := by decide +kernel
theorem d_MD_draw_37 : decode c_MD_draw 37 = .ok (.putfield 180, 3) := by decide +kernel
theorem d_MD_draw_40 : decode c_MD_draw 40 = .ok (.aload_n 0, 1) := by decide +kernel
theorem d_MD_draw_41 : decode c_MD_draw 41 = .ok (.iconst 1, 1) := by decide +kernel
theorem d_MD_draw_42 : decode c_MD_draw 42 = .ok (.putfield 96, 3) := by decide +kernel
theorem d_MD_draw_45 : decode c_MD_draw 45 = .ok (.aload_n 0, 1) := by decide +kernel
theorem d_MD_draw_46 : decode c_MD_draw 46 = .ok (.getfield 66, 3) := by decide +kernel
theorem d_MD_draw_49 : decode c_MD_draw 49 = .ok (.iconst 3, 1) := by decide +kernel
theorem d_MD_draw_50 : decode c_MD_draw 50 = .ok (.if_icmp .ne 13, 3) := by decide +kernel
theorem d_MD_draw_53 : decode c_MD_draw 53 = .ok (.aload_n 0, 1) := by decide +kernel
theorem d_MD_draw_54 : decode c_MD_draw 54 = .ok (.aload_n 0, 1) := by decide +kernel
theorem d_MD_draw_55 : decode c_MD_draw 55 = .ok (.getfield 180, 3) := by decide +kernel
theorem d_MD_draw_58 : decode c_MD_draw 58 = .ok (.invokevirtual 183, 3) := by decide +kernel
theorem d_MD_draw_61 : decode c_MD_draw 61 = .ok (.iconst 1, 1) := by decide +kernel
theorem d_MD_draw_62 : decode c_MD_draw 62 = .ok (.ireturn, 1) := by decide +kernel
theorem d_MD_draw_63 : decode c_MD_draw 63 = .ok (.aload_n 0, 1) := by decide +kernel
theorem d_MD_draw_64 : decode c_MD_draw 64 = .ok (.getfield 180, 3) := by decide +kernel
theorem d_MD_draw_67 : decode c_MD_draw 67 = .ok (.lstore 5, 2) := by decide +kernel
theorem d_MD_draw_69 : decode c_MD_draw 69 = .ok (.iconst 0, 1) := by decide +kernel
theorem d_MD_draw_70 : decode c_MD_draw 70 = .ok (.istore 7, 2) := by decide +kernel
theorem d_MD_draw_72 : decode c_MD_draw 72 = .ok (.lload 5, 2) := by decide +kernel
theorem d_MD_draw_74 : decode c_MD_draw 74 = .ok (.lconst 0, 1) := by decide +kernel
theorem d_MD_draw_75 : decode c_MD_draw 75 = .ok (.lcmp, 1) := by decide +kernel
theorem d_MD_draw_76 : decode c_MD_draw 76 = .ok (.ifCond .gt 17, 3) := by decide +kernel
theorem d_MD_draw_79 : decode c_MD_draw 79 = .ok (.aload_n 0, 1) := by decide +kernel
theorem d_MD_draw_80 : decode c_MD_draw 80 = .ok (.aload_n 0, 1) := by decide +kernel
theorem d_MD_draw_81 : decode c_MD_draw 81 = .ok (.getfield 31, 3) := by decide +kernel
theorem d_MD_draw_84 : decode c_MD_draw 84 = .ok (.iload 7, 2) := by decide +kernel
theorem d_MD_draw_86 : decode c_MD_draw 86 = .ok (.laload, 1) := by decide +kernel
theorem d_MD_draw_87 : decode c_MD_draw 87 = .ok (.invokevirtual 167, 3) := by decide +kernel
theorem d_MD_draw_90 : decode c_MD_draw 90 = .ok (.ifCond .ne 33, 3) := by decide +kernel
theorem d_MD_draw_93 : decode c_MD_draw 93 = .ok (.lload 5, 2) := by decide +kernel
theorem d_MD_draw_95 : decode c_MD_draw 95 = .ok (.aload_n 0, 1) := by decide +kernel
theorem d_MD_draw_96 : decode c_MD_draw 96 = .ok (.aload_n 0, 1) := by decide +kernel
theorem d_MD_draw_97 : decode c_MD_draw 97 = .ok (.getfield 31, 3) := by decide +kernel
theorem d_MD_draw_100 : decode c_MD_draw 100 = .ok (.iload 7, 2) := by decide +kernel
theorem d_MD_draw_102 : decode c_MD_draw 102 = .ok (.laload, 1) := by decide +kernel
theorem d_MD_draw_103 : decode c_MD_draw 103 = .ok (.invokevirtual 167, 3) := by decide +kernel
theorem d_MD_draw_106 : decode c_MD_draw 106 = .ok (.ifCond .eq 7, 3) := by decide +kernel
theorem d_MD_draw_109 : decode c_MD_draw 109 = .ok (.lconst 1, 1) := by decide +kernel
theorem d_MD_draw_110 : decode c_MD_draw 110 = .ok (.goto 4, 3) := by decide +kernel
theorem d_MD_draw_113 : decode c_MD_draw 113 = .ok (.lconst 0, 1) := by decide +kernel
theorem d_MD_draw_114 : decode c_MD_draw 114 = .ok (.lsub, 1) := by decide +kernel
theorem d_MD_draw_115 : decode c_MD_draw 115 = .ok (.lstore 5, 2) := by decide +kernel
theorem d_MD_draw_117 : decode c_MD_draw 117 = .ok (.iinc 7 1, 3) := by decide +kernel
theorem d_MD_draw_120 : decode c_MD_draw 120 = .ok (.goto (-48), 3) := by decide +kernel
theorem d_MD_draw_123 : decode c_MD_draw 123 = .ok (.aload_n 0, 1) := by decide +kernel
theorem d_MD_draw_124 : decode c_MD_draw 124 = .ok (.aload_n 0, 1) := by decide +kernel
theorem d_MD_draw_125 : decode c_MD_draw 125 = .ok (.getfield 31, 3) := by decide +kernel
theorem d_MD_draw_128 : decode c_MD_draw 128 = .ok (.iload 7, 2) := by decide +kernel
theorem d_MD_draw_130 : decode c_MD_draw 130 = .ok (.laload, 1) := by decide +kernel
theorem d_MD_draw_131 : decode c_MD_draw 131 = .ok (.putfield 157, 3) := by decide +kernel
theorem d_MD_draw_134 : decode c_MD_draw 134 = .ok (.iconst 1, 1) := by decide +kernel
theorem d_MD_draw_135 : decode c_MD_draw 135 = .ok (.ireturn, 1) := by decide +kernel
theorem d_MD_drawn_0 : decode c_MD_drawn 0 = .ok (.aload_n 0, 1) := by decide +kernel
theorem d_MD_drawn_1 : decode c_MD_drawn 1 = .ok (.iconst 0, 1) := by decide +kernel
theorem d_MD_drawn_2 : decode c_MD_drawn 2 = .ok (.putfield 78, 3) := by decide +kernel
theorem d_MD_drawn_5 : decode c_MD_drawn 5 = .ok (.aload_n 0, 1) := by decide +kernel
theorem d_MD_drawn_6 : decode c_MD_drawn 6 = .ok (.getfield 96, 3) := by decide +kernel
theorem d_MD_drawn_9 : decode c_MD_drawn 9 = .ok (.ifCond .eq 28, 3) := by decide +kernel
theorem d_MD_drawn_12 : decode c_MD_drawn 12 = .ok (.aload_n 0, 1) := by decide +kernel
theorem d_MD_drawn_13 : decode c_MD_drawn 13 = .ok (.iload_n 1, 1) := by decide +kernel
theorem d_MD_drawn_14 : decode c_MD_drawn 14 = .ok (.invokevirtual 103, 3) := by decide +kernel
theorem d_MD_drawn_17 : decode c_MD_drawn 17 = .ok (.ifCond .eq 20, 3) := by decide +kernel
theorem d_MD_drawn_20 : decode c_MD_drawn 20 = .ok (.aload_n 0, 1) := by decide +kernel
theorem d_MD_drawn_21 : decode c_MD_drawn 21 = .ok (.getfield 157, 3) := by decide +kernel
theorem d_MD_drawn_24 : decode c_MD_drawn 24 = .ok (.iload_n 1, 1) := by decide +kernel
theorem d_MD_drawn_25 : decode c_MD_drawn 25 = .ok (.lshr, 1) := by decide +kernel
theorem d_MD_drawn_26 : decode c_MD_drawn 26 = .ok (.lconst 1, 1) := by decide +kernel
theorem d_MD_drawn_27 : decode c_MD_drawn 27 = .ok (.land, 1) := by decide +kernel
theorem d_MD_drawn_28 : decode c_MD_drawn 28 = .ok (.lconst 1, 1) := by decide +kernel
theorem d_MD_drawn_29 : decode c_MD_drawn 29 = .ok (.lcmp, 1) := by decide +kernel
theorem d_MD_drawn_30 : decode c_MD_drawn 30 = .ok (.ifCond .ne 7, 3) := by decide +kernel
theorem d_MD_drawn_33 : decode c_MD_drawn 33 = .ok (.iconst 1, 1) := by decide +kernel
theorem d_MD_drawn_34 : decode c_MD_drawn 34 = .ok (.goto 4, 3) := by decide +kernel
theorem d_MD_drawn_37 : decode c_MD_drawn 37 = .ok (.iconst 0, 1) := by decide +kernel
theorem d_MD_drawn_38 : decode c_MD_drawn 38 = .ok (.ireturn, 1) := by decide +kernel
theorem d_MD_rank_0 : decode c_MD_rank 0 = .ok (.aload_n 0, 1) := by decide +kernel
theorem d_MD_rank_1 : decode c_MD_rank 1 = .ok (.iconst 0, 1) := by decide +kernel
theorem d_MD_rank_2 : decode c_MD_rank 2 = .ok (.putfield 78, 3) := by decide +kernel
theorem d_MD_rank_5 : decode c_MD_rank 5 = .ok (.aload_n 0, 1) := by decide +kernel
theorem d_MD_rank_6 : decode c_MD_rank 6 = .ok (.getfield 96, 3) := by decide +kernel
theorem d_MD_rank_9 : decode c_MD_rank 9 = .ok (.ifCond .eq 10, 3) := by decide +kernel
theorem d_MD_rank_12 : decode c_MD_rank 12 = .ok (.aload_n 0, 1) := by decide +kernel
theorem d_MD_rank_13 : decode c_MD_rank 13 = .ok (.getfield 180, 3) := by decide +kernel
theorem d_MD_rank_16 : decode c_MD_rank 16 = .ok (.goto 6, 3) := by decide +kernel
theorem d_MD_rank_19 : decode c_MD_rank 19 = .ok (.ldc2_w 121, 3) := by decide +kernel
theorem d_MD_rank_22 : decode c_MD_rank 22 = .ok (.lreturn, 1) := by decide +kernel
theorem d_LW_cell_0 : decode c_LW_cell 0 = .ok (.iload_n 1, 1) := by decide +kernel
theorem d_LW_cell_1 : decode c_LW_cell 1 = .ok (.aload_n 0, 1) := by decide +kernel
theorem d_LW_cell_2 : decode c_LW_cell 2 = .ok (.arraylength, 1) := by decide +kernel
theorem d_LW_cell_3 : decode c_LW_cell 3 = .ok (.if_icmp .ge 9, 3) := by decide +kernel
theorem d_LW_cell_6 : decode c_LW_cell 6 = .ok (.aload_n 0, 1) := by decide +kernel
theorem d_LW_cell_7 : decode c_LW_cell 7 = .ok (.iload_n 1, 1) := by decide +kernel
theorem d_LW_cell_8 : decode c_LW_cell 8 = .ok (.iaload, 1) := by decide +kernel
theorem d_LW_cell_9 : decode c_LW_cell 9 = .ok (.goto 4, 3) := by decide +kernel
theorem d_LW_cell_12 : decode c_LW_cell 12 = .ok (.iconst 0, 1) := by decide +kernel
theorem d_LW_cell_13 : decode c_LW_cell 13 = .ok (.ireturn, 1) := by decide +kernel
theorem d_LW_law_0 : decode c_LW_law 0 = .ok (.new 7, 3) := by decide +kernel
theorem d_LW_law_3 : decode c_LW_law 3 = .ok (.dup, 1) := by decide +kernel
theorem d_LW_law_4 : decode c_LW_law 4 = .ok (.aload_n 0, 1) := by decide +kernel
theorem d_LW_law_5 : decode c_LW_law 5 = .ok (.iconst 0, 1) := by decide +kernel
theorem d_LW_law_6 : decode c_LW_law 6 = .ok (.invokestatic 9, 3) := by decide +kernel
theorem d_LW_law_9 : decode c_LW_law 9 = .ok (.aload_n 0, 1) := by decide +kernel
theorem d_LW_law_10 : decode c_LW_law 10 = .ok (.iconst 1, 1) := by decide +kernel
theorem d_LW_law_11 : decode c_LW_law 11 = .ok (.invokestatic 9, 3) := by decide +kernel
theorem d_LW_law_14 : decode c_LW_law 14 = .ok (.aload_n 0, 1) := by decide +kernel
theorem d_LW_law_15 : decode c_LW_law 15 = .ok (.iconst 2, 1) := by decide +kernel
theorem d_LW_law_16 : decode c_LW_law 16 = .ok (.invokestatic 9, 3) := by decide +kernel
theorem d_LW_law_19 : decode c_LW_law 19 = .ok (.invokespecial 15, 3) := by decide +kernel
theorem d_LW_law_22 : decode c_LW_law 22 = .ok (.astore_n 1, 1) := by decide +kernel
theorem d_LW_law_23 : decode c_LW_law 23 = .ok (.new 18, 3) := by decide +kernel
theorem d_LW_law_26 : decode c_LW_law 26 = .ok (.dup, 1) := by decide +kernel
theorem d_LW_law_27 : decode c_LW_law 27 = .ok (.aload_n 0, 1) := by decide +kernel
theorem d_LW_law_28 : decode c_LW_law 28 = .ok (.iconst 0, 1) := by decide +kernel
theorem d_LW_law_29 : decode c_LW_law 29 = .ok (.invokestatic 9, 3) := by decide +kernel
theorem d_LW_law_32 : decode c_LW_law 32 = .ok (.aload_n 0, 1) := by decide +kernel
theorem d_LW_law_33 : decode c_LW_law 33 = .ok (.iconst 1, 1) := by decide +kernel
theorem d_LW_law_34 : decode c_LW_law 34 = .ok (.invokestatic 9, 3) := by decide +kernel
theorem d_LW_law_37 : decode c_LW_law 37 = .ok (.aload_n 0, 1) := by decide +kernel
theorem d_LW_law_38 : decode c_LW_law 38 = .ok (.iconst 2, 1) := by decide +kernel
theorem d_LW_law_39 : decode c_LW_law 39 = .ok (.invokestatic 9, 3) := by decide +kernel
theorem d_LW_law_42 : decode c_LW_law 42 = .ok (.invokespecial 20, 3) := by decide +kernel
theorem d_LW_law_45 : decode c_LW_law 45 = .ok (.astore_n 2, 1) := by decide +kernel
theorem d_LW_law_46 : decode c_LW_law 46 = .ok (.iconst 3, 1) := by decide +kernel
theorem d_LW_law_47 : decode c_LW_law 47 = .ok (.istore_n 3, 1) := by decide +kernel
theorem d_LW_law_48 : decode c_LW_law 48 = .ok (.iload_n 3, 1) := by decide +kernel
theorem d_LW_law_49 : decode c_LW_law 49 = .ok (.aload_n 0, 1) := by decide +kernel
theorem d_LW_law_50 : decode c_LW_law 50 = .ok (.arraylength, 1) := by decide +kernel
theorem d_LW_law_51 : decode c_LW_law 51 = .ok (.iconst 4, 1) := by decide +kernel
theorem d_LW_law_52 : decode c_LW_law 52 = .ok (.isub, 1) := by decide +kernel
theorem d_LW_law_53 : decode c_LW_law 53 = .ok (.if_icmp .gt 420, 3) := by decide +kernel
theorem d_LW_law_56 : decode c_LW_law 56 = .ok (.aload_n 0, 1) := by decide +kernel
theorem d_LW_law_57 : decode c_LW_law 57 = .ok (.iload_n 3, 1) := by decide +kernel
theorem d_LW_law_58 : decode c_LW_law 58 = .ok (.iaload, 1) := by decide +kernel
theorem d_LW_law_59 : decode c_LW_law 59 = .ok (.bipush 15, 2) := by decide +kernel
theorem d_LW_law_61 : decode c_LW_law 61 = .ok (.iand, 1) := by decide +kernel
theorem d_LW_law_62 : decode c_LW_law 62 = .ok (.tableswitch 405 0 10 #[58, 91, 150, 183, 196, 245, 278, 292, 315, 368, 391], 58) := by decide +kernel
theorem d_LW_law_120 : decode c_LW_law 120 = .ok (.aload_n 1, 1) := by decide +kernel
theorem d_LW_law_121 : decode c_LW_law 121 = .ok (.aload_n 0, 1) := by decide +kernel
theorem d_LW_law_122 : decode c_LW_law 122 = .ok (.iload_n 3, 1) := by decide +kernel
theorem d_LW_law_123 : decode c_LW_law 123 = .ok (.iconst 1, 1) := by decide +kernel
theorem d_LW_law_124 : decode c_LW_law 124 = .ok (.iadd, 1) := by decide +kernel
theorem d_LW_law_125 : decode c_LW_law 125 = .ok (.iaload, 1) := by decide +kernel
theorem d_LW_law_126 : decode c_LW_law 126 = .ok (.aload_n 0, 1) := by decide +kernel
theorem d_LW_law_127 : decode c_LW_law 127 = .ok (.iload_n 3, 1) := by decide +kernel
theorem d_LW_law_128 : decode c_LW_law 128 = .ok (.iconst 2, 1) := by decide +kernel
theorem d_LW_law_129 : decode c_LW_law 129 = .ok (.iadd, 1) := by decide +kernel
theorem d_LW_law_130 : decode c_LW_law 130 = .ok (.iaload, 1) := by decide +kernel
theorem d_LW_law_131 : decode c_LW_law 131 = .ok (.invokevirtual 21, 3) := by decide +kernel
theorem d_LW_law_134 : decode c_LW_law 134 = .ok (.aload_n 2, 1) := by decide +kernel
theorem d_LW_law_135 : decode c_LW_law 135 = .ok (.aload_n 0, 1) := by decide +kernel
theorem d_LW_law_136 : decode c_LW_law 136 = .ok (.iload_n 3, 1) := by decide +kernel
theorem d_LW_law_137 : decode c_LW_law 137 = .ok (.iconst 1, 1) := by decide +kernel
theorem d_LW_law_138 : decode c_LW_law 138 = .ok (.iadd, 1) := by decide +kernel
theorem d_LW_law_139 : decode c_LW_law 139 = .ok (.iaload, 1) := by decide +kernel
theorem d_LW_law_140 : decode c_LW_law 140 = .ok (.aload_n 0, 1) := by decide +kernel
theorem d_LW_law_141 : decode c_LW_law 141 = .ok (.iload_n 3, 1) := by decide +kernel
theorem d_LW_law_142 : decode c_LW_law 142 = .ok (.iconst 2, 1) := by decide +kernel
theorem d_LW_law_143 : decode c_LW_law 143 = .ok (.iadd, 1) := by decide +kernel
theorem d_LW_law_144 : decode c_LW_law 144 = .ok (.iaload, 1) := by decide +kernel
theorem d_LW_law_145 : decode c_LW_law 145 = .ok (.invokevirtual 25, 3) := by decide +kernel
theorem d_LW_law_148 : decode c_LW_law 148 = .ok (.if_icmp .eq 319, 3) := by decide +kernel
theorem d_LW_law_151 : decode c_LW_law 151 = .ok (.iconst 0, 1) := by decide +kernel
theorem d_LW_law_152 : decode c_LW_law 152 = .ok (.ireturn, 1) := by decide +kernel
theorem d_LW_law_153 : decode c_LW_law 153 = .ok (.aload_n 1, 1) := by decide +kernel
theorem d_LW_law_154 : decode c_LW_law 154 = .ok (.aload_n 0, 1) := by decide +kernel
theorem d_LW_law_155 : decode c_LW_law 155 = .ok (.iload_n 3, 1) := by decide +kernel
theorem d_LW_law_156 : decode c_LW_law 156 = .ok (.iconst 1, 1) := by decide +kernel
theorem d_LW_law_157 : decode c_LW_law 157 = .ok (.iadd, 1) := by decide +kernel
theorem d_LW_law_158 : decode c_LW_law 158 = .ok (.iaload, 1) := by decide +kernel
theorem d_LW_law_159 : decode c_LW_law 159 = .ok (.aload_n 0, 1) := by decide +kernel
theorem d_LW_law_160 : decode c_LW_law 160 = .ok (.iload_n 3, 1) := by decide +kernel
theorem d_LW_law_161 : decode c_LW_law 161 = .ok (.iconst 2, 1) := by decide +kernel
theorem d_LW_law_162 : decode c_LW_law 162 = .ok (.iadd, 1) := by decide +kernel
theorem d_LW_law_163 : decode c_LW_law 163 = .ok (.iaload, 1) := by decide +kernel
theorem d_LW_law_164 : decode c_LW_law 164 = .ok (.aload_n 0, 1) := by decide +kernel
theorem d_LW_law_165 : decode c_LW_law 165 = .ok (.iload_n 3, 1) := by decide +kernel
theorem d_LW_law_166 : decode c_LW_law 166 = .ok (.iconst 3, 1) := by decide +kernel
theorem d_LW_law_167 : decode c_LW_law 167 = .ok (.iadd, 1) := by decide +kernel
theorem d_LW_law_168 : decode c_LW_law 168 = .ok (.iaload, 1) := by decide +kernel
theorem d_LW_law_169 : decode c_LW_law 169 = .ok (.ifCond .eq 7, 3) := by decide +kernel
theorem d_LW_law_172 : decode c_LW_law 172 = .ok (.iconst 1, 1) := by decide +kernel
theorem d_LW_law_173 : decode c_LW_law 173 = .ok (.goto 4, 3) := by decide +kernel
theorem d_LW_law_176 : decode c_LW_law 176 = .ok (.iconst 0, 1) := by decide +kernel
theorem d_LW_law_177 : decode c_LW_law 177 = .ok (.invokevirtual 26, 3) := by decide +kernel
theorem d_LW_law_180 : decode c_LW_law 180 = .ok (.aload_n 2, 1) := by decide +kernel
theorem d_LW_law_181 : decode c_LW_law 181 = .ok (.aload_n 0, 1) := by decide +kernel
theorem d_LW_law_182 : decode c_LW_law 182 = .ok (.iload_n 3, 1) := by decide +kernel
theorem d_LW_law_183 : decode c_LW_law 183 = .ok (.iconst 1, 1) := by decide +kernel
theorem d_LW_law_184 : decode c_LW_law 184 = .ok (.iadd, 1) := by decide +kernel
theorem d_LW_law_185 : decode c_LW_law 185 = .ok (.iaload, 1) := by decide +kernel
theorem d_LW_law_186 : decode c_LW_law 186 = .ok (.aload_n 0, 1) := by decide +kernel
theorem d_LW_law_187 : decode c_LW_law 187 = .ok (.iload_n 3, 1) := by decide +kernel
theorem d_LW_law_188 : decode c_LW_law 188 = .ok (.iconst 2, 1) := by decide +kernel
theorem d_LW_law_189 : decode c_LW_law 189 = .ok (.iadd, 1) := by decide +kernel
theorem d_LW_law_190 : decode c_LW_law 190 = .ok (.iaload, 1) := by decide +kernel
theorem d_LW_law_191 : decode c_LW_law 191 = .ok (.aload_n 0, 1) := by decide +kernel
theorem d_LW_law_192 : decode c_LW_law 192 = .ok (.iload_n 3, 1) := by decide +kernel
theorem d_LW_law_193 : decode c_LW_law 193 = .ok (.iconst 3, 1) := by decide +kernel
theorem d_LW_law_194 : decode c_LW_law 194 = .ok (.iadd, 1) := by decide +kernel
theorem d_LW_law_195 : decode c_LW_law 195 = .ok (.iaload, 1) := by decide +kernel
theorem d_LW_law_196 : decode c_LW_law 196 = .ok (.ifCond .eq 7, 3) := by decide +kernel
theorem d_LW_law_199 : decode c_LW_law 199 = .ok (.iconst 1, 1) := by decide +kernel
theorem d_LW_law_200 : decode c_LW_law 200 = .ok (.goto 4, 3) := by decide +kernel
theorem d_LW_law_203 : decode c_LW_law 203 = .ok (.iconst 0, 1) := by decide +kernel
theorem d_LW_law_204 : decode c_LW_law 204 = .ok (.invokevirtual 30, 3) := by decide +kernel
theorem d_LW_law_207 : decode c_LW_law 207 = .ok (.if_icmp .eq 260, 3) := by decide +kernel
theorem d_LW_law_210 : decode c_LW_law 210 = .ok (.iconst 0, 1) := by decide +kernel
theorem d_LW_law_211 : decode c_LW_law 211 = .ok (.ireturn, 1) := by decide +kernel
theorem d_LW_law_212 : decode c_LW_law 212 = .ok (.aload_n 1, 1) := by decide +kernel
theorem d_LW_law_213 : decode c_LW_law 213 = .ok (.aload_n 0, 1) := by decide +kernel
theorem d_LW_law_214 : decode c_LW_law 214 = .ok (.iload_n 3, 1) := by decide +kernel
theorem d_LW_law_215 : decode c_LW_law 215 = .ok (.iconst 1, 1) := by decide +kernel
theorem d_LW_law_216 : decode c_LW_law 216 = .ok (.iadd, 1) := by decide +kernel
theorem d_LW_law_217 : decode c_LW_law 217 = .ok (.iaload, 1) := by decide +kernel
theorem d_LW_law_218 : decode c_LW_law 218 = .ok (.aload_n 0, 1) := by decide +kernel
theorem d_LW_law_219 : decode c_LW_law 219 = .ok (.iload_n 3, 1) := by decide +kernel
theorem d_LW_law_220 : decode c_LW_law 220 = .ok (.iconst 2, 1) := by decide +kernel
theorem d_LW_law_221 : decode c_LW_law 221 = .ok (.iadd, 1) := by decide +kernel
theorem d_LW_law_222 : decode c_LW_law 222 = .ok (.iaload, 1) := by decide +kernel
theorem d_LW_law_223 : decode c_LW_law 223 = .ok (.invokevirtual 31, 3) := by decide +kernel
theorem d_LW_law_226 : decode c_LW_law 226 = .ok (.aload_n 2, 1) := by decide +kernel
theorem d_LW_law_227 : decode c_LW_law 227 = .ok (.aload_n 0, 1) := by decide +kernel
theorem d_LW_law_228 : decode c_LW_law 228 = .ok (.iload_n 3, 1) := by decide +kernel
theorem d_LW_law_229 : decode c_LW_law 229 = .ok (.iconst 1, 1) := by decide +kernel
theorem d_LW_law_230 : decode c_LW_law 230 = .ok (.iadd, 1) := by decide +kernel
theorem d_LW_law_231 : decode c_LW_law 231 = .ok (.iaload, 1) := by decide +kernel
theorem d_LW_law_232 : decode c_LW_law 232 = .ok (.aload_n 0, 1) := by decide +kernel
theorem d_LW_law_233 : decode c_LW_law 233 = .ok (.iload_n 3, 1) := by decide +kernel
theorem d_LW_law_234 : decode c_LW_law 234 = .ok (.iconst 2, 1) := by decide +kernel
theorem d_LW_law_235 : decode c_LW_law 235 = .ok (.iadd, 1) := by decide +kernel
theorem d_LW_law_236 : decode c_LW_law 236 = .ok (.iaload, 1) := by decide +kernel
theorem d_LW_law_237 : decode c_LW_law 237 = .ok (.invokevirtual 34, 3) := by decide +kernel
theorem d_LW_law_240 : decode c_LW_law 240 = .ok (.if_icmp .eq 227, 3) := by decide +kernel
theorem d_LW_law_243 : decode c_LW_law 243 = .ok (.iconst 0, 1) := by decide +kernel
theorem d_LW_law_244 : decode c_LW_law 244 = .ok (.ireturn, 1) := by decide +kernel
theorem d_LW_law_245 : decode c_LW_law 245 = .ok (.aload_n 1, 1) := by decide +kernel
theorem d_LW_law_246 : decode c_LW_law 246 = .ok (.invokevirtual 35, 3) := by decide +kernel
theorem d_LW_law_249 : decode c_LW_law 249 = .ok (.aload_n 2, 1) := by decide +kernel
theorem d_LW_law_250 : decode c_LW_law 250 = .ok (.invokevirtual 39, 3) := by decide +kernel
theorem d_LW_law_253 : decode c_LW_law 253 = .ok (.if_icmp .eq 214, 3) := by decide +kernel
theorem d_LW_law_256 : decode c_LW_law 256 = .ok (.iconst 0, 1) := by decide +kernel
theorem d_LW_law_257 : decode c_LW_law 257 = .ok (.ireturn, 1) := by decide +kernel
theorem d_LW_law_258 : decode c_LW_law 258 = .ok (.aload_n 1, 1) := by decide +kernel
theorem d_LW_law_259 : decode c_LW_law 259 = .ok (.aload_n 0, 1) := by decide +kernel
theorem d_LW_law_260 : decode c_LW_law 260 = .ok (.iload_n 3, 1) := by decide +kernel
theorem d_LW_law_261 : decode c_LW_law 261 = .ok (.iconst 1, 1) := by decide +kernel
theorem d_LW_law_262 : decode c_LW_law 262 = .ok (.iadd, 1) := by decide +kernel
theorem d_LW_law_263 : decode c_LW_law 263 = .ok (.iaload, 1) := by decide +kernel
theorem d_LW_law_264 : decode c_LW_law 264 = .ok (.aload_n 0, 1) := by decide +kernel
theorem d_LW_law_265 : decode c_LW_law 265 = .ok (.iload_n 3, 1) := by decide +kernel
theorem d_LW_law_266 : decode c_LW_law 266 = .ok (.iconst 2, 1) := by decide +kernel
theorem d_LW_law_267 : decode c_LW_law 267 = .ok (.iadd, 1) := by decide +kernel
theorem d_LW_law_268 : decode c_LW_law 268 = .ok (.iaload, 1) := by decide +kernel
theorem d_LW_law_269 : decode c_LW_law 269 = .ok (.ifCond .eq 7, 3) := by decide +kernel
theorem d_LW_law_272 : decode c_LW_law 272 = .ok (.iconst 1, 1) := by decide +kernel
theorem d_LW_law_273 : decode c_LW_law 273 = .ok (.goto 4, 3) := by decide +kernel
theorem d_LW_law_276 : decode c_LW_law 276 = .ok (.iconst 0, 1) := by decide +kernel
theorem d_LW_law_277 : decode c_LW_law 277 = .ok (.invokevirtual 40, 3) := by decide +kernel
theorem d_LW_law_280 : decode c_LW_law 280 = .ok (.aload_n 2, 1) := by decide +kernel
theorem d_LW_law_281 : decode c_LW_law 281 = .ok (.aload_n 0, 1) := by decide +kernel
theorem d_LW_law_282 : decode c_LW_law 282 = .ok (.iload_n 3, 1) := by decide +kernel
theorem d_LW_law_283 : decode c_LW_law 283 = .ok (.iconst 1, 1) := by decide +kernel
theorem d_LW_law_284 : decode c_LW_law 284 = .ok (.iadd, 1) := by decide +kernel
theorem d_LW_law_285 : decode c_LW_law 285 = .ok (.iaload, 1) := by decide +kernel
theorem d_LW_law_286 : decode c_LW_law 286 = .ok (.aload_n 0, 1) := by decide +kernel
theorem d_LW_law_287 : decode c_LW_law 287 = .ok (.iload_n 3, 1) := by decide +kernel
theorem d_LW_law_288 : decode c_LW_law 288 = .ok (.iconst 2, 1) := by decide +kernel
theorem d_LW_law_289 : decode c_LW_law 289 = .ok (.iadd, 1) := by decide +kernel
theorem d_LW_law_290 : decode c_LW_law 290 = .ok (.iaload, 1) := by decide +kernel
theorem d_LW_law_291 : decode c_LW_law 291 = .ok (.ifCond .eq 7, 3) := by decide +kernel
theorem d_LW_law_294 : decode c_LW_law 294 = .ok (.iconst 1, 1) := by decide +kernel
theorem d_LW_law_295 : decode c_LW_law 295 = .ok (.goto 4, 3) := by decide +kernel
theorem d_LW_law_298 : decode c_LW_law 298 = .ok (.iconst 0, 1) := by decide +kernel
theorem d_LW_law_299 : decode c_LW_law 299 = .ok (.invokevirtual 44, 3) := by decide +kernel
theorem d_LW_law_302 : decode c_LW_law 302 = .ok (.if_icmp .eq 165, 3) := by decide +kernel
theorem d_LW_law_305 : decode c_LW_law 305 = .ok (.iconst 0, 1) := by decide +kernel
theorem d_LW_law_306 : decode c_LW_law 306 = .ok (.ireturn, 1) := by decide +kernel
theorem d_LW_law_307 : decode c_LW_law 307 = .ok (.aload_n 1, 1) := by decide +kernel
theorem d_LW_law_308 : decode c_LW_law 308 = .ok (.aload_n 0, 1) := by decide +kernel
theorem d_LW_law_309 : decode c_LW_law 309 = .ok (.iload_n 3, 1) := by decide +kernel
theorem d_LW_law_310 : decode c_LW_law 310 = .ok (.iconst 1, 1) := by decide +kernel
theorem d_LW_law_311 : decode c_LW_law 311 = .ok (.iadd, 1) := by decide +kernel
theorem d_LW_law_312 : decode c_LW_law 312 = .ok (.iaload, 1) := by decide +kernel
theorem d_LW_law_313 : decode c_LW_law 313 = .ok (.aload_n 0, 1) := by decide +kernel
theorem d_LW_law_314 : decode c_LW_law 314 = .ok (.iload_n 3, 1) := by decide +kernel
theorem d_LW_law_315 : decode c_LW_law 315 = .ok (.iconst 2, 1) := by decide +kernel
theorem d_LW_law_316 : decode c_LW_law 316 = .ok (.iadd, 1) := by decide +kernel
theorem d_LW_law_317 : decode c_LW_law 317 = .ok (.iaload, 1) := by decide +kernel
theorem d_LW_law_318 : decode c_LW_law 318 = .ok (.invokevirtual 45, 3) := by decide +kernel
theorem d_LW_law_321 : decode c_LW_law 321 = .ok (.aload_n 2, 1) := by decide +kernel
theorem d_LW_law_322 : decode c_LW_law 322 = .ok (.aload_n 0, 1) := by decide +kernel
theorem d_LW_law_323 : decode c_LW_law 323 = .ok (.iload_n 3, 1) := by decide +kernel
theorem d_LW_law_324 : decode c_LW_law 324 = .ok (.iconst 1, 1) := by decide +kernel
theorem d_LW_law_325 : decode c_LW_law 325 = .ok (.iadd, 1) := by decide +kernel
theorem d_LW_law_326 : decode c_LW_law 326 = .ok (.iaload, 1) := by decide +kernel
theorem d_LW_law_327 : decode c_LW_law 327 = .ok (.aload_n 0, 1) := by decide +kernel
theorem d_LW_law_328 : decode c_LW_law 328 = .ok (.iload_n 3, 1) := by decide +kernel
theorem d_LW_law_329 : decode c_LW_law 329 = .ok (.iconst 2, 1) := by decide +kernel
theorem d_LW_law_330 : decode c_LW_law 330 = .ok (.iadd, 1) := by decide +kernel
theorem d_LW_law_331 : decode c_LW_law 331 = .ok (.iaload, 1) := by decide +kernel
theorem d_LW_law_332 : decode c_LW_law 332 = .ok (.invokevirtual 48, 3) := by decide +kernel
theorem d_LW_law_335 : decode c_LW_law 335 = .ok (.if_icmp .eq 132, 3) := by decide +kernel
theorem d_LW_law_338 : decode c_LW_law 338 = .ok (.iconst 0, 1) := by decide +kernel
theorem d_LW_law_339 : decode c_LW_law 339 = .ok (.ireturn, 1) := by decide +kernel
theorem d_LW_law_340 : decode c_LW_law 340 = .ok (.aload_n 1, 1) := by decide +kernel
theorem d_LW_law_341 : decode c_LW_law 341 = .ok (.invokevirtual 49, 3) := by decide +kernel
theorem d_LW_law_344 : decode c_LW_law 344 = .ok (.aload_n 2, 1) := by decide +kernel
theorem d_LW_law_345 : decode c_LW_law 345 = .ok (.invokevirtual 53, 3) := by decide +kernel
theorem d_LW_law_348 : decode c_LW_law 348 = .ok (.lcmp, 1) := by decide +kernel
theorem d_LW_law_349 : decode c_LW_law 349 = .ok (.ifCond .eq 118, 3) := by decide +kernel
theorem d_LW_law_352 : decode c_LW_law 352 = .ok (.iconst 0, 1) := by decide +kernel
theorem d_LW_law_353 : decode c_LW_law 353 = .ok (.ireturn, 1) := by decide +kernel
theorem d_LW_law_354 : decode c_LW_law 354 = .ok (.aload_n 1, 1) := by decide +kernel
theorem d_LW_law_355 : decode c_LW_law 355 = .ok (.aload_n 0, 1) := by decide +kernel
theorem d_LW_law_356 : decode c_LW_law 356 = .ok (.iload_n 3, 1) := by decide +kernel
theorem d_LW_law_357 : decode c_LW_law 357 = .ok (.iconst 1, 1) := by decide +kernel
theorem d_LW_law_358 : decode c_LW_law 358 = .ok (.iadd, 1) := by decide +kernel
theorem d_LW_law_359 : decode c_LW_law 359 = .ok (.iaload, 1) := by decide +kernel
theorem d_LW_law_360 : decode c_LW_law 360 = .ok (.invokevirtual 54, 3) := by decide +kernel
theorem d_LW_law_363 : decode c_LW_law 363 = .ok (.aload_n 2, 1) := by decide +kernel
theorem d_LW_law_364 : decode c_LW_law 364 = .ok (.aload_n 0, 1) := by decide +kernel
theorem d_LW_law_365 : decode c_LW_law 365 = .ok (.iload_n 3, 1) := by decide +kernel
theorem d_LW_law_366 : decode c_LW_law 366 = .ok (.iconst 1, 1) := by decide +kernel
theorem d_LW_law_367 : decode c_LW_law 367 = .ok (.iadd, 1) := by decide +kernel
theorem d_LW_law_368 : decode c_LW_law 368 = .ok (.iaload, 1) := by decide +kernel
theorem d_LW_law_369 : decode c_LW_law 369 = .ok (.invokevirtual 58, 3) := by decide +kernel
theorem d_LW_law_372 : decode c_LW_law 372 = .ok (.if_icmp .eq 95, 3) := by decide +kernel
theorem d_LW_law_375 : decode c_LW_law 375 = .ok (.iconst 0, 1) := by decide +kernel
theorem d_LW_law_376 : decode c_LW_law 376 = .ok (.ireturn, 1) := by decide +kernel
theorem d_LW_law_377 : decode c_LW_law 377 = .ok (.aload_n 1, 1) := by decide +kernel
theorem d_LW_law_378 : decode c_LW_law 378 = .ok (.aload_n 0, 1) := by decide +kernel
theorem d_LW_law_379 : decode c_LW_law 379 = .ok (.iload_n 3, 1) := by decide +kernel
theorem d_LW_law_380 : decode c_LW_law 380 = .ok (.iconst 1, 1) := by decide +kernel
theorem d_LW_law_381 : decode c_LW_law 381 = .ok (.iadd, 1) := by decide +kernel
theorem d_LW_law_382 : decode c_LW_law 382 = .ok (.iaload, 1) := by decide +kernel
theorem d_LW_law_383 : decode c_LW_law 383 = .ok (.i2l, 1) := by decide +kernel
theorem d_LW_law_384 : decode c_LW_law 384 = .ok (.bipush 32, 2) := by decide +kernel
theorem d_LW_law_386 : decode c_LW_law 386 = .ok (.lshl, 1) := by decide +kernel
theorem d_LW_law_387 : decode c_LW_law 387 = .ok (.aload_n 0, 1) := by decide +kernel
theorem d_LW_law_388 : decode c_LW_law 388 = .ok (.iload_n 3, 1) := by decide +kernel
theorem d_LW_law_389 : decode c_LW_law 389 = .ok (.iconst 2, 1) := by decide +kernel
theorem d_LW_law_390 : decode c_LW_law 390 = .ok (.iadd, 1) := by decide +kernel
theorem d_LW_law_391 : decode c_LW_law 391 = .ok (.iaload, 1) := by decide +kernel
theorem d_LW_law_392 : decode c_LW_law 392 = .ok (.i2l, 1) := by decide +kernel
theorem d_LW_law_393 : decode c_LW_law 393 = .ok (.ldc2_w 59, 3) := by decide +kernel
theorem d_LW_law_396 : decode c_LW_law 396 = .ok (.land, 1) := by decide +kernel
theorem d_LW_law_397 : decode c_LW_law 397 = .ok (.lor, 1) := by decide +kernel
theorem d_LW_law_398 : decode c_LW_law 398 = .ok (.invokevirtual 61, 3) := by decide +kernel
theorem d_LW_law_401 : decode c_LW_law 401 = .ok (.aload_n 2, 1) := by decide +kernel
theorem d_LW_law_402 : decode c_LW_law 402 = .ok (.aload_n 0, 1) := by decide +kernel
theorem d_LW_law_403 : decode c_LW_law 403 = .ok (.iload_n 3, 1) := by decide +kernel
theorem d_LW_law_404 : decode c_LW_law 404 = .ok (.iconst 1, 1) := by decide +kernel
theorem d_LW_law_405 : decode c_LW_law 405 = .ok (.iadd, 1) := by decide +kernel
theorem d_LW_law_406 : decode c_LW_law 406 = .ok (.iaload, 1) := by decide +kernel
theorem d_LW_law_407 : decode c_LW_law 407 = .ok (.i2l, 1) := by decide +kernel
theorem d_LW_law_408 : decode c_LW_law 408 = .ok (.bipush 32, 2) := by decide +kernel
theorem d_LW_law_410 : decode c_LW_law 410 = .ok (.lshl, 1) := by decide +kernel
theorem d_LW_law_411 : decode c_LW_law 411 = .ok (.aload_n 0, 1) := by decide +kernel
theorem d_LW_law_412 : decode c_LW_law 412 = .ok (.iload_n 3, 1) := by decide +kernel
theorem d_LW_law_413 : decode c_LW_law 413 = .ok (.iconst 2, 1) := by decide +kernel
theorem d_LW_law_414 : decode c_LW_law 414 = .ok (.iadd, 1) := by decide +kernel
theorem d_LW_law_415 : decode c_LW_law 415 = .ok (.iaload, 1) := by decide +kernel
theorem d_LW_law_416 : decode c_LW_law 416 = .ok (.i2l, 1) := by decide +kernel
theorem d_LW_law_417 : decode c_LW_law 417 = .ok (.ldc2_w 59, 3) := by decide +kernel
theorem d_LW_law_420 : decode c_LW_law 420 = .ok (.land, 1) := by decide +kernel
theorem d_LW_law_421 : decode c_LW_law 421 = .ok (.lor, 1) := by decide +kernel
theorem d_LW_law_422 : decode c_LW_law 422 = .ok (.invokevirtual 65, 3) := by decide +kernel
theorem d_LW_law_425 : decode c_LW_law 425 = .ok (.if_icmp .eq 42, 3) := by decide +kernel
theorem d_LW_law_428 : decode c_LW_law 428 = .ok (.iconst 0, 1) := by decide +kernel
theorem d_LW_law_429 : decode c_LW_law 429 = .ok (.ireturn, 1) := by decide +kernel
theorem d_LW_law_430 : decode c_LW_law 430 = .ok (.aload_n 1, 1) := by decide +kernel
theorem d_LW_law_431 : decode c_LW_law 431 = .ok (.aload_n 0, 1) := by decide +kernel
theorem d_LW_law_432 : decode c_LW_law 432 = .ok (.iload_n 3, 1) := by decide +kernel
theorem d_LW_law_433 : decode c_LW_law 433 = .ok (.iconst 1, 1) := by decide +kernel
theorem d_LW_law_434 : decode c_LW_law 434 = .ok (.iadd, 1) := by decide +kernel
theorem d_LW_law_435 : decode c_LW_law 435 = .ok (.iaload, 1) := by decide +kernel
theorem d_LW_law_436 : decode c_LW_law 436 = .ok (.invokevirtual 66, 3) := by decide +kernel
theorem d_LW_law_439 : decode c_LW_law 439 = .ok (.aload_n 2, 1) := by decide +kernel
theorem d_LW_law_440 : decode c_LW_law 440 = .ok (.aload_n 0, 1) := by decide +kernel
theorem d_LW_law_441 : decode c_LW_law 441 = .ok (.iload_n 3, 1) := by decide +kernel
theorem d_LW_law_442 : decode c_LW_law 442 = .ok (.iconst 1, 1) := by decide +kernel
theorem d_LW_law_443 : decode c_LW_law 443 = .ok (.iadd, 1) := by decide +kernel
theorem d_LW_law_444 : decode c_LW_law 444 = .ok (.iaload, 1) := by decide +kernel
theorem d_LW_law_445 : decode c_LW_law 445 = .ok (.invokevirtual 70, 3) := by decide +kernel
theorem d_LW_law_448 : decode c_LW_law 448 = .ok (.if_icmp .eq 19, 3) := by decide +kernel
theorem d_LW_law_451 : decode c_LW_law 451 = .ok (.iconst 0, 1) := by decide +kernel
theorem d_LW_law_452 : decode c_LW_law 452 = .ok (.ireturn, 1) := by decide +kernel
theorem d_LW_law_453 : decode c_LW_law 453 = .ok (.aload_n 1, 1) := by decide +kernel
theorem d_LW_law_454 : decode c_LW_law 454 = .ok (.invokevirtual 71, 3) := by decide +kernel
theorem d_LW_law_457 : decode c_LW_law 457 = .ok (.aload_n 2, 1) := by decide +kernel
theorem d_LW_law_458 : decode c_LW_law 458 = .ok (.invokevirtual 74, 3) := by decide +kernel
theorem d_LW_law_461 : decode c_LW_law 461 = .ok (.lcmp, 1) := by decide +kernel
theorem d_LW_law_462 : decode c_LW_law 462 = .ok (.ifCond .eq 5, 3) := by decide +kernel
theorem d_LW_law_465 : decode c_LW_law 465 = .ok (.iconst 0, 1) := by decide +kernel
theorem d_LW_law_466 : decode c_LW_law 466 = .ok (.ireturn, 1) := by decide +kernel
theorem d_LW_law_467 : decode c_LW_law 467 = .ok (.iinc 3 4, 3) := by decide +kernel
theorem d_LW_law_470 : decode c_LW_law 470 = .ok (.goto (-422), 3) := by decide +kernel
theorem d_LW_law_473 : decode c_LW_law 473 = .ok (.iconst 1, 1) := by decide +kernel
theorem d_LW_law_474 : decode c_LW_law 474 = .ok (.ireturn, 1) := by decide +kernel
