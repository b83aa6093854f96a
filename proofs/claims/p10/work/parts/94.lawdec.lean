/-! the instructions of the law and of its cell -/
theorem d_law_0 : decode code 0 = .ok (.new 7, 3) := by decide +kernel
theorem d_law_3 : decode code 3 = .ok (.dup, 1) := by decide +kernel
theorem d_law_4 : decode code 4 = .ok (.aload_n 0, 1) := by decide +kernel
theorem d_law_5 : decode code 5 = .ok (.iconst 0, 1) := by decide +kernel
theorem d_law_6 : decode code 6 = .ok (.invokestatic 9, 3) := by decide +kernel
theorem d_law_9 : decode code 9 = .ok (.invokespecial 15, 3) := by decide +kernel
theorem d_law_12 : decode code 12 = .ok (.astore_n 1, 1) := by decide +kernel
theorem d_law_13 : decode code 13 = .ok (.new 18, 3) := by decide +kernel
theorem d_law_16 : decode code 16 = .ok (.dup, 1) := by decide +kernel
theorem d_law_17 : decode code 17 = .ok (.aload_n 0, 1) := by decide +kernel
theorem d_law_18 : decode code 18 = .ok (.iconst 0, 1) := by decide +kernel
theorem d_law_19 : decode code 19 = .ok (.invokestatic 9, 3) := by decide +kernel
theorem d_law_22 : decode code 22 = .ok (.invokespecial 20, 3) := by decide +kernel
theorem d_law_25 : decode code 25 = .ok (.astore_n 2, 1) := by decide +kernel
theorem d_law_26 : decode code 26 = .ok (.iconst 1, 1) := by decide +kernel
theorem d_law_27 : decode code 27 = .ok (.istore_n 3, 1) := by decide +kernel
theorem d_law_28 : decode code 28 = .ok (.iload_n 3, 1) := by decide +kernel
theorem d_law_29 : decode code 29 = .ok (.aload_n 0, 1) := by decide +kernel
theorem d_law_30 : decode code 30 = .ok (.arraylength, 1) := by decide +kernel
theorem d_law_31 : decode code 31 = .ok (.iconst 2, 1) := by decide +kernel
theorem d_law_32 : decode code 32 = .ok (.isub, 1) := by decide +kernel
theorem d_law_33 : decode code 33 = .ok (.if_icmp .gt 276, 3) := by decide +kernel
theorem d_law_36 : decode code 36 = .ok (.aload_n 0, 1) := by decide +kernel
theorem d_law_37 : decode code 37 = .ok (.iload_n 3, 1) := by decide +kernel
theorem d_law_38 : decode code 38 = .ok (.iaload, 1) := by decide +kernel
theorem d_law_39 : decode code 39 = .ok (.bipush 15, 2) := by decide +kernel
theorem d_law_41 : decode code 41 = .ok (.iand, 1) := by decide +kernel
theorem d_law_42 : decode code 42 = .ok (.tableswitch 261 0 10 #[58, 81, 94, 117, 130, 153, 166, 189, 212, 225, 238], 58) := by decide +kernel
theorem d_law_100 : decode code 100 = .ok (.aload_n 1, 1) := by decide +kernel
theorem d_law_101 : decode code 101 = .ok (.aload_n 0, 1) := by decide +kernel
theorem d_law_102 : decode code 102 = .ok (.iload_n 3, 1) := by decide +kernel
theorem d_law_103 : decode code 103 = .ok (.iconst 1, 1) := by decide +kernel
theorem d_law_104 : decode code 104 = .ok (.iadd, 1) := by decide +kernel
theorem d_law_105 : decode code 105 = .ok (.iaload, 1) := by decide +kernel
theorem d_law_106 : decode code 106 = .ok (.invokevirtual 21, 3) := by decide +kernel
theorem d_law_109 : decode code 109 = .ok (.pop, 1) := by decide +kernel
theorem d_law_110 : decode code 110 = .ok (.aload_n 2, 1) := by decide +kernel
theorem d_law_111 : decode code 111 = .ok (.aload_n 0, 1) := by decide +kernel
theorem d_law_112 : decode code 112 = .ok (.iload_n 3, 1) := by decide +kernel
theorem d_law_113 : decode code 113 = .ok (.iconst 1, 1) := by decide +kernel
theorem d_law_114 : decode code 114 = .ok (.iadd, 1) := by decide +kernel
theorem d_law_115 : decode code 115 = .ok (.iaload, 1) := by decide +kernel
theorem d_law_116 : decode code 116 = .ok (.invokevirtual 25, 3) := by decide +kernel
theorem d_law_119 : decode code 119 = .ok (.pop, 1) := by decide +kernel
theorem d_law_120 : decode code 120 = .ok (.goto 183, 3) := by decide +kernel
theorem d_law_123 : decode code 123 = .ok (.aload_n 1, 1) := by decide +kernel
theorem d_law_124 : decode code 124 = .ok (.invokevirtual 26, 3) := by decide +kernel
theorem d_law_127 : decode code 127 = .ok (.pop, 1) := by decide +kernel
theorem d_law_128 : decode code 128 = .ok (.aload_n 2, 1) := by decide +kernel
theorem d_law_129 : decode code 129 = .ok (.invokevirtual 30, 3) := by decide +kernel
theorem d_law_132 : decode code 132 = .ok (.pop, 1) := by decide +kernel
theorem d_law_133 : decode code 133 = .ok (.goto 170, 3) := by decide +kernel
theorem d_law_136 : decode code 136 = .ok (.aload_n 1, 1) := by decide +kernel
theorem d_law_137 : decode code 137 = .ok (.aload_n 0, 1) := by decide +kernel
theorem d_law_138 : decode code 138 = .ok (.iload_n 3, 1) := by decide +kernel
theorem d_law_139 : decode code 139 = .ok (.iconst 1, 1) := by decide +kernel
theorem d_law_140 : decode code 140 = .ok (.iadd, 1) := by decide +kernel
theorem d_law_141 : decode code 141 = .ok (.iaload, 1) := by decide +kernel
theorem d_law_142 : decode code 142 = .ok (.invokevirtual 31, 3) := by decide +kernel
theorem d_law_145 : decode code 145 = .ok (.pop, 1) := by decide +kernel
theorem d_law_146 : decode code 146 = .ok (.aload_n 2, 1) := by decide +kernel
theorem d_law_147 : decode code 147 = .ok (.aload_n 0, 1) := by decide +kernel
theorem d_law_148 : decode code 148 = .ok (.iload_n 3, 1) := by decide +kernel
theorem d_law_149 : decode code 149 = .ok (.iconst 1, 1) := by decide +kernel
theorem d_law_150 : decode code 150 = .ok (.iadd, 1) := by decide +kernel
theorem d_law_151 : decode code 151 = .ok (.iaload, 1) := by decide +kernel
theorem d_law_152 : decode code 152 = .ok (.invokevirtual 34, 3) := by decide +kernel
theorem d_law_155 : decode code 155 = .ok (.pop, 1) := by decide +kernel
theorem d_law_156 : decode code 156 = .ok (.goto 147, 3) := by decide +kernel
theorem d_law_159 : decode code 159 = .ok (.aload_n 1, 1) := by decide +kernel
theorem d_law_160 : decode code 160 = .ok (.invokevirtual 35, 3) := by decide +kernel
theorem d_law_163 : decode code 163 = .ok (.pop, 1) := by decide +kernel
theorem d_law_164 : decode code 164 = .ok (.aload_n 2, 1) := by decide +kernel
theorem d_law_165 : decode code 165 = .ok (.invokevirtual 38, 3) := by decide +kernel
theorem d_law_168 : decode code 168 = .ok (.pop, 1) := by decide +kernel
theorem d_law_169 : decode code 169 = .ok (.goto 134, 3) := by decide +kernel
theorem d_law_172 : decode code 172 = .ok (.aload_n 1, 1) := by decide +kernel
theorem d_law_173 : decode code 173 = .ok (.aload_n 0, 1) := by decide +kernel
theorem d_law_174 : decode code 174 = .ok (.iload_n 3, 1) := by decide +kernel
theorem d_law_175 : decode code 175 = .ok (.iconst 1, 1) := by decide +kernel
theorem d_law_176 : decode code 176 = .ok (.iadd, 1) := by decide +kernel
theorem d_law_177 : decode code 177 = .ok (.iaload, 1) := by decide +kernel
theorem d_law_178 : decode code 178 = .ok (.invokevirtual 39, 3) := by decide +kernel
theorem d_law_181 : decode code 181 = .ok (.pop, 1) := by decide +kernel
theorem d_law_182 : decode code 182 = .ok (.aload_n 2, 1) := by decide +kernel
theorem d_law_183 : decode code 183 = .ok (.aload_n 0, 1) := by decide +kernel
theorem d_law_184 : decode code 184 = .ok (.iload_n 3, 1) := by decide +kernel
theorem d_law_185 : decode code 185 = .ok (.iconst 1, 1) := by decide +kernel
theorem d_law_186 : decode code 186 = .ok (.iadd, 1) := by decide +kernel
theorem d_law_187 : decode code 187 = .ok (.iaload, 1) := by decide +kernel
theorem d_law_188 : decode code 188 = .ok (.invokevirtual 42, 3) := by decide +kernel
theorem d_law_191 : decode code 191 = .ok (.pop, 1) := by decide +kernel
theorem d_law_192 : decode code 192 = .ok (.goto 111, 3) := by decide +kernel
theorem d_law_195 : decode code 195 = .ok (.aload_n 1, 1) := by decide +kernel
theorem d_law_196 : decode code 196 = .ok (.invokevirtual 43, 3) := by decide +kernel
theorem d_law_199 : decode code 199 = .ok (.pop, 1) := by decide +kernel
theorem d_law_200 : decode code 200 = .ok (.aload_n 2, 1) := by decide +kernel
theorem d_law_201 : decode code 201 = .ok (.invokevirtual 46, 3) := by decide +kernel
theorem d_law_204 : decode code 204 = .ok (.pop, 1) := by decide +kernel
theorem d_law_205 : decode code 205 = .ok (.goto 98, 3) := by decide +kernel
theorem d_law_208 : decode code 208 = .ok (.aload_n 1, 1) := by decide +kernel
theorem d_law_209 : decode code 209 = .ok (.aload_n 0, 1) := by decide +kernel
theorem d_law_210 : decode code 210 = .ok (.iload_n 3, 1) := by decide +kernel
theorem d_law_211 : decode code 211 = .ok (.iconst 1, 1) := by decide +kernel
theorem d_law_212 : decode code 212 = .ok (.iadd, 1) := by decide +kernel
theorem d_law_213 : decode code 213 = .ok (.iaload, 1) := by decide +kernel
theorem d_law_214 : decode code 214 = .ok (.invokevirtual 47, 3) := by decide +kernel
theorem d_law_217 : decode code 217 = .ok (.pop, 1) := by decide +kernel
theorem d_law_218 : decode code 218 = .ok (.aload_n 2, 1) := by decide +kernel
theorem d_law_219 : decode code 219 = .ok (.aload_n 0, 1) := by decide +kernel
theorem d_law_220 : decode code 220 = .ok (.iload_n 3, 1) := by decide +kernel
theorem d_law_221 : decode code 221 = .ok (.iconst 1, 1) := by decide +kernel
theorem d_law_222 : decode code 222 = .ok (.iadd, 1) := by decide +kernel
theorem d_law_223 : decode code 223 = .ok (.iaload, 1) := by decide +kernel
theorem d_law_224 : decode code 224 = .ok (.invokevirtual 50, 3) := by decide +kernel
theorem d_law_227 : decode code 227 = .ok (.pop, 1) := by decide +kernel
theorem d_law_228 : decode code 228 = .ok (.goto 75, 3) := by decide +kernel
theorem d_law_231 : decode code 231 = .ok (.aload_n 1, 1) := by decide +kernel
theorem d_law_232 : decode code 232 = .ok (.aload_n 0, 1) := by decide +kernel
theorem d_law_233 : decode code 233 = .ok (.iload_n 3, 1) := by decide +kernel
theorem d_law_234 : decode code 234 = .ok (.iconst 1, 1) := by decide +kernel
theorem d_law_235 : decode code 235 = .ok (.iadd, 1) := by decide +kernel
theorem d_law_236 : decode code 236 = .ok (.iaload, 1) := by decide +kernel
theorem d_law_237 : decode code 237 = .ok (.invokevirtual 51, 3) := by decide +kernel
theorem d_law_240 : decode code 240 = .ok (.pop, 1) := by decide +kernel
theorem d_law_241 : decode code 241 = .ok (.aload_n 2, 1) := by decide +kernel
theorem d_law_242 : decode code 242 = .ok (.aload_n 0, 1) := by decide +kernel
theorem d_law_243 : decode code 243 = .ok (.iload_n 3, 1) := by decide +kernel
theorem d_law_244 : decode code 244 = .ok (.iconst 1, 1) := by decide +kernel
theorem d_law_245 : decode code 245 = .ok (.iadd, 1) := by decide +kernel
theorem d_law_246 : decode code 246 = .ok (.iaload, 1) := by decide +kernel
theorem d_law_247 : decode code 247 = .ok (.invokevirtual 54, 3) := by decide +kernel
theorem d_law_250 : decode code 250 = .ok (.pop, 1) := by decide +kernel
theorem d_law_251 : decode code 251 = .ok (.goto 52, 3) := by decide +kernel
theorem d_law_254 : decode code 254 = .ok (.aload_n 1, 1) := by decide +kernel
theorem d_law_255 : decode code 255 = .ok (.invokevirtual 55, 3) := by decide +kernel
theorem d_law_258 : decode code 258 = .ok (.aload_n 2, 1) := by decide +kernel
theorem d_law_259 : decode code 259 = .ok (.invokevirtual 58, 3) := by decide +kernel
theorem d_law_262 : decode code 262 = .ok (.if_icmp .eq 41, 3) := by decide +kernel
theorem d_law_265 : decode code 265 = .ok (.iconst 0, 1) := by decide +kernel
theorem d_law_266 : decode code 266 = .ok (.ireturn, 1) := by decide +kernel
theorem d_law_267 : decode code 267 = .ok (.aload_n 1, 1) := by decide +kernel
theorem d_law_268 : decode code 268 = .ok (.invokevirtual 59, 3) := by decide +kernel
theorem d_law_271 : decode code 271 = .ok (.pop, 1) := by decide +kernel
theorem d_law_272 : decode code 272 = .ok (.aload_n 2, 1) := by decide +kernel
theorem d_law_273 : decode code 273 = .ok (.invokevirtual 62, 3) := by decide +kernel
theorem d_law_276 : decode code 276 = .ok (.pop, 1) := by decide +kernel
theorem d_law_277 : decode code 277 = .ok (.goto 26, 3) := by decide +kernel
theorem d_law_280 : decode code 280 = .ok (.aload_n 1, 1) := by decide +kernel
theorem d_law_281 : decode code 281 = .ok (.aload_n 0, 1) := by decide +kernel
theorem d_law_282 : decode code 282 = .ok (.iload_n 3, 1) := by decide +kernel
theorem d_law_283 : decode code 283 = .ok (.iconst 1, 1) := by decide +kernel
theorem d_law_284 : decode code 284 = .ok (.iadd, 1) := by decide +kernel
theorem d_law_285 : decode code 285 = .ok (.iaload, 1) := by decide +kernel
theorem d_law_286 : decode code 286 = .ok (.invokevirtual 63, 3) := by decide +kernel
theorem d_law_289 : decode code 289 = .ok (.pop, 1) := by decide +kernel
theorem d_law_290 : decode code 290 = .ok (.aload_n 2, 1) := by decide +kernel
theorem d_law_291 : decode code 291 = .ok (.aload_n 0, 1) := by decide +kernel
theorem d_law_292 : decode code 292 = .ok (.iload_n 3, 1) := by decide +kernel
theorem d_law_293 : decode code 293 = .ok (.iconst 1, 1) := by decide +kernel
theorem d_law_294 : decode code 294 = .ok (.iadd, 1) := by decide +kernel
theorem d_law_295 : decode code 295 = .ok (.iaload, 1) := by decide +kernel
theorem d_law_296 : decode code 296 = .ok (.invokevirtual 66, 3) := by decide +kernel
theorem d_law_299 : decode code 299 = .ok (.pop, 1) := by decide +kernel
theorem d_law_300 : decode code 300 = .ok (.goto 3, 3) := by decide +kernel
theorem d_law_303 : decode code 303 = .ok (.iinc 3 2, 3) := by decide +kernel
theorem d_law_306 : decode code 306 = .ok (.goto (-278), 3) := by decide +kernel
theorem d_law_309 : decode code 309 = .ok (.iconst 1, 1) := by decide +kernel
theorem d_law_310 : decode code 310 = .ok (.ireturn, 1) := by decide +kernel
theorem d_cell_0 : decode method_2_code 0 = .ok (.iload_n 1, 1) := by decide +kernel
theorem d_cell_1 : decode method_2_code 1 = .ok (.aload_n 0, 1) := by decide +kernel
theorem d_cell_2 : decode method_2_code 2 = .ok (.arraylength, 1) := by decide +kernel
theorem d_cell_3 : decode method_2_code 3 = .ok (.if_icmp .ge 9, 3) := by decide +kernel
theorem d_cell_6 : decode method_2_code 6 = .ok (.aload_n 0, 1) := by decide +kernel
theorem d_cell_7 : decode method_2_code 7 = .ok (.iload_n 1, 1) := by decide +kernel
theorem d_cell_8 : decode method_2_code 8 = .ok (.iaload, 1) := by decide +kernel
theorem d_cell_9 : decode method_2_code 9 = .ok (.goto 4, 3) := by decide +kernel
theorem d_cell_12 : decode method_2_code 12 = .ok (.iconst 0, 1) := by decide +kernel
theorem d_cell_13 : decode method_2_code 13 = .ok (.ireturn, 1) := by decide +kernel
