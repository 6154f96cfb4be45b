theorem nd_L_law_0 : decode nb_L_law 0 = .ok (.new 8, 3) := by decide +kernel
theorem nd_L_law_3 : decode nb_L_law 3 = .ok (.dup, 1) := by decide +kernel
theorem nd_L_law_4 : decode nb_L_law 4 = .ok (.invokespecial 58, 3) := by decide +kernel
theorem nd_L_law_7 : decode nb_L_law 7 = .ok (.astore_n 1, 1) := by decide +kernel
theorem nd_L_law_8 : decode nb_L_law 8 = .ok (.new 59, 3) := by decide +kernel
theorem nd_L_law_11 : decode nb_L_law 11 = .ok (.dup, 1) := by decide +kernel
theorem nd_L_law_12 : decode nb_L_law 12 = .ok (.invokespecial 61, 3) := by decide +kernel
theorem nd_L_law_15 : decode nb_L_law 15 = .ok (.astore_n 2, 1) := by decide +kernel
theorem nd_L_law_16 : decode nb_L_law 16 = .ok (.iconst 1, 1) := by decide +kernel
theorem nd_L_law_17 : decode nb_L_law 17 = .ok (.newarray .long, 2) := by decide +kernel
theorem nd_L_law_19 : decode nb_L_law 19 = .ok (.astore_n 3, 1) := by decide +kernel
theorem nd_L_law_20 : decode nb_L_law 20 = .ok (.iconst 0, 1) := by decide +kernel
theorem nd_L_law_21 : decode nb_L_law 21 = .ok (.istore 4, 2) := by decide +kernel
theorem nd_L_law_23 : decode nb_L_law 23 = .ok (.iload 4, 2) := by decide +kernel
theorem nd_L_law_25 : decode nb_L_law 25 = .ok (.aload_n 0, 1) := by decide +kernel
theorem nd_L_law_26 : decode nb_L_law 26 = .ok (.arraylength, 1) := by decide +kernel
theorem nd_L_law_27 : decode nb_L_law 27 = .ok (.bipush 7, 2) := by decide +kernel
theorem nd_L_law_29 : decode nb_L_law 29 = .ok (.isub, 1) := by decide +kernel
theorem nd_L_law_30 : decode nb_L_law 30 = .ok (.if_icmp .gt 1055, 3) := by decide +kernel
theorem nd_L_law_33 : decode nb_L_law 33 = .ok (.aload_n 0, 1) := by decide +kernel
theorem nd_L_law_34 : decode nb_L_law 34 = .ok (.iload 4, 2) := by decide +kernel
theorem nd_L_law_36 : decode nb_L_law 36 = .ok (.iaload, 1) := by decide +kernel
theorem nd_L_law_37 : decode nb_L_law 37 = .ok (.bipush 15, 2) := by decide +kernel
theorem nd_L_law_39 : decode nb_L_law 39 = .ok (.iand, 1) := by decide +kernel
theorem nd_L_law_40 : decode nb_L_law 40 = .ok (.tableswitch 1039 0 10 #[60, 172, 284, 407, 474, 566, 724, 780, 835, 871, 983], 60) := by decide +kernel
theorem nd_L_law_100 : decode nb_L_law 100 = .ok (.aload_n 1, 1) := by decide +kernel
theorem nd_L_law_101 : decode nb_L_law 101 = .ok (.aload_n 0, 1) := by decide +kernel
theorem nd_L_law_102 : decode nb_L_law 102 = .ok (.iload 4, 2) := by decide +kernel
theorem nd_L_law_104 : decode nb_L_law 104 = .ok (.iconst 1, 1) := by decide +kernel
theorem nd_L_law_105 : decode nb_L_law 105 = .ok (.iadd, 1) := by decide +kernel
theorem nd_L_law_106 : decode nb_L_law 106 = .ok (.iaload, 1) := by decide +kernel
theorem nd_L_law_107 : decode nb_L_law 107 = .ok (.aload_n 0, 1) := by decide +kernel
theorem nd_L_law_108 : decode nb_L_law 108 = .ok (.iload 4, 2) := by decide +kernel
theorem nd_L_law_110 : decode nb_L_law 110 = .ok (.iconst 2, 1) := by decide +kernel
theorem nd_L_law_111 : decode nb_L_law 111 = .ok (.iadd, 1) := by decide +kernel
theorem nd_L_law_112 : decode nb_L_law 112 = .ok (.iaload, 1) := by decide +kernel
theorem nd_L_law_113 : decode nb_L_law 113 = .ok (.aload_n 0, 1) := by decide +kernel
theorem nd_L_law_114 : decode nb_L_law 114 = .ok (.iload 4, 2) := by decide +kernel
theorem nd_L_law_116 : decode nb_L_law 116 = .ok (.iconst 3, 1) := by decide +kernel
theorem nd_L_law_117 : decode nb_L_law 117 = .ok (.iadd, 1) := by decide +kernel
theorem nd_L_law_118 : decode nb_L_law 118 = .ok (.iaload, 1) := by decide +kernel
theorem nd_L_law_119 : decode nb_L_law 119 = .ok (.i2l, 1) := by decide +kernel
theorem nd_L_law_120 : decode nb_L_law 120 = .ok (.bipush 32, 2) := by decide +kernel
theorem nd_L_law_122 : decode nb_L_law 122 = .ok (.lshl, 1) := by decide +kernel
theorem nd_L_law_123 : decode nb_L_law 123 = .ok (.aload_n 0, 1) := by decide +kernel
theorem nd_L_law_124 : decode nb_L_law 124 = .ok (.iload 4, 2) := by decide +kernel
theorem nd_L_law_126 : decode nb_L_law 126 = .ok (.iconst 4, 1) := by decide +kernel
theorem nd_L_law_127 : decode nb_L_law 127 = .ok (.iadd, 1) := by decide +kernel
theorem nd_L_law_128 : decode nb_L_law 128 = .ok (.iaload, 1) := by decide +kernel
theorem nd_L_law_129 : decode nb_L_law 129 = .ok (.i2l, 1) := by decide +kernel
theorem nd_L_law_130 : decode nb_L_law 130 = .ok (.ldc2_w 62, 3) := by decide +kernel
theorem nd_L_law_133 : decode nb_L_law 133 = .ok (.land, 1) := by decide +kernel
theorem nd_L_law_134 : decode nb_L_law 134 = .ok (.lor, 1) := by decide +kernel
theorem nd_L_law_135 : decode nb_L_law 135 = .ok (.aload_n 3, 1) := by decide +kernel
theorem nd_L_law_136 : decode nb_L_law 136 = .ok (.invokestatic 64, 3) := by decide +kernel
theorem nd_L_law_139 : decode nb_L_law 139 = .ok (.istore 5, 2) := by decide +kernel
theorem nd_L_law_141 : decode nb_L_law 141 = .ok (.aload_n 2, 1) := by decide +kernel
theorem nd_L_law_142 : decode nb_L_law 142 = .ok (.aload_n 0, 1) := by decide +kernel
theorem nd_L_law_143 : decode nb_L_law 143 = .ok (.iload 4, 2) := by decide +kernel
theorem nd_L_law_145 : decode nb_L_law 145 = .ok (.iconst 1, 1) := by decide +kernel
theorem nd_L_law_146 : decode nb_L_law 146 = .ok (.iadd, 1) := by decide +kernel
theorem nd_L_law_147 : decode nb_L_law 147 = .ok (.iaload, 1) := by decide +kernel
theorem nd_L_law_148 : decode nb_L_law 148 = .ok (.aload_n 0, 1) := by decide +kernel
theorem nd_L_law_149 : decode nb_L_law 149 = .ok (.iload 4, 2) := by decide +kernel
theorem nd_L_law_151 : decode nb_L_law 151 = .ok (.iconst 2, 1) := by decide +kernel
theorem nd_L_law_152 : decode nb_L_law 152 = .ok (.iadd, 1) := by decide +kernel
theorem nd_L_law_153 : decode nb_L_law 153 = .ok (.iaload, 1) := by decide +kernel
theorem nd_L_law_154 : decode nb_L_law 154 = .ok (.aload_n 0, 1) := by decide +kernel
theorem nd_L_law_155 : decode nb_L_law 155 = .ok (.iload 4, 2) := by decide +kernel
theorem nd_L_law_157 : decode nb_L_law 157 = .ok (.iconst 3, 1) := by decide +kernel
theorem nd_L_law_158 : decode nb_L_law 158 = .ok (.iadd, 1) := by decide +kernel
theorem nd_L_law_159 : decode nb_L_law 159 = .ok (.iaload, 1) := by decide +kernel
theorem nd_L_law_160 : decode nb_L_law 160 = .ok (.i2l, 1) := by decide +kernel
theorem nd_L_law_161 : decode nb_L_law 161 = .ok (.bipush 32, 2) := by decide +kernel
theorem nd_L_law_163 : decode nb_L_law 163 = .ok (.lshl, 1) := by decide +kernel
theorem nd_L_law_164 : decode nb_L_law 164 = .ok (.aload_n 0, 1) := by decide +kernel
theorem nd_L_law_165 : decode nb_L_law 165 = .ok (.iload 4, 2) := by decide +kernel
theorem nd_L_law_167 : decode nb_L_law 167 = .ok (.iconst 4, 1) := by decide +kernel
theorem nd_L_law_168 : decode nb_L_law 168 = .ok (.iadd, 1) := by decide +kernel
theorem nd_L_law_169 : decode nb_L_law 169 = .ok (.iaload, 1) := by decide +kernel
theorem nd_L_law_170 : decode nb_L_law 170 = .ok (.i2l, 1) := by decide +kernel
theorem nd_L_law_171 : decode nb_L_law 171 = .ok (.ldc2_w 62, 3) := by decide +kernel
theorem nd_L_law_174 : decode nb_L_law 174 = .ok (.land, 1) := by decide +kernel
theorem nd_L_law_175 : decode nb_L_law 175 = .ok (.lor, 1) := by decide +kernel
theorem nd_L_law_176 : decode nb_L_law 176 = .ok (.invokevirtual 69, 3) := by decide +kernel
theorem nd_L_law_179 : decode nb_L_law 179 = .ok (.istore 6, 2) := by decide +kernel
theorem nd_L_law_181 : decode nb_L_law 181 = .ok (.aload_n 2, 1) := by decide +kernel
theorem nd_L_law_182 : decode nb_L_law 182 = .ok (.invokevirtual 70, 3) := by decide +kernel
theorem nd_L_law_185 : decode nb_L_law 185 = .ok (.iload 5, 2) := by decide +kernel
theorem nd_L_law_187 : decode nb_L_law 187 = .ok (.if_icmp .eq 5, 3) := by decide +kernel
theorem nd_L_law_190 : decode nb_L_law 190 = .ok (.iconst 0, 1) := by decide +kernel
theorem nd_L_law_191 : decode nb_L_law 191 = .ok (.ireturn, 1) := by decide +kernel
theorem nd_L_law_192 : decode nb_L_law 192 = .ok (.iload 5, 2) := by decide +kernel
theorem nd_L_law_194 : decode nb_L_law 194 = .ok (.ifCond .ne 15, 3) := by decide +kernel
theorem nd_L_law_197 : decode nb_L_law 197 = .ok (.aload_n 3, 1) := by decide +kernel
theorem nd_L_law_198 : decode nb_L_law 198 = .ok (.iconst 0, 1) := by decide +kernel
theorem nd_L_law_199 : decode nb_L_law 199 = .ok (.laload, 1) := by decide +kernel
theorem nd_L_law_200 : decode nb_L_law 200 = .ok (.iload 6, 2) := by decide +kernel
theorem nd_L_law_202 : decode nb_L_law 202 = .ok (.i2l, 1) := by decide +kernel
theorem nd_L_law_203 : decode nb_L_law 203 = .ok (.lcmp, 1) := by decide +kernel
theorem nd_L_law_204 : decode nb_L_law 204 = .ok (.ifCond .eq 5, 3) := by decide +kernel
theorem nd_L_law_207 : decode nb_L_law 207 = .ok (.iconst 0, 1) := by decide +kernel
theorem nd_L_law_208 : decode nb_L_law 208 = .ok (.ireturn, 1) := by decide +kernel
theorem nd_L_law_209 : decode nb_L_law 209 = .ok (.goto 870, 3) := by decide +kernel
theorem nd_L_law_212 : decode nb_L_law 212 = .ok (.aload_n 1, 1) := by decide +kernel
theorem nd_L_law_213 : decode nb_L_law 213 = .ok (.aload_n 0, 1) := by decide +kernel
theorem nd_L_law_214 : decode nb_L_law 214 = .ok (.iload 4, 2) := by decide +kernel
theorem nd_L_law_216 : decode nb_L_law 216 = .ok (.iconst 1, 1) := by decide +kernel
theorem nd_L_law_217 : decode nb_L_law 217 = .ok (.iadd, 1) := by decide +kernel
theorem nd_L_law_218 : decode nb_L_law 218 = .ok (.iaload, 1) := by decide +kernel
theorem nd_L_law_219 : decode nb_L_law 219 = .ok (.aload_n 0, 1) := by decide +kernel
theorem nd_L_law_220 : decode nb_L_law 220 = .ok (.iload 4, 2) := by decide +kernel
theorem nd_L_law_222 : decode nb_L_law 222 = .ok (.iconst 2, 1) := by decide +kernel
theorem nd_L_law_223 : decode nb_L_law 223 = .ok (.iadd, 1) := by decide +kernel
theorem nd_L_law_224 : decode nb_L_law 224 = .ok (.iaload, 1) := by decide +kernel
theorem nd_L_law_225 : decode nb_L_law 225 = .ok (.aload_n 0, 1) := by decide +kernel
theorem nd_L_law_226 : decode nb_L_law 226 = .ok (.iload 4, 2) := by decide +kernel
theorem nd_L_law_228 : decode nb_L_law 228 = .ok (.iconst 3, 1) := by decide +kernel
theorem nd_L_law_229 : decode nb_L_law 229 = .ok (.iadd, 1) := by decide +kernel
theorem nd_L_law_230 : decode nb_L_law 230 = .ok (.iaload, 1) := by decide +kernel
theorem nd_L_law_231 : decode nb_L_law 231 = .ok (.i2l, 1) := by decide +kernel
theorem nd_L_law_232 : decode nb_L_law 232 = .ok (.bipush 32, 2) := by decide +kernel
theorem nd_L_law_234 : decode nb_L_law 234 = .ok (.lshl, 1) := by decide +kernel
theorem nd_L_law_235 : decode nb_L_law 235 = .ok (.aload_n 0, 1) := by decide +kernel
theorem nd_L_law_236 : decode nb_L_law 236 = .ok (.iload 4, 2) := by decide +kernel
theorem nd_L_law_238 : decode nb_L_law 238 = .ok (.iconst 4, 1) := by decide +kernel
theorem nd_L_law_239 : decode nb_L_law 239 = .ok (.iadd, 1) := by decide +kernel
theorem nd_L_law_240 : decode nb_L_law 240 = .ok (.iaload, 1) := by decide +kernel
theorem nd_L_law_241 : decode nb_L_law 241 = .ok (.i2l, 1) := by decide +kernel
theorem nd_L_law_242 : decode nb_L_law 242 = .ok (.ldc2_w 62, 3) := by decide +kernel
theorem nd_L_law_245 : decode nb_L_law 245 = .ok (.land, 1) := by decide +kernel
theorem nd_L_law_246 : decode nb_L_law 246 = .ok (.lor, 1) := by decide +kernel
theorem nd_L_law_247 : decode nb_L_law 247 = .ok (.aload_n 3, 1) := by decide +kernel
theorem nd_L_law_248 : decode nb_L_law 248 = .ok (.invokestatic 74, 3) := by decide +kernel
theorem nd_L_law_251 : decode nb_L_law 251 = .ok (.istore 5, 2) := by decide +kernel
theorem nd_L_law_253 : decode nb_L_law 253 = .ok (.aload_n 2, 1) := by decide +kernel
theorem nd_L_law_254 : decode nb_L_law 254 = .ok (.aload_n 0, 1) := by decide +kernel
theorem nd_L_law_255 : decode nb_L_law 255 = .ok (.iload 4, 2) := by decide +kernel
theorem nd_L_law_257 : decode nb_L_law 257 = .ok (.iconst 1, 1) := by decide +kernel
theorem nd_L_law_258 : decode nb_L_law 258 = .ok (.iadd, 1) := by decide +kernel
theorem nd_L_law_259 : decode nb_L_law 259 = .ok (.iaload, 1) := by decide +kernel
theorem nd_L_law_260 : decode nb_L_law 260 = .ok (.aload_n 0, 1) := by decide +kernel
theorem nd_L_law_261 : decode nb_L_law 261 = .ok (.iload 4, 2) := by decide +kernel
theorem nd_L_law_263 : decode nb_L_law 263 = .ok (.iconst 2, 1) := by decide +kernel
theorem nd_L_law_264 : decode nb_L_law 264 = .ok (.iadd, 1) := by decide +kernel
theorem nd_L_law_265 : decode nb_L_law 265 = .ok (.iaload, 1) := by decide +kernel
theorem nd_L_law_266 : decode nb_L_law 266 = .ok (.aload_n 0, 1) := by decide +kernel
theorem nd_L_law_267 : decode nb_L_law 267 = .ok (.iload 4, 2) := by decide +kernel
theorem nd_L_law_269 : decode nb_L_law 269 = .ok (.iconst 3, 1) := by decide +kernel
theorem nd_L_law_270 : decode nb_L_law 270 = .ok (.iadd, 1) := by decide +kernel
theorem nd_L_law_271 : decode nb_L_law 271 = .ok (.iaload, 1) := by decide +kernel
theorem nd_L_law_272 : decode nb_L_law 272 = .ok (.i2l, 1) := by decide +kernel
theorem nd_L_law_273 : decode nb_L_law 273 = .ok (.bipush 32, 2) := by decide +kernel
theorem nd_L_law_275 : decode nb_L_law 275 = .ok (.lshl, 1) := by decide +kernel
theorem nd_L_law_276 : decode nb_L_law 276 = .ok (.aload_n 0, 1) := by decide +kernel
theorem nd_L_law_277 : decode nb_L_law 277 = .ok (.iload 4, 2) := by decide +kernel
theorem nd_L_law_279 : decode nb_L_law 279 = .ok (.iconst 4, 1) := by decide +kernel
theorem nd_L_law_280 : decode nb_L_law 280 = .ok (.iadd, 1) := by decide +kernel
theorem nd_L_law_281 : decode nb_L_law 281 = .ok (.iaload, 1) := by decide +kernel
theorem nd_L_law_282 : decode nb_L_law 282 = .ok (.i2l, 1) := by decide +kernel
theorem nd_L_law_283 : decode nb_L_law 283 = .ok (.ldc2_w 62, 3) := by decide +kernel
theorem nd_L_law_286 : decode nb_L_law 286 = .ok (.land, 1) := by decide +kernel
theorem nd_L_law_287 : decode nb_L_law 287 = .ok (.lor, 1) := by decide +kernel
theorem nd_L_law_288 : decode nb_L_law 288 = .ok (.invokevirtual 76, 3) := by decide +kernel
theorem nd_L_law_291 : decode nb_L_law 291 = .ok (.istore 6, 2) := by decide +kernel
theorem nd_L_law_293 : decode nb_L_law 293 = .ok (.aload_n 2, 1) := by decide +kernel
theorem nd_L_law_294 : decode nb_L_law 294 = .ok (.invokevirtual 70, 3) := by decide +kernel
theorem nd_L_law_297 : decode nb_L_law 297 = .ok (.iload 5, 2) := by decide +kernel
theorem nd_L_law_299 : decode nb_L_law 299 = .ok (.if_icmp .eq 5, 3) := by decide +kernel
theorem nd_L_law_302 : decode nb_L_law 302 = .ok (.iconst 0, 1) := by decide +kernel
theorem nd_L_law_303 : decode nb_L_law 303 = .ok (.ireturn, 1) := by decide +kernel
theorem nd_L_law_304 : decode nb_L_law 304 = .ok (.iload 5, 2) := by decide +kernel
theorem nd_L_law_306 : decode nb_L_law 306 = .ok (.ifCond .ne 15, 3) := by decide +kernel
theorem nd_L_law_309 : decode nb_L_law 309 = .ok (.aload_n 3, 1) := by decide +kernel
theorem nd_L_law_310 : decode nb_L_law 310 = .ok (.iconst 0, 1) := by decide +kernel
theorem nd_L_law_311 : decode nb_L_law 311 = .ok (.laload, 1) := by decide +kernel
