theorem d_La_cell_0 : decode method_2_code 0 = .ok (.iload_n 1, 1) := by decide +kernel
theorem d_La_cell_1 : decode method_2_code 1 = .ok (.aload_n 0, 1) := by decide +kernel
theorem d_La_cell_2 : decode method_2_code 2 = .ok (.arraylength, 1) := by decide +kernel
theorem d_La_cell_3 : decode method_2_code 3 = .ok (.if_icmp .ge 9, 3) := by decide +kernel
theorem d_La_cell_6 : decode method_2_code 6 = .ok (.aload_n 0, 1) := by decide +kernel
theorem d_La_cell_7 : decode method_2_code 7 = .ok (.iload_n 1, 1) := by decide +kernel
theorem d_La_cell_8 : decode method_2_code 8 = .ok (.iaload, 1) := by decide +kernel
theorem d_La_cell_9 : decode method_2_code 9 = .ok (.goto 4, 3) := by decide +kernel
theorem d_La_cell_12 : decode method_2_code 12 = .ok (.iconst 0, 1) := by decide +kernel
theorem d_La_cell_13 : decode method_2_code 13 = .ok (.ireturn, 1) := by decide +kernel
theorem d_La_law_0 : decode code 0 = .ok (.new 7, 3) := by decide +kernel
theorem d_La_law_3 : decode code 3 = .ok (.dup, 1) := by decide +kernel
theorem d_La_law_4 : decode code 4 = .ok (.aload_n 0, 1) := by decide +kernel
theorem d_La_law_5 : decode code 5 = .ok (.iconst 0, 1) := by decide +kernel
theorem d_La_law_6 : decode code 6 = .ok (.invokestatic 9, 3) := by decide +kernel
theorem d_La_law_9 : decode code 9 = .ok (.invokespecial 15, 3) := by decide +kernel
theorem d_La_law_12 : decode code 12 = .ok (.astore_n 1, 1) := by decide +kernel
theorem d_La_law_13 : decode code 13 = .ok (.new 18, 3) := by decide +kernel
theorem d_La_law_16 : decode code 16 = .ok (.dup, 1) := by decide +kernel
theorem d_La_law_17 : decode code 17 = .ok (.aload_n 0, 1) := by decide +kernel
theorem d_La_law_18 : decode code 18 = .ok (.iconst 0, 1) := by decide +kernel
theorem d_La_law_19 : decode code 19 = .ok (.invokestatic 9, 3) := by decide +kernel
theorem d_La_law_22 : decode code 22 = .ok (.invokespecial 20, 3) := by decide +kernel
theorem d_La_law_25 : decode code 25 = .ok (.astore_n 2, 1) := by decide +kernel
theorem d_La_law_26 : decode code 26 = .ok (.iconst 1, 1) := by decide +kernel
theorem d_La_law_27 : decode code 27 = .ok (.istore_n 3, 1) := by decide +kernel
theorem d_La_law_28 : decode code 28 = .ok (.iload_n 3, 1) := by decide +kernel
theorem d_La_law_29 : decode code 29 = .ok (.aload_n 0, 1) := by decide +kernel
theorem d_La_law_30 : decode code 30 = .ok (.arraylength, 1) := by decide +kernel
theorem d_La_law_31 : decode code 31 = .ok (.bipush 6, 2) := by decide +kernel
theorem d_La_law_33 : decode code 33 = .ok (.isub, 1) := by decide +kernel
theorem d_La_law_34 : decode code 34 = .ok (.if_icmp .gt 607, 3) := by decide +kernel
theorem d_La_law_37 : decode code 37 = .ok (.aload_n 0, 1) := by decide +kernel
theorem d_La_law_38 : decode code 38 = .ok (.iload_n 3, 1) := by decide +kernel
theorem d_La_law_39 : decode code 39 = .ok (.iaload, 1) := by decide +kernel
theorem d_La_law_40 : decode code 40 = .ok (.bipush 15, 2) := by decide +kernel
theorem d_La_law_42 : decode code 42 = .ok (.iand, 1) := by decide +kernel
theorem d_La_law_43 : decode code 43 = .ok (.tableswitch 592 0 13 #[69, 152, 195, 228, 291, 324, 387, 421, 454, 477, 500, 523, 556, 579], 69) := by decide +kernel
theorem d_La_law_112 : decode code 112 = .ok (.aload_n 1, 1) := by decide +kernel
theorem d_La_law_113 : decode code 113 = .ok (.aload_n 0, 1) := by decide +kernel
theorem d_La_law_114 : decode code 114 = .ok (.iload_n 3, 1) := by decide +kernel
theorem d_La_law_115 : decode code 115 = .ok (.iconst 1, 1) := by decide +kernel
theorem d_La_law_116 : decode code 116 = .ok (.iadd, 1) := by decide +kernel
theorem d_La_law_117 : decode code 117 = .ok (.iaload, 1) := by decide +kernel
theorem d_La_law_118 : decode code 118 = .ok (.aload_n 0, 1) := by decide +kernel
theorem d_La_law_119 : decode code 119 = .ok (.iload_n 3, 1) := by decide +kernel
theorem d_La_law_120 : decode code 120 = .ok (.iconst 2, 1) := by decide +kernel
theorem d_La_law_121 : decode code 121 = .ok (.iadd, 1) := by decide +kernel
theorem d_La_law_122 : decode code 122 = .ok (.iaload, 1) := by decide +kernel
theorem d_La_law_123 : decode code 123 = .ok (.aload_n 0, 1) := by decide +kernel
theorem d_La_law_124 : decode code 124 = .ok (.iload_n 3, 1) := by decide +kernel
theorem d_La_law_125 : decode code 125 = .ok (.iconst 3, 1) := by decide +kernel
theorem d_La_law_126 : decode code 126 = .ok (.iadd, 1) := by decide +kernel
theorem d_La_law_127 : decode code 127 = .ok (.iaload, 1) := by decide +kernel
theorem d_La_law_128 : decode code 128 = .ok (.aload_n 0, 1) := by decide +kernel
theorem d_La_law_129 : decode code 129 = .ok (.iload_n 3, 1) := by decide +kernel
theorem d_La_law_130 : decode code 130 = .ok (.iconst 4, 1) := by decide +kernel
theorem d_La_law_131 : decode code 131 = .ok (.iadd, 1) := by decide +kernel
theorem d_La_law_132 : decode code 132 = .ok (.iaload, 1) := by decide +kernel
theorem d_La_law_133 : decode code 133 = .ok (.i2l, 1) := by decide +kernel
theorem d_La_law_134 : decode code 134 = .ok (.bipush 32, 2) := by decide +kernel
theorem d_La_law_136 : decode code 136 = .ok (.lshl, 1) := by decide +kernel
theorem d_La_law_137 : decode code 137 = .ok (.aload_n 0, 1) := by decide +kernel
theorem d_La_law_138 : decode code 138 = .ok (.iload_n 3, 1) := by decide +kernel
theorem d_La_law_139 : decode code 139 = .ok (.iconst 5, 1) := by decide +kernel
theorem d_La_law_140 : decode code 140 = .ok (.iadd, 1) := by decide +kernel
theorem d_La_law_141 : decode code 141 = .ok (.iaload, 1) := by decide +kernel
theorem d_La_law_142 : decode code 142 = .ok (.i2l, 1) := by decide +kernel
theorem d_La_law_143 : decode code 143 = .ok (.ldc2_w 21, 3) := by decide +kernel
theorem d_La_law_146 : decode code 146 = .ok (.land, 1) := by decide +kernel
theorem d_La_law_147 : decode code 147 = .ok (.lor, 1) := by decide +kernel
theorem d_La_law_148 : decode code 148 = .ok (.invokevirtual 23, 3) := by decide +kernel
theorem d_La_law_151 : decode code 151 = .ok (.aload_n 2, 1) := by decide +kernel
theorem d_La_law_152 : decode code 152 = .ok (.aload_n 0, 1) := by decide +kernel
theorem d_La_law_153 : decode code 153 = .ok (.iload_n 3, 1) := by decide +kernel
theorem d_La_law_154 : decode code 154 = .ok (.iconst 1, 1) := by decide +kernel
theorem d_La_law_155 : decode code 155 = .ok (.iadd, 1) := by decide +kernel
theorem d_La_law_156 : decode code 156 = .ok (.iaload, 1) := by decide +kernel
theorem d_La_law_157 : decode code 157 = .ok (.aload_n 0, 1) := by decide +kernel
theorem d_La_law_158 : decode code 158 = .ok (.iload_n 3, 1) := by decide +kernel
theorem d_La_law_159 : decode code 159 = .ok (.iconst 2, 1) := by decide +kernel
theorem d_La_law_160 : decode code 160 = .ok (.iadd, 1) := by decide +kernel
theorem d_La_law_161 : decode code 161 = .ok (.iaload, 1) := by decide +kernel
theorem d_La_law_162 : decode code 162 = .ok (.aload_n 0, 1) := by decide +kernel
theorem d_La_law_163 : decode code 163 = .ok (.iload_n 3, 1) := by decide +kernel
theorem d_La_law_164 : decode code 164 = .ok (.iconst 3, 1) := by decide +kernel
theorem d_La_law_165 : decode code 165 = .ok (.iadd, 1) := by decide +kernel
theorem d_La_law_166 : decode code 166 = .ok (.iaload, 1) := by decide +kernel
theorem d_La_law_167 : decode code 167 = .ok (.aload_n 0, 1) := by decide +kernel
theorem d_La_law_168 : decode code 168 = .ok (.iload_n 3, 1) := by decide +kernel
theorem d_La_law_169 : decode code 169 = .ok (.iconst 4, 1) := by decide +kernel
theorem d_La_law_170 : decode code 170 = .ok (.iadd, 1) := by decide +kernel
theorem d_La_law_171 : decode code 171 = .ok (.iaload, 1) := by decide +kernel
theorem d_La_law_172 : decode code 172 = .ok (.i2l, 1) := by decide +kernel
theorem d_La_law_173 : decode code 173 = .ok (.bipush 32, 2) := by decide +kernel
theorem d_La_law_175 : decode code 175 = .ok (.lshl, 1) := by decide +kernel
theorem d_La_law_176 : decode code 176 = .ok (.aload_n 0, 1) := by decide +kernel
theorem d_La_law_177 : decode code 177 = .ok (.iload_n 3, 1) := by decide +kernel
theorem d_La_law_178 : decode code 178 = .ok (.iconst 5, 1) := by decide +kernel
theorem d_La_law_179 : decode code 179 = .ok (.iadd, 1) := by decide +kernel
theorem d_La_law_180 : decode code 180 = .ok (.iaload, 1) := by decide +kernel
theorem d_La_law_181 : decode code 181 = .ok (.i2l, 1) := by decide +kernel
theorem d_La_law_182 : decode code 182 = .ok (.ldc2_w 21, 3) := by decide +kernel
theorem d_La_law_185 : decode code 185 = .ok (.land, 1) := by decide +kernel
theorem d_La_law_186 : decode code 186 = .ok (.lor, 1) := by decide +kernel
theorem d_La_law_187 : decode code 187 = .ok (.invokevirtual 27, 3) := by decide +kernel
theorem d_La_law_190 : decode code 190 = .ok (.if_icmp .eq 445, 3) := by decide +kernel
theorem d_La_law_193 : decode code 193 = .ok (.iconst 0, 1) := by decide +kernel
theorem d_La_law_194 : decode code 194 = .ok (.ireturn, 1) := by decide +kernel
theorem d_La_law_195 : decode code 195 = .ok (.aload_n 1, 1) := by decide +kernel
theorem d_La_law_196 : decode code 196 = .ok (.aload_n 0, 1) := by decide +kernel
theorem d_La_law_197 : decode code 197 = .ok (.iload_n 3, 1) := by decide +kernel
theorem d_La_law_198 : decode code 198 = .ok (.iconst 1, 1) := by decide +kernel
theorem d_La_law_199 : decode code 199 = .ok (.iadd, 1) := by decide +kernel
theorem d_La_law_200 : decode code 200 = .ok (.iaload, 1) := by decide +kernel
theorem d_La_law_201 : decode code 201 = .ok (.aload_n 0, 1) := by decide +kernel
theorem d_La_law_202 : decode code 202 = .ok (.iload_n 3, 1) := by decide +kernel
theorem d_La_law_203 : decode code 203 = .ok (.iconst 2, 1) := by decide +kernel
theorem d_La_law_204 : decode code 204 = .ok (.iadd, 1) := by decide +kernel
theorem d_La_law_205 : decode code 205 = .ok (.iaload, 1) := by decide +kernel
theorem d_La_law_206 : decode code 206 = .ok (.aload_n 0, 1) := by decide +kernel
theorem d_La_law_207 : decode code 207 = .ok (.iload_n 3, 1) := by decide +kernel
theorem d_La_law_208 : decode code 208 = .ok (.iconst 3, 1) := by decide +kernel
theorem d_La_law_209 : decode code 209 = .ok (.iadd, 1) := by decide +kernel
theorem d_La_law_210 : decode code 210 = .ok (.iaload, 1) := by decide +kernel
theorem d_La_law_211 : decode code 211 = .ok (.invokevirtual 28, 3) := by decide +kernel
theorem d_La_law_214 : decode code 214 = .ok (.aload_n 2, 1) := by decide +kernel
theorem d_La_law_215 : decode code 215 = .ok (.aload_n 0, 1) := by decide +kernel
theorem d_La_law_216 : decode code 216 = .ok (.iload_n 3, 1) := by decide +kernel
theorem d_La_law_217 : decode code 217 = .ok (.iconst 1, 1) := by decide +kernel
theorem d_La_law_218 : decode code 218 = .ok (.iadd, 1) := by decide +kernel
theorem d_La_law_219 : decode code 219 = .ok (.iaload, 1) := by decide +kernel
theorem d_La_law_220 : decode code 220 = .ok (.aload_n 0, 1) := by decide +kernel
theorem d_La_law_221 : decode code 221 = .ok (.iload_n 3, 1) := by decide +kernel
theorem d_La_law_222 : decode code 222 = .ok (.iconst 2, 1) := by decide +kernel
theorem d_La_law_223 : decode code 223 = .ok (.iadd, 1) := by decide +kernel
theorem d_La_law_224 : decode code 224 = .ok (.iaload, 1) := by decide +kernel
theorem d_La_law_225 : decode code 225 = .ok (.aload_n 0, 1) := by decide +kernel
theorem d_La_law_226 : decode code 226 = .ok (.iload_n 3, 1) := by decide +kernel
theorem d_La_law_227 : decode code 227 = .ok (.iconst 3, 1) := by decide +kernel
theorem d_La_law_228 : decode code 228 = .ok (.iadd, 1) := by decide +kernel
theorem d_La_law_229 : decode code 229 = .ok (.iaload, 1) := by decide +kernel
theorem d_La_law_230 : decode code 230 = .ok (.invokevirtual 32, 3) := by decide +kernel
theorem d_La_law_233 : decode code 233 = .ok (.if_icmp .eq 402, 3) := by decide +kernel
theorem d_La_law_236 : decode code 236 = .ok (.iconst 0, 1) := by decide +kernel
theorem d_La_law_237 : decode code 237 = .ok (.ireturn, 1) := by decide +kernel
theorem d_La_law_238 : decode code 238 = .ok (.aload_n 1, 1) := by decide +kernel
theorem d_La_law_239 : decode code 239 = .ok (.aload_n 0, 1) := by decide +kernel
theorem d_La_law_240 : decode code 240 = .ok (.iload_n 3, 1) := by decide +kernel
theorem d_La_law_241 : decode code 241 = .ok (.iconst 1, 1) := by decide +kernel
theorem d_La_law_242 : decode code 242 = .ok (.iadd, 1) := by decide +kernel
theorem d_La_law_243 : decode code 243 = .ok (.iaload, 1) := by decide +kernel
theorem d_La_law_244 : decode code 244 = .ok (.aload_n 0, 1) := by decide +kernel
theorem d_La_law_245 : decode code 245 = .ok (.iload_n 3, 1) := by decide +kernel
theorem d_La_law_246 : decode code 246 = .ok (.iconst 2, 1) := by decide +kernel
theorem d_La_law_247 : decode code 247 = .ok (.iadd, 1) := by decide +kernel
theorem d_La_law_248 : decode code 248 = .ok (.iaload, 1) := by decide +kernel
theorem d_La_law_249 : decode code 249 = .ok (.invokevirtual 33, 3) := by decide +kernel
theorem d_La_law_252 : decode code 252 = .ok (.aload_n 2, 1) := by decide +kernel
theorem d_La_law_253 : decode code 253 = .ok (.aload_n 0, 1) := by decide +kernel
theorem d_La_law_254 : decode code 254 = .ok (.iload_n 3, 1) := by decide +kernel
theorem d_La_law_255 : decode code 255 = .ok (.iconst 1, 1) := by decide +kernel
theorem d_La_law_256 : decode code 256 = .ok (.iadd, 1) := by decide +kernel
theorem d_La_law_257 : decode code 257 = .ok (.iaload, 1) := by decide +kernel
theorem d_La_law_258 : decode code 258 = .ok (.aload_n 0, 1) := by decide +kernel
theorem d_La_law_259 : decode code 259 = .ok (.iload_n 3, 1) := by decide +kernel
theorem d_La_law_260 : decode code 260 = .ok (.iconst 2, 1) := by decide +kernel
theorem d_La_law_261 : decode code 261 = .ok (.iadd, 1) := by decide +kernel
theorem d_La_law_262 : decode code 262 = .ok (.iaload, 1) := by decide +kernel
theorem d_La_law_263 : decode code 263 = .ok (.invokevirtual 37, 3) := by decide +kernel
theorem d_La_law_266 : decode code 266 = .ok (.if_icmp .eq 369, 3) := by decide +kernel
theorem d_La_law_269 : decode code 269 = .ok (.iconst 0, 1) := by decide +kernel
theorem d_La_law_270 : decode code 270 = .ok (.ireturn, 1) := by decide +kernel
theorem d_La_law_271 : decode code 271 = .ok (.aload_n 1, 1) := by decide +kernel
theorem d_La_law_272 : decode code 272 = .ok (.aload_n 0, 1) := by decide +kernel
theorem d_La_law_273 : decode code 273 = .ok (.iload_n 3, 1) := by decide +kernel
theorem d_La_law_274 : decode code 274 = .ok (.iconst 1, 1) := by decide +kernel
theorem d_La_law_275 : decode code 275 = .ok (.iadd, 1) := by decide +kernel
theorem d_La_law_276 : decode code 276 = .ok (.iaload, 1) := by decide +kernel
theorem d_La_law_277 : decode code 277 = .ok (.aload_n 0, 1) := by decide +kernel
theorem d_La_law_278 : decode code 278 = .ok (.iload_n 3, 1) := by decide +kernel
theorem d_La_law_279 : decode code 279 = .ok (.iconst 2, 1) := by decide +kernel
theorem d_La_law_280 : decode code 280 = .ok (.iadd, 1) := by decide +kernel
theorem d_La_law_281 : decode code 281 = .ok (.iaload, 1) := by decide +kernel
theorem d_La_law_282 : decode code 282 = .ok (.i2l, 1) := by decide +kernel
theorem d_La_law_283 : decode code 283 = .ok (.bipush 32, 2) := by decide +kernel
theorem d_La_law_285 : decode code 285 = .ok (.lshl, 1) := by decide +kernel
theorem d_La_law_286 : decode code 286 = .ok (.aload_n 0, 1) := by decide +kernel
theorem d_La_law_287 : decode code 287 = .ok (.iload_n 3, 1) := by decide +kernel
theorem d_La_law_288 : decode code 288 = .ok (.iconst 3, 1) := by decide +kernel
theorem d_La_law_289 : decode code 289 = .ok (.iadd, 1) := by decide +kernel
theorem d_La_law_290 : decode code 290 = .ok (.iaload, 1) := by decide +kernel
theorem d_La_law_291 : decode code 291 = .ok (.i2l, 1) := by decide +kernel
theorem d_La_law_292 : decode code 292 = .ok (.ldc2_w 21, 3) := by decide +kernel
theorem d_La_law_295 : decode code 295 = .ok (.land, 1) := by decide +kernel
theorem d_La_law_296 : decode code 296 = .ok (.lor, 1) := by decide +kernel
theorem d_La_law_297 : decode code 297 = .ok (.invokevirtual 38, 3) := by decide +kernel
theorem d_La_law_300 : decode code 300 = .ok (.aload_n 2, 1) := by decide +kernel
theorem d_La_law_301 : decode code 301 = .ok (.aload_n 0, 1) := by decide +kernel
theorem d_La_law_302 : decode code 302 = .ok (.iload_n 3, 1) := by decide +kernel
theorem d_La_law_303 : decode code 303 = .ok (.iconst 1, 1) := by decide +kernel
theorem d_La_law_304 : decode code 304 = .ok (.iadd, 1) := by decide +kernel
theorem d_La_law_305 : decode code 305 = .ok (.iaload, 1) := by decide +kernel
theorem d_La_law_306 : decode code 306 = .ok (.aload_n 0, 1) := by decide +kernel
theorem d_La_law_307 : decode code 307 = .ok (.iload_n 3, 1) := by decide +kernel
theorem d_La_law_308 : decode code 308 = .ok (.iconst 2, 1) := by decide +kernel
theorem d_La_law_309 : decode code 309 = .ok (.iadd, 1) := by decide +kernel
theorem d_La_law_310 : decode code 310 = .ok (.iaload, 1) := by decide +kernel
theorem d_La_law_311 : decode code 311 = .ok (.i2l, 1) := by decide +kernel
theorem d_La_law_312 : decode code 312 = .ok (.bipush 32, 2) := by decide +kernel
theorem d_La_law_314 : decode code 314 = .ok (.lshl, 1) := by decide +kernel
theorem d_La_law_315 : decode code 315 = .ok (.aload_n 0, 1) := by decide +kernel
theorem d_La_law_316 : decode code 316 = .ok (.iload_n 3, 1) := by decide +kernel
theorem d_La_law_317 : decode code 317 = .ok (.iconst 3, 1) := by decide +kernel
theorem d_La_law_318 : decode code 318 = .ok (.iadd, 1) := by decide +kernel
theorem d_La_law_319 : decode code 319 = .ok (.iaload, 1) := by decide +kernel
theorem d_La_law_320 : decode code 320 = .ok (.i2l, 1) := by decide +kernel
theorem d_La_law_321 : decode code 321 = .ok (.ldc2_w 21, 3) := by decide +kernel
theorem d_La_law_324 : decode code 324 = .ok (.land, 1) := by decide +kernel
theorem d_La_law_325 : decode code 325 = .ok (.lor, 1) := by decide +kernel
theorem d_La_law_326 : decode code 326 = .ok (.invokevirtual 42, 3) := by decide +kernel
theorem d_La_law_329 : decode code 329 = .ok (.if_icmp .eq 306, 3) := by decide +kernel
theorem d_La_law_332 : decode code 332 = .ok (.iconst 0, 1) := by decide +kernel
theorem d_La_law_333 : decode code 333 = .ok (.ireturn, 1) := by decide +kernel
theorem d_La_law_334 : decode code 334 = .ok (.aload_n 1, 1) := by decide +kernel
theorem d_La_law_335 : decode code 335 = .ok (.aload_n 0, 1) := by decide +kernel
theorem d_La_law_336 : decode code 336 = .ok (.iload_n 3, 1) := by decide +kernel
theorem d_La_law_337 : decode code 337 = .ok (.iconst 1, 1) := by decide +kernel
theorem d_La_law_338 : decode code 338 = .ok (.iadd, 1) := by decide +kernel
theorem d_La_law_339 : decode code 339 = .ok (.iaload, 1) := by decide +kernel
theorem d_La_law_340 : decode code 340 = .ok (.aload_n 0, 1) := by decide +kernel
theorem d_La_law_341 : decode code 341 = .ok (.iload_n 3, 1) := by decide +kernel
theorem d_La_law_342 : decode code 342 = .ok (.iconst 2, 1) := by decide +kernel
theorem d_La_law_343 : decode code 343 = .ok (.iadd, 1) := by decide +kernel
theorem d_La_law_344 : decode code 344 = .ok (.iaload, 1) := by decide +kernel
theorem d_La_law_345 : decode code 345 = .ok (.invokevirtual 43, 3) := by decide +kernel
theorem d_La_law_348 : decode code 348 = .ok (.aload_n 2, 1) := by decide +kernel
theorem d_La_law_349 : decode code 349 = .ok (.aload_n 0, 1) := by decide +kernel
theorem d_La_law_350 : decode code 350 = .ok (.iload_n 3, 1) := by decide +kernel
theorem d_La_law_351 : decode code 351 = .ok (.iconst 1, 1) := by decide +kernel
theorem d_La_law_352 : decode code 352 = .ok (.iadd, 1) := by decide +kernel
theorem d_La_law_353 : decode code 353 = .ok (.iaload, 1) := by decide +kernel
theorem d_La_law_354 : decode code 354 = .ok (.aload_n 0, 1) := by decide +kernel
theorem d_La_law_355 : decode code 355 = .ok (.iload_n 3, 1) := by decide +kernel
theorem d_La_law_356 : decode code 356 = .ok (.iconst 2, 1) := by decide +kernel
theorem d_La_law_357 : decode code 357 = .ok (.iadd, 1) := by decide +kernel
theorem d_La_law_358 : decode code 358 = .ok (.iaload, 1) := by decide +kernel
theorem d_La_law_359 : decode code 359 = .ok (.invokevirtual 46, 3) := by decide +kernel
theorem d_La_law_362 : decode code 362 = .ok (.if_icmp .eq 273, 3) := by decide +kernel
theorem d_La_law_365 : decode code 365 = .ok (.iconst 0, 1) := by decide +kernel
theorem d_La_law_366 : decode code 366 = .ok (.ireturn, 1) := by decide +kernel
theorem d_La_law_367 : decode code 367 = .ok (.aload_n 1, 1) := by decide +kernel
theorem d_La_law_368 : decode code 368 = .ok (.aload_n 0, 1) := by decide +kernel
theorem d_La_law_369 : decode code 369 = .ok (.iload_n 3, 1) := by decide +kernel
theorem d_La_law_370 : decode code 370 = .ok (.iconst 1, 1) := by decide +kernel
theorem d_La_law_371 : decode code 371 = .ok (.iadd, 1) := by decide +kernel
theorem d_La_law_372 : decode code 372 = .ok (.iaload, 1) := by decide +kernel
theorem d_La_law_373 : decode code 373 = .ok (.i2l, 1) := by decide +kernel
theorem d_La_law_374 : decode code 374 = .ok (.bipush 32, 2) := by decide +kernel
theorem d_La_law_376 : decode code 376 = .ok (.lshl, 1) := by decide +kernel
theorem d_La_law_377 : decode code 377 = .ok (.aload_n 0, 1) := by decide +kernel
theorem d_La_law_378 : decode code 378 = .ok (.iload_n 3, 1) := by decide +kernel
theorem d_La_law_379 : decode code 379 = .ok (.iconst 2, 1) := by decide +kernel
theorem d_La_law_380 : decode code 380 = .ok (.iadd, 1) := by decide +kernel
theorem d_La_law_381 : decode code 381 = .ok (.iaload, 1) := by decide +kernel
theorem d_La_law_382 : decode code 382 = .ok (.i2l, 1) := by decide +kernel
theorem d_La_law_383 : decode code 383 = .ok (.ldc2_w 21, 3) := by decide +kernel
theorem d_La_law_386 : decode code 386 = .ok (.land, 1) := by decide +kernel
theorem d_La_law_387 : decode code 387 = .ok (.lor, 1) := by decide +kernel
theorem d_La_law_388 : decode code 388 = .ok (.aload_n 0, 1) := by decide +kernel
theorem d_La_law_389 : decode code 389 = .ok (.iload_n 3, 1) := by decide +kernel
theorem d_La_law_390 : decode code 390 = .ok (.iconst 3, 1) := by decide +kernel
theorem d_La_law_391 : decode code 391 = .ok (.iadd, 1) := by decide +kernel
theorem d_La_law_392 : decode code 392 = .ok (.iaload, 1) := by decide +kernel
theorem d_La_law_393 : decode code 393 = .ok (.invokevirtual 47, 3) := by decide +kernel
theorem d_La_law_396 : decode code 396 = .ok (.aload_n 2, 1) := by decide +kernel
theorem d_La_law_397 : decode code 397 = .ok (.aload_n 0, 1) := by decide +kernel
theorem d_La_law_398 : decode code 398 = .ok (.iload_n 3, 1) := by decide +kernel
theorem d_La_law_399 : decode code 399 = .ok (.iconst 1, 1) := by decide +kernel
theorem d_La_law_400 : decode code 400 = .ok (.iadd, 1) := by decide +kernel
theorem d_La_law_401 : decode code 401 = .ok (.iaload, 1) := by decide +kernel
theorem d_La_law_402 : decode code 402 = .ok (.i2l, 1) := by decide +kernel
theorem d_La_law_403 : decode code 403 = .ok (.bipush 32, 2) := by decide +kernel
theorem d_La_law_405 : decode code 405 = .ok (.lshl, 1) := by decide +kernel
theorem d_La_law_406 : decode code 406 = .ok (.aload_n 0, 1) := by decide +kernel
theorem d_La_law_407 : decode code 407 = .ok (.iload_n 3, 1) := by decide +kernel
theorem d_La_law_408 : decode code 408 = .ok (.iconst 2, 1) := by decide +kernel
theorem d_La_law_409 : decode code 409 = .ok (.iadd, 1) := by decide +kernel
theorem d_La_law_410 : decode code 410 = .ok (.iaload, 1) := by decide +kernel
theorem d_La_law_411 : decode code 411 = .ok (.i2l, 1) := by decide +kernel
theorem d_La_law_412 : decode code 412 = .ok (.ldc2_w 21, 3) := by decide +kernel
theorem d_La_law_415 : decode code 415 = .ok (.land, 1) := by decide +kernel
theorem d_La_law_416 : decode code 416 = .ok (.lor, 1) := by decide +kernel
theorem d_La_law_417 : decode code 417 = .ok (.aload_n 0, 1) := by decide +kernel
theorem d_La_law_418 : decode code 418 = .ok (.iload_n 3, 1) := by decide +kernel
theorem d_La_law_419 : decode code 419 = .ok (.iconst 3, 1) := by decide +kernel
theorem d_La_law_420 : decode code 420 = .ok (.iadd, 1) := by decide +kernel
theorem d_La_law_421 : decode code 421 = .ok (.iaload, 1) := by decide +kernel
theorem d_La_law_422 : decode code 422 = .ok (.invokevirtual 51, 3) := by decide +kernel
theorem d_La_law_425 : decode code 425 = .ok (.if_icmp .eq 210, 3) := by decide +kernel
theorem d_La_law_428 : decode code 428 = .ok (.iconst 0, 1) := by decide +kernel
theorem d_La_law_429 : decode code 429 = .ok (.ireturn, 1) := by decide +kernel
theorem d_La_law_430 : decode code 430 = .ok (.aload_n 1, 1) := by decide +kernel
theorem d_La_law_431 : decode code 431 = .ok (.aload_n 0, 1) := by decide +kernel
theorem d_La_law_432 : decode code 432 = .ok (.iload_n 3, 1) := by decide +kernel
theorem d_La_law_433 : decode code 433 = .ok (.iconst 1, 1) := by decide +kernel
theorem d_La_law_434 : decode code 434 = .ok (.iadd, 1) := by decide +kernel
theorem d_La_law_435 : decode code 435 = .ok (.iaload, 1) := by decide +kernel
theorem d_La_law_436 : decode code 436 = .ok (.aload_n 0, 1) := by decide +kernel
theorem d_La_law_437 : decode code 437 = .ok (.iload_n 3, 1) := by decide +kernel
theorem d_La_law_438 : decode code 438 = .ok (.iconst 2, 1) := by decide +kernel
theorem d_La_law_439 : decode code 439 = .ok (.iadd, 1) := by decide +kernel
theorem d_La_law_440 : decode code 440 = .ok (.iaload, 1) := by decide +kernel
theorem d_La_law_441 : decode code 441 = .ok (.invokevirtual 52, 3) := by decide +kernel
theorem d_La_law_444 : decode code 444 = .ok (.aload_n 2, 1) := by decide +kernel
theorem d_La_law_445 : decode code 445 = .ok (.aload_n 0, 1) := by decide +kernel
theorem d_La_law_446 : decode code 446 = .ok (.iload_n 3, 1) := by decide +kernel
theorem d_La_law_447 : decode code 447 = .ok (.iconst 1, 1) := by decide +kernel
theorem d_La_law_448 : decode code 448 = .ok (.iadd, 1) := by decide +kernel
theorem d_La_law_449 : decode code 449 = .ok (.iaload, 1) := by decide +kernel
theorem d_La_law_450 : decode code 450 = .ok (.aload_n 0, 1) := by decide +kernel
theorem d_La_law_451 : decode code 451 = .ok (.iload_n 3, 1) := by decide +kernel
theorem d_La_law_452 : decode code 452 = .ok (.iconst 2, 1) := by decide +kernel
theorem d_La_law_453 : decode code 453 = .ok (.iadd, 1) := by decide +kernel
theorem d_La_law_454 : decode code 454 = .ok (.iaload, 1) := by decide +kernel
theorem d_La_law_455 : decode code 455 = .ok (.invokevirtual 56, 3) := by decide +kernel
theorem d_La_law_458 : decode code 458 = .ok (.lcmp, 1) := by decide +kernel
theorem d_La_law_459 : decode code 459 = .ok (.ifCond .eq 176, 3) := by decide +kernel
theorem d_La_law_462 : decode code 462 = .ok (.iconst 0, 1) := by decide +kernel
theorem d_La_law_463 : decode code 463 = .ok (.ireturn, 1) := by decide +kernel
theorem d_La_law_464 : decode code 464 = .ok (.aload_n 1, 1) := by decide +kernel
theorem d_La_law_465 : decode code 465 = .ok (.aload_n 0, 1) := by decide +kernel
theorem d_La_law_466 : decode code 466 = .ok (.iload_n 3, 1) := by decide +kernel
theorem d_La_law_467 : decode code 467 = .ok (.iconst 1, 1) := by decide +kernel
theorem d_La_law_468 : decode code 468 = .ok (.iadd, 1) := by decide +kernel
theorem d_La_law_469 : decode code 469 = .ok (.iaload, 1) := by decide +kernel
theorem d_La_law_470 : decode code 470 = .ok (.aload_n 0, 1) := by decide +kernel
theorem d_La_law_471 : decode code 471 = .ok (.iload_n 3, 1) := by decide +kernel
theorem d_La_law_472 : decode code 472 = .ok (.iconst 2, 1) := by decide +kernel
theorem d_La_law_473 : decode code 473 = .ok (.iadd, 1) := by decide +kernel
theorem d_La_law_474 : decode code 474 = .ok (.iaload, 1) := by decide +kernel
theorem d_La_law_475 : decode code 475 = .ok (.invokevirtual 57, 3) := by decide +kernel
theorem d_La_law_478 : decode code 478 = .ok (.aload_n 2, 1) := by decide +kernel
theorem d_La_law_479 : decode code 479 = .ok (.aload_n 0, 1) := by decide +kernel
theorem d_La_law_480 : decode code 480 = .ok (.iload_n 3, 1) := by decide +kernel
theorem d_La_law_481 : decode code 481 = .ok (.iconst 1, 1) := by decide +kernel
theorem d_La_law_482 : decode code 482 = .ok (.iadd, 1) := by decide +kernel
theorem d_La_law_483 : decode code 483 = .ok (.iaload, 1) := by decide +kernel
theorem d_La_law_484 : decode code 484 = .ok (.aload_n 0, 1) := by decide +kernel
theorem d_La_law_485 : decode code 485 = .ok (.iload_n 3, 1) := by decide +kernel
theorem d_La_law_486 : decode code 486 = .ok (.iconst 2, 1) := by decide +kernel
theorem d_La_law_487 : decode code 487 = .ok (.iadd, 1) := by decide +kernel
theorem d_La_law_488 : decode code 488 = .ok (.iaload, 1) := by decide +kernel
theorem d_La_law_489 : decode code 489 = .ok (.invokevirtual 61, 3) := by decide +kernel
theorem d_La_law_492 : decode code 492 = .ok (.if_icmp .eq 143, 3) := by decide +kernel
theorem d_La_law_495 : decode code 495 = .ok (.iconst 0, 1) := by decide +kernel
theorem d_La_law_496 : decode code 496 = .ok (.ireturn, 1) := by decide +kernel
theorem d_La_law_497 : decode code 497 = .ok (.aload_n 1, 1) := by decide +kernel
theorem d_La_law_498 : decode code 498 = .ok (.aload_n 0, 1) := by decide +kernel
theorem d_La_law_499 : decode code 499 = .ok (.iload_n 3, 1) := by decide +kernel
theorem d_La_law_500 : decode code 500 = .ok (.iconst 1, 1) := by decide +kernel
theorem d_La_law_501 : decode code 501 = .ok (.iadd, 1) := by decide +kernel
theorem d_La_law_502 : decode code 502 = .ok (.iaload, 1) := by decide +kernel
theorem d_La_law_503 : decode code 503 = .ok (.invokevirtual 62, 3) := by decide +kernel
theorem d_La_law_506 : decode code 506 = .ok (.aload_n 2, 1) := by decide +kernel
theorem d_La_law_507 : decode code 507 = .ok (.aload_n 0, 1) := by decide +kernel
theorem d_La_law_508 : decode code 508 = .ok (.iload_n 3, 1) := by decide +kernel
theorem d_La_law_509 : decode code 509 = .ok (.iconst 1, 1) := by decide +kernel
theorem d_La_law_510 : decode code 510 = .ok (.iadd, 1) := by decide +kernel
theorem d_La_law_511 : decode code 511 = .ok (.iaload, 1) := by decide +kernel
theorem d_La_law_512 : decode code 512 = .ok (.invokevirtual 66, 3) := by decide +kernel
theorem d_La_law_515 : decode code 515 = .ok (.if_icmp .eq 120, 3) := by decide +kernel
theorem d_La_law_518 : decode code 518 = .ok (.iconst 0, 1) := by decide +kernel
theorem d_La_law_519 : decode code 519 = .ok (.ireturn, 1) := by decide +kernel
theorem d_La_law_520 : decode code 520 = .ok (.aload_n 1, 1) := by decide +kernel
theorem d_La_law_521 : decode code 521 = .ok (.aload_n 0, 1) := by decide +kernel
theorem d_La_law_522 : decode code 522 = .ok (.iload_n 3, 1) := by decide +kernel
theorem d_La_law_523 : decode code 523 = .ok (.iconst 1, 1) := by decide +kernel
theorem d_La_law_524 : decode code 524 = .ok (.iadd, 1) := by decide +kernel
theorem d_La_law_525 : decode code 525 = .ok (.iaload, 1) := by decide +kernel
theorem d_La_law_526 : decode code 526 = .ok (.invokevirtual 67, 3) := by decide +kernel
theorem d_La_law_529 : decode code 529 = .ok (.aload_n 2, 1) := by decide +kernel
theorem d_La_law_530 : decode code 530 = .ok (.aload_n 0, 1) := by decide +kernel
theorem d_La_law_531 : decode code 531 = .ok (.iload_n 3, 1) := by decide +kernel
theorem d_La_law_532 : decode code 532 = .ok (.iconst 1, 1) := by decide +kernel
theorem d_La_law_533 : decode code 533 = .ok (.iadd, 1) := by decide +kernel
theorem d_La_law_534 : decode code 534 = .ok (.iaload, 1) := by decide +kernel
theorem d_La_law_535 : decode code 535 = .ok (.invokevirtual 71, 3) := by decide +kernel
theorem d_La_law_538 : decode code 538 = .ok (.if_icmp .eq 97, 3) := by decide +kernel
theorem d_La_law_541 : decode code 541 = .ok (.iconst 0, 1) := by decide +kernel
theorem d_La_law_542 : decode code 542 = .ok (.ireturn, 1) := by decide +kernel
theorem d_La_law_543 : decode code 543 = .ok (.aload_n 1, 1) := by decide +kernel
theorem d_La_law_544 : decode code 544 = .ok (.aload_n 0, 1) := by decide +kernel
theorem d_La_law_545 : decode code 545 = .ok (.iload_n 3, 1) := by decide +kernel
theorem d_La_law_546 : decode code 546 = .ok (.iconst 1, 1) := by decide +kernel
theorem d_La_law_547 : decode code 547 = .ok (.iadd, 1) := by decide +kernel
theorem d_La_law_548 : decode code 548 = .ok (.iaload, 1) := by decide +kernel
theorem d_La_law_549 : decode code 549 = .ok (.invokevirtual 72, 3) := by decide +kernel
theorem d_La_law_552 : decode code 552 = .ok (.aload_n 2, 1) := by decide +kernel
theorem d_La_law_553 : decode code 553 = .ok (.aload_n 0, 1) := by decide +kernel
theorem d_La_law_554 : decode code 554 = .ok (.iload_n 3, 1) := by decide +kernel
theorem d_La_law_555 : decode code 555 = .ok (.iconst 1, 1) := by decide +kernel
theorem d_La_law_556 : decode code 556 = .ok (.iadd, 1) := by decide +kernel
theorem d_La_law_557 : decode code 557 = .ok (.iaload, 1) := by decide +kernel
theorem d_La_law_558 : decode code 558 = .ok (.invokevirtual 75, 3) := by decide +kernel
theorem d_La_law_561 : decode code 561 = .ok (.if_icmp .eq 74, 3) := by decide +kernel
theorem d_La_law_564 : decode code 564 = .ok (.iconst 0, 1) := by decide +kernel
theorem d_La_law_565 : decode code 565 = .ok (.ireturn, 1) := by decide +kernel
theorem d_La_law_566 : decode code 566 = .ok (.aload_n 1, 1) := by decide +kernel
theorem d_La_law_567 : decode code 567 = .ok (.aload_n 0, 1) := by decide +kernel
theorem d_La_law_568 : decode code 568 = .ok (.iload_n 3, 1) := by decide +kernel
theorem d_La_law_569 : decode code 569 = .ok (.iconst 1, 1) := by decide +kernel
theorem d_La_law_570 : decode code 570 = .ok (.iadd, 1) := by decide +kernel
theorem d_La_law_571 : decode code 571 = .ok (.iaload, 1) := by decide +kernel
theorem d_La_law_572 : decode code 572 = .ok (.aload_n 0, 1) := by decide +kernel
theorem d_La_law_573 : decode code 573 = .ok (.iload_n 3, 1) := by decide +kernel
theorem d_La_law_574 : decode code 574 = .ok (.iconst 2, 1) := by decide +kernel
theorem d_La_law_575 : decode code 575 = .ok (.iadd, 1) := by decide +kernel
theorem d_La_law_576 : decode code 576 = .ok (.iaload, 1) := by decide +kernel
theorem d_La_law_577 : decode code 577 = .ok (.invokevirtual 76, 3) := by decide +kernel
theorem d_La_law_580 : decode code 580 = .ok (.aload_n 2, 1) := by decide +kernel
theorem d_La_law_581 : decode code 581 = .ok (.aload_n 0, 1) := by decide +kernel
theorem d_La_law_582 : decode code 582 = .ok (.iload_n 3, 1) := by decide +kernel
theorem d_La_law_583 : decode code 583 = .ok (.iconst 1, 1) := by decide +kernel
theorem d_La_law_584 : decode code 584 = .ok (.iadd, 1) := by decide +kernel
theorem d_La_law_585 : decode code 585 = .ok (.iaload, 1) := by decide +kernel
theorem d_La_law_586 : decode code 586 = .ok (.aload_n 0, 1) := by decide +kernel
theorem d_La_law_587 : decode code 587 = .ok (.iload_n 3, 1) := by decide +kernel
theorem d_La_law_588 : decode code 588 = .ok (.iconst 2, 1) := by decide +kernel
theorem d_La_law_589 : decode code 589 = .ok (.iadd, 1) := by decide +kernel
theorem d_La_law_590 : decode code 590 = .ok (.iaload, 1) := by decide +kernel
theorem d_La_law_591 : decode code 591 = .ok (.invokevirtual 79, 3) := by decide +kernel
theorem d_La_law_594 : decode code 594 = .ok (.if_icmp .eq 41, 3) := by decide +kernel
theorem d_La_law_597 : decode code 597 = .ok (.iconst 0, 1) := by decide +kernel
theorem d_La_law_598 : decode code 598 = .ok (.ireturn, 1) := by decide +kernel
theorem d_La_law_599 : decode code 599 = .ok (.aload_n 1, 1) := by decide +kernel
theorem d_La_law_600 : decode code 600 = .ok (.aload_n 0, 1) := by decide +kernel
theorem d_La_law_601 : decode code 601 = .ok (.iload_n 3, 1) := by decide +kernel
theorem d_La_law_602 : decode code 602 = .ok (.iconst 1, 1) := by decide +kernel
theorem d_La_law_603 : decode code 603 = .ok (.iadd, 1) := by decide +kernel
theorem d_La_law_604 : decode code 604 = .ok (.iaload, 1) := by decide +kernel
theorem d_La_law_605 : decode code 605 = .ok (.invokevirtual 80, 3) := by decide +kernel
theorem d_La_law_608 : decode code 608 = .ok (.aload_n 2, 1) := by decide +kernel
theorem d_La_law_609 : decode code 609 = .ok (.aload_n 0, 1) := by decide +kernel
theorem d_La_law_610 : decode code 610 = .ok (.iload_n 3, 1) := by decide +kernel
theorem d_La_law_611 : decode code 611 = .ok (.iconst 1, 1) := by decide +kernel
theorem d_La_law_612 : decode code 612 = .ok (.iadd, 1) := by decide +kernel
theorem d_La_law_613 : decode code 613 = .ok (.iaload, 1) := by decide +kernel
theorem d_La_law_614 : decode code 614 = .ok (.invokevirtual 83, 3) := by decide +kernel
theorem d_La_law_617 : decode code 617 = .ok (.if_icmp .eq 18, 3) := by decide +kernel
theorem d_La_law_620 : decode code 620 = .ok (.iconst 0, 1) := by decide +kernel
theorem d_La_law_621 : decode code 621 = .ok (.ireturn, 1) := by decide +kernel
theorem d_La_law_622 : decode code 622 = .ok (.aload_n 1, 1) := by decide +kernel
theorem d_La_law_623 : decode code 623 = .ok (.invokevirtual 84, 3) := by decide +kernel
theorem d_La_law_626 : decode code 626 = .ok (.aload_n 2, 1) := by decide +kernel
theorem d_La_law_627 : decode code 627 = .ok (.invokevirtual 88, 3) := by decide +kernel
theorem d_La_law_630 : decode code 630 = .ok (.if_icmp .eq 5, 3) := by decide +kernel
theorem d_La_law_633 : decode code 633 = .ok (.iconst 0, 1) := by decide +kernel
theorem d_La_law_634 : decode code 634 = .ok (.ireturn, 1) := by decide +kernel
theorem d_La_law_635 : decode code 635 = .ok (.iinc 3 6, 3) := by decide +kernel
theorem d_La_law_638 : decode code 638 = .ok (.goto (-610), 3) := by decide +kernel
theorem d_La_law_641 : decode code 641 = .ok (.iconst 1, 1) := by decide +kernel
theorem d_La_law_642 : decode code 642 = .ok (.ireturn, 1) := by decide +kernel
