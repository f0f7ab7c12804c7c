-- decode rows (laid by gen/names.py)
theorem d_La_law_0 : decode b_La_law 0 = .ok (.new 7, 3) := by decide +kernel
theorem d_La_law_3 : decode b_La_law 3 = .ok (.dup, 1) := by decide +kernel
theorem d_La_law_4 : decode b_La_law 4 = .ok (.invokespecial 9, 3) := by decide +kernel
theorem d_La_law_7 : decode b_La_law 7 = .ok (.astore_n 1, 1) := by decide +kernel
theorem d_La_law_8 : decode b_La_law 8 = .ok (.new 10, 3) := by decide +kernel
theorem d_La_law_11 : decode b_La_law 11 = .ok (.dup, 1) := by decide +kernel
theorem d_La_law_12 : decode b_La_law 12 = .ok (.invokespecial 12, 3) := by decide +kernel
theorem d_La_law_15 : decode b_La_law 15 = .ok (.astore_n 2, 1) := by decide +kernel
theorem d_La_law_16 : decode b_La_law 16 = .ok (.iconst 0, 1) := by decide +kernel
theorem d_La_law_17 : decode b_La_law 17 = .ok (.istore_n 3, 1) := by decide +kernel
theorem d_La_law_18 : decode b_La_law 18 = .ok (.iload_n 3, 1) := by decide +kernel
theorem d_La_law_19 : decode b_La_law 19 = .ok (.aload_n 0, 1) := by decide +kernel
theorem d_La_law_20 : decode b_La_law 20 = .ok (.arraylength, 1) := by decide +kernel
theorem d_La_law_21 : decode b_La_law 21 = .ok (.iconst 4, 1) := by decide +kernel
theorem d_La_law_22 : decode b_La_law 22 = .ok (.isub, 1) := by decide +kernel
theorem d_La_law_23 : decode b_La_law 23 = .ok (.if_icmp .gt 526, 3) := by decide +kernel
theorem d_La_law_26 : decode b_La_law 26 = .ok (.aload_n 0, 1) := by decide +kernel
theorem d_La_law_27 : decode b_La_law 27 = .ok (.iload_n 3, 1) := by decide +kernel
theorem d_La_law_28 : decode b_La_law 28 = .ok (.iaload, 1) := by decide +kernel
theorem d_La_law_29 : decode b_La_law 29 = .ok (.bipush 15, 2) := by decide +kernel
theorem d_La_law_31 : decode b_La_law 31 = .ok (.iand, 1) := by decide +kernel
theorem d_La_law_32 : decode b_La_law 32 = .ok (.tableswitch 511 0 14 #[76, 119, 152, 185, 208, 241, 274, 297, 330, 353, 376, 409, 422, 455, 478], 76) := by decide +kernel
theorem d_La_law_108 : decode b_La_law 108 = .ok (.aload_n 1, 1) := by decide +kernel
theorem d_La_law_109 : decode b_La_law 109 = .ok (.aload_n 0, 1) := by decide +kernel
theorem d_La_law_110 : decode b_La_law 110 = .ok (.iload_n 3, 1) := by decide +kernel
theorem d_La_law_111 : decode b_La_law 111 = .ok (.iconst 1, 1) := by decide +kernel
theorem d_La_law_112 : decode b_La_law 112 = .ok (.iadd, 1) := by decide +kernel
theorem d_La_law_113 : decode b_La_law 113 = .ok (.iaload, 1) := by decide +kernel
theorem d_La_law_114 : decode b_La_law 114 = .ok (.aload_n 0, 1) := by decide +kernel
theorem d_La_law_115 : decode b_La_law 115 = .ok (.iload_n 3, 1) := by decide +kernel
theorem d_La_law_116 : decode b_La_law 116 = .ok (.iconst 2, 1) := by decide +kernel
theorem d_La_law_117 : decode b_La_law 117 = .ok (.iadd, 1) := by decide +kernel
theorem d_La_law_118 : decode b_La_law 118 = .ok (.iaload, 1) := by decide +kernel
theorem d_La_law_119 : decode b_La_law 119 = .ok (.aload_n 0, 1) := by decide +kernel
theorem d_La_law_120 : decode b_La_law 120 = .ok (.iload_n 3, 1) := by decide +kernel
theorem d_La_law_121 : decode b_La_law 121 = .ok (.iconst 3, 1) := by decide +kernel
theorem d_La_law_122 : decode b_La_law 122 = .ok (.iadd, 1) := by decide +kernel
theorem d_La_law_123 : decode b_La_law 123 = .ok (.iaload, 1) := by decide +kernel
theorem d_La_law_124 : decode b_La_law 124 = .ok (.invokevirtual 13, 3) := by decide +kernel
theorem d_La_law_127 : decode b_La_law 127 = .ok (.aload_n 2, 1) := by decide +kernel
theorem d_La_law_128 : decode b_La_law 128 = .ok (.aload_n 0, 1) := by decide +kernel
theorem d_La_law_129 : decode b_La_law 129 = .ok (.iload_n 3, 1) := by decide +kernel
theorem d_La_law_130 : decode b_La_law 130 = .ok (.iconst 1, 1) := by decide +kernel
theorem d_La_law_131 : decode b_La_law 131 = .ok (.iadd, 1) := by decide +kernel
theorem d_La_law_132 : decode b_La_law 132 = .ok (.iaload, 1) := by decide +kernel
theorem d_La_law_133 : decode b_La_law 133 = .ok (.aload_n 0, 1) := by decide +kernel
theorem d_La_law_134 : decode b_La_law 134 = .ok (.iload_n 3, 1) := by decide +kernel
theorem d_La_law_135 : decode b_La_law 135 = .ok (.iconst 2, 1) := by decide +kernel
theorem d_La_law_136 : decode b_La_law 136 = .ok (.iadd, 1) := by decide +kernel
theorem d_La_law_137 : decode b_La_law 137 = .ok (.iaload, 1) := by decide +kernel
theorem d_La_law_138 : decode b_La_law 138 = .ok (.aload_n 0, 1) := by decide +kernel
theorem d_La_law_139 : decode b_La_law 139 = .ok (.iload_n 3, 1) := by decide +kernel
theorem d_La_law_140 : decode b_La_law 140 = .ok (.iconst 3, 1) := by decide +kernel
theorem d_La_law_141 : decode b_La_law 141 = .ok (.iadd, 1) := by decide +kernel
theorem d_La_law_142 : decode b_La_law 142 = .ok (.iaload, 1) := by decide +kernel
theorem d_La_law_143 : decode b_La_law 143 = .ok (.invokevirtual 17, 3) := by decide +kernel
theorem d_La_law_146 : decode b_La_law 146 = .ok (.if_icmp .eq 397, 3) := by decide +kernel
theorem d_La_law_149 : decode b_La_law 149 = .ok (.iconst 0, 1) := by decide +kernel
theorem d_La_law_150 : decode b_La_law 150 = .ok (.ireturn, 1) := by decide +kernel
theorem d_La_law_151 : decode b_La_law 151 = .ok (.aload_n 1, 1) := by decide +kernel
theorem d_La_law_152 : decode b_La_law 152 = .ok (.aload_n 0, 1) := by decide +kernel
theorem d_La_law_153 : decode b_La_law 153 = .ok (.iload_n 3, 1) := by decide +kernel
theorem d_La_law_154 : decode b_La_law 154 = .ok (.iconst 1, 1) := by decide +kernel
theorem d_La_law_155 : decode b_La_law 155 = .ok (.iadd, 1) := by decide +kernel
theorem d_La_law_156 : decode b_La_law 156 = .ok (.iaload, 1) := by decide +kernel
theorem d_La_law_157 : decode b_La_law 157 = .ok (.aload_n 0, 1) := by decide +kernel
theorem d_La_law_158 : decode b_La_law 158 = .ok (.iload_n 3, 1) := by decide +kernel
theorem d_La_law_159 : decode b_La_law 159 = .ok (.iconst 2, 1) := by decide +kernel
theorem d_La_law_160 : decode b_La_law 160 = .ok (.iadd, 1) := by decide +kernel
theorem d_La_law_161 : decode b_La_law 161 = .ok (.iaload, 1) := by decide +kernel
theorem d_La_law_162 : decode b_La_law 162 = .ok (.invokevirtual 18, 3) := by decide +kernel
theorem d_La_law_165 : decode b_La_law 165 = .ok (.aload_n 2, 1) := by decide +kernel
theorem d_La_law_166 : decode b_La_law 166 = .ok (.aload_n 0, 1) := by decide +kernel
theorem d_La_law_167 : decode b_La_law 167 = .ok (.iload_n 3, 1) := by decide +kernel
theorem d_La_law_168 : decode b_La_law 168 = .ok (.iconst 1, 1) := by decide +kernel
theorem d_La_law_169 : decode b_La_law 169 = .ok (.iadd, 1) := by decide +kernel
theorem d_La_law_170 : decode b_La_law 170 = .ok (.iaload, 1) := by decide +kernel
theorem d_La_law_171 : decode b_La_law 171 = .ok (.aload_n 0, 1) := by decide +kernel
theorem d_La_law_172 : decode b_La_law 172 = .ok (.iload_n 3, 1) := by decide +kernel
theorem d_La_law_173 : decode b_La_law 173 = .ok (.iconst 2, 1) := by decide +kernel
theorem d_La_law_174 : decode b_La_law 174 = .ok (.iadd, 1) := by decide +kernel
theorem d_La_law_175 : decode b_La_law 175 = .ok (.iaload, 1) := by decide +kernel
theorem d_La_law_176 : decode b_La_law 176 = .ok (.invokevirtual 22, 3) := by decide +kernel
theorem d_La_law_179 : decode b_La_law 179 = .ok (.if_icmp .eq 364, 3) := by decide +kernel
theorem d_La_law_182 : decode b_La_law 182 = .ok (.iconst 0, 1) := by decide +kernel
theorem d_La_law_183 : decode b_La_law 183 = .ok (.ireturn, 1) := by decide +kernel
theorem d_La_law_184 : decode b_La_law 184 = .ok (.aload_n 1, 1) := by decide +kernel
theorem d_La_law_185 : decode b_La_law 185 = .ok (.aload_n 0, 1) := by decide +kernel
theorem d_La_law_186 : decode b_La_law 186 = .ok (.iload_n 3, 1) := by decide +kernel
theorem d_La_law_187 : decode b_La_law 187 = .ok (.iconst 1, 1) := by decide +kernel
theorem d_La_law_188 : decode b_La_law 188 = .ok (.iadd, 1) := by decide +kernel
theorem d_La_law_189 : decode b_La_law 189 = .ok (.iaload, 1) := by decide +kernel
theorem d_La_law_190 : decode b_La_law 190 = .ok (.aload_n 0, 1) := by decide +kernel
theorem d_La_law_191 : decode b_La_law 191 = .ok (.iload_n 3, 1) := by decide +kernel
theorem d_La_law_192 : decode b_La_law 192 = .ok (.iconst 2, 1) := by decide +kernel
theorem d_La_law_193 : decode b_La_law 193 = .ok (.iadd, 1) := by decide +kernel
theorem d_La_law_194 : decode b_La_law 194 = .ok (.iaload, 1) := by decide +kernel
theorem d_La_law_195 : decode b_La_law 195 = .ok (.invokevirtual 23, 3) := by decide +kernel
theorem d_La_law_198 : decode b_La_law 198 = .ok (.aload_n 2, 1) := by decide +kernel
theorem d_La_law_199 : decode b_La_law 199 = .ok (.aload_n 0, 1) := by decide +kernel
theorem d_La_law_200 : decode b_La_law 200 = .ok (.iload_n 3, 1) := by decide +kernel
theorem d_La_law_201 : decode b_La_law 201 = .ok (.iconst 1, 1) := by decide +kernel
theorem d_La_law_202 : decode b_La_law 202 = .ok (.iadd, 1) := by decide +kernel
theorem d_La_law_203 : decode b_La_law 203 = .ok (.iaload, 1) := by decide +kernel
theorem d_La_law_204 : decode b_La_law 204 = .ok (.aload_n 0, 1) := by decide +kernel
theorem d_La_law_205 : decode b_La_law 205 = .ok (.iload_n 3, 1) := by decide +kernel
theorem d_La_law_206 : decode b_La_law 206 = .ok (.iconst 2, 1) := by decide +kernel
theorem d_La_law_207 : decode b_La_law 207 = .ok (.iadd, 1) := by decide +kernel
theorem d_La_law_208 : decode b_La_law 208 = .ok (.iaload, 1) := by decide +kernel
theorem d_La_law_209 : decode b_La_law 209 = .ok (.invokevirtual 26, 3) := by decide +kernel
theorem d_La_law_212 : decode b_La_law 212 = .ok (.if_icmp .eq 331, 3) := by decide +kernel
theorem d_La_law_215 : decode b_La_law 215 = .ok (.iconst 0, 1) := by decide +kernel
theorem d_La_law_216 : decode b_La_law 216 = .ok (.ireturn, 1) := by decide +kernel
theorem d_La_law_217 : decode b_La_law 217 = .ok (.aload_n 1, 1) := by decide +kernel
theorem d_La_law_218 : decode b_La_law 218 = .ok (.aload_n 0, 1) := by decide +kernel
theorem d_La_law_219 : decode b_La_law 219 = .ok (.iload_n 3, 1) := by decide +kernel
theorem d_La_law_220 : decode b_La_law 220 = .ok (.iconst 1, 1) := by decide +kernel
theorem d_La_law_221 : decode b_La_law 221 = .ok (.iadd, 1) := by decide +kernel
theorem d_La_law_222 : decode b_La_law 222 = .ok (.iaload, 1) := by decide +kernel
theorem d_La_law_223 : decode b_La_law 223 = .ok (.invokevirtual 27, 3) := by decide +kernel
theorem d_La_law_226 : decode b_La_law 226 = .ok (.aload_n 2, 1) := by decide +kernel
theorem d_La_law_227 : decode b_La_law 227 = .ok (.aload_n 0, 1) := by decide +kernel
theorem d_La_law_228 : decode b_La_law 228 = .ok (.iload_n 3, 1) := by decide +kernel
theorem d_La_law_229 : decode b_La_law 229 = .ok (.iconst 1, 1) := by decide +kernel
theorem d_La_law_230 : decode b_La_law 230 = .ok (.iadd, 1) := by decide +kernel
theorem d_La_law_231 : decode b_La_law 231 = .ok (.iaload, 1) := by decide +kernel
theorem d_La_law_232 : decode b_La_law 232 = .ok (.invokevirtual 31, 3) := by decide +kernel
theorem d_La_law_235 : decode b_La_law 235 = .ok (.if_icmp .eq 308, 3) := by decide +kernel
theorem d_La_law_238 : decode b_La_law 238 = .ok (.iconst 0, 1) := by decide +kernel
theorem d_La_law_239 : decode b_La_law 239 = .ok (.ireturn, 1) := by decide +kernel
theorem d_La_law_240 : decode b_La_law 240 = .ok (.aload_n 1, 1) := by decide +kernel
theorem d_La_law_241 : decode b_La_law 241 = .ok (.aload_n 0, 1) := by decide +kernel
theorem d_La_law_242 : decode b_La_law 242 = .ok (.iload_n 3, 1) := by decide +kernel
theorem d_La_law_243 : decode b_La_law 243 = .ok (.iconst 1, 1) := by decide +kernel
theorem d_La_law_244 : decode b_La_law 244 = .ok (.iadd, 1) := by decide +kernel
theorem d_La_law_245 : decode b_La_law 245 = .ok (.iaload, 1) := by decide +kernel
theorem d_La_law_246 : decode b_La_law 246 = .ok (.aload_n 0, 1) := by decide +kernel
theorem d_La_law_247 : decode b_La_law 247 = .ok (.iload_n 3, 1) := by decide +kernel
theorem d_La_law_248 : decode b_La_law 248 = .ok (.iconst 2, 1) := by decide +kernel
theorem d_La_law_249 : decode b_La_law 249 = .ok (.iadd, 1) := by decide +kernel
theorem d_La_law_250 : decode b_La_law 250 = .ok (.iaload, 1) := by decide +kernel
theorem d_La_law_251 : decode b_La_law 251 = .ok (.invokevirtual 32, 3) := by decide +kernel
theorem d_La_law_254 : decode b_La_law 254 = .ok (.aload_n 2, 1) := by decide +kernel
theorem d_La_law_255 : decode b_La_law 255 = .ok (.aload_n 0, 1) := by decide +kernel
theorem d_La_law_256 : decode b_La_law 256 = .ok (.iload_n 3, 1) := by decide +kernel
theorem d_La_law_257 : decode b_La_law 257 = .ok (.iconst 1, 1) := by decide +kernel
theorem d_La_law_258 : decode b_La_law 258 = .ok (.iadd, 1) := by decide +kernel
theorem d_La_law_259 : decode b_La_law 259 = .ok (.iaload, 1) := by decide +kernel
theorem d_La_law_260 : decode b_La_law 260 = .ok (.aload_n 0, 1) := by decide +kernel
theorem d_La_law_261 : decode b_La_law 261 = .ok (.iload_n 3, 1) := by decide +kernel
theorem d_La_law_262 : decode b_La_law 262 = .ok (.iconst 2, 1) := by decide +kernel
theorem d_La_law_263 : decode b_La_law 263 = .ok (.iadd, 1) := by decide +kernel
theorem d_La_law_264 : decode b_La_law 264 = .ok (.iaload, 1) := by decide +kernel
theorem d_La_law_265 : decode b_La_law 265 = .ok (.invokevirtual 35, 3) := by decide +kernel
theorem d_La_law_268 : decode b_La_law 268 = .ok (.if_icmp .eq 275, 3) := by decide +kernel
theorem d_La_law_271 : decode b_La_law 271 = .ok (.iconst 0, 1) := by decide +kernel
theorem d_La_law_272 : decode b_La_law 272 = .ok (.ireturn, 1) := by decide +kernel
theorem d_La_law_273 : decode b_La_law 273 = .ok (.aload_n 1, 1) := by decide +kernel
theorem d_La_law_274 : decode b_La_law 274 = .ok (.aload_n 0, 1) := by decide +kernel
theorem d_La_law_275 : decode b_La_law 275 = .ok (.iload_n 3, 1) := by decide +kernel
theorem d_La_law_276 : decode b_La_law 276 = .ok (.iconst 1, 1) := by decide +kernel
theorem d_La_law_277 : decode b_La_law 277 = .ok (.iadd, 1) := by decide +kernel
theorem d_La_law_278 : decode b_La_law 278 = .ok (.iaload, 1) := by decide +kernel
theorem d_La_law_279 : decode b_La_law 279 = .ok (.aload_n 0, 1) := by decide +kernel
theorem d_La_law_280 : decode b_La_law 280 = .ok (.iload_n 3, 1) := by decide +kernel
theorem d_La_law_281 : decode b_La_law 281 = .ok (.iconst 2, 1) := by decide +kernel
theorem d_La_law_282 : decode b_La_law 282 = .ok (.iadd, 1) := by decide +kernel
theorem d_La_law_283 : decode b_La_law 283 = .ok (.iaload, 1) := by decide +kernel
theorem d_La_law_284 : decode b_La_law 284 = .ok (.invokevirtual 36, 3) := by decide +kernel
theorem d_La_law_287 : decode b_La_law 287 = .ok (.aload_n 2, 1) := by decide +kernel
theorem d_La_law_288 : decode b_La_law 288 = .ok (.aload_n 0, 1) := by decide +kernel
theorem d_La_law_289 : decode b_La_law 289 = .ok (.iload_n 3, 1) := by decide +kernel
theorem d_La_law_290 : decode b_La_law 290 = .ok (.iconst 1, 1) := by decide +kernel
theorem d_La_law_291 : decode b_La_law 291 = .ok (.iadd, 1) := by decide +kernel
theorem d_La_law_292 : decode b_La_law 292 = .ok (.iaload, 1) := by decide +kernel
theorem d_La_law_293 : decode b_La_law 293 = .ok (.aload_n 0, 1) := by decide +kernel
theorem d_La_law_294 : decode b_La_law 294 = .ok (.iload_n 3, 1) := by decide +kernel
theorem d_La_law_295 : decode b_La_law 295 = .ok (.iconst 2, 1) := by decide +kernel
theorem d_La_law_296 : decode b_La_law 296 = .ok (.iadd, 1) := by decide +kernel
theorem d_La_law_297 : decode b_La_law 297 = .ok (.iaload, 1) := by decide +kernel
theorem d_La_law_298 : decode b_La_law 298 = .ok (.invokevirtual 39, 3) := by decide +kernel
theorem d_La_law_301 : decode b_La_law 301 = .ok (.if_icmp .eq 242, 3) := by decide +kernel
theorem d_La_law_304 : decode b_La_law 304 = .ok (.iconst 0, 1) := by decide +kernel
theorem d_La_law_305 : decode b_La_law 305 = .ok (.ireturn, 1) := by decide +kernel
theorem d_La_law_306 : decode b_La_law 306 = .ok (.aload_n 1, 1) := by decide +kernel
theorem d_La_law_307 : decode b_La_law 307 = .ok (.aload_n 0, 1) := by decide +kernel
theorem d_La_law_308 : decode b_La_law 308 = .ok (.iload_n 3, 1) := by decide +kernel
theorem d_La_law_309 : decode b_La_law 309 = .ok (.iconst 1, 1) := by decide +kernel
theorem d_La_law_310 : decode b_La_law 310 = .ok (.iadd, 1) := by decide +kernel
theorem d_La_law_311 : decode b_La_law 311 = .ok (.iaload, 1) := by decide +kernel
theorem d_La_law_312 : decode b_La_law 312 = .ok (.invokevirtual 40, 3) := by decide +kernel
theorem d_La_law_315 : decode b_La_law 315 = .ok (.aload_n 2, 1) := by decide +kernel
theorem d_La_law_316 : decode b_La_law 316 = .ok (.aload_n 0, 1) := by decide +kernel
theorem d_La_law_317 : decode b_La_law 317 = .ok (.iload_n 3, 1) := by decide +kernel
theorem d_La_law_318 : decode b_La_law 318 = .ok (.iconst 1, 1) := by decide +kernel
theorem d_La_law_319 : decode b_La_law 319 = .ok (.iadd, 1) := by decide +kernel
theorem d_La_law_320 : decode b_La_law 320 = .ok (.iaload, 1) := by decide +kernel
theorem d_La_law_321 : decode b_La_law 321 = .ok (.invokevirtual 43, 3) := by decide +kernel
theorem d_La_law_324 : decode b_La_law 324 = .ok (.if_icmp .eq 219, 3) := by decide +kernel
theorem d_La_law_327 : decode b_La_law 327 = .ok (.iconst 0, 1) := by decide +kernel
theorem d_La_law_328 : decode b_La_law 328 = .ok (.ireturn, 1) := by decide +kernel
theorem d_La_law_329 : decode b_La_law 329 = .ok (.aload_n 1, 1) := by decide +kernel
theorem d_La_law_330 : decode b_La_law 330 = .ok (.aload_n 0, 1) := by decide +kernel
theorem d_La_law_331 : decode b_La_law 331 = .ok (.iload_n 3, 1) := by decide +kernel
theorem d_La_law_332 : decode b_La_law 332 = .ok (.iconst 1, 1) := by decide +kernel
theorem d_La_law_333 : decode b_La_law 333 = .ok (.iadd, 1) := by decide +kernel
theorem d_La_law_334 : decode b_La_law 334 = .ok (.iaload, 1) := by decide +kernel
theorem d_La_law_335 : decode b_La_law 335 = .ok (.aload_n 0, 1) := by decide +kernel
theorem d_La_law_336 : decode b_La_law 336 = .ok (.iload_n 3, 1) := by decide +kernel
theorem d_La_law_337 : decode b_La_law 337 = .ok (.iconst 2, 1) := by decide +kernel
theorem d_La_law_338 : decode b_La_law 338 = .ok (.iadd, 1) := by decide +kernel
theorem d_La_law_339 : decode b_La_law 339 = .ok (.iaload, 1) := by decide +kernel
theorem d_La_law_340 : decode b_La_law 340 = .ok (.invokevirtual 44, 3) := by decide +kernel
theorem d_La_law_343 : decode b_La_law 343 = .ok (.aload_n 2, 1) := by decide +kernel
theorem d_La_law_344 : decode b_La_law 344 = .ok (.aload_n 0, 1) := by decide +kernel
theorem d_La_law_345 : decode b_La_law 345 = .ok (.iload_n 3, 1) := by decide +kernel
theorem d_La_law_346 : decode b_La_law 346 = .ok (.iconst 1, 1) := by decide +kernel
theorem d_La_law_347 : decode b_La_law 347 = .ok (.iadd, 1) := by decide +kernel
theorem d_La_law_348 : decode b_La_law 348 = .ok (.iaload, 1) := by decide +kernel
theorem d_La_law_349 : decode b_La_law 349 = .ok (.aload_n 0, 1) := by decide +kernel
theorem d_La_law_350 : decode b_La_law 350 = .ok (.iload_n 3, 1) := by decide +kernel
theorem d_La_law_351 : decode b_La_law 351 = .ok (.iconst 2, 1) := by decide +kernel
theorem d_La_law_352 : decode b_La_law 352 = .ok (.iadd, 1) := by decide +kernel
theorem d_La_law_353 : decode b_La_law 353 = .ok (.iaload, 1) := by decide +kernel
theorem d_La_law_354 : decode b_La_law 354 = .ok (.invokevirtual 47, 3) := by decide +kernel
theorem d_La_law_357 : decode b_La_law 357 = .ok (.if_icmp .eq 186, 3) := by decide +kernel
theorem d_La_law_360 : decode b_La_law 360 = .ok (.iconst 0, 1) := by decide +kernel
theorem d_La_law_361 : decode b_La_law 361 = .ok (.ireturn, 1) := by decide +kernel
theorem d_La_law_362 : decode b_La_law 362 = .ok (.aload_n 1, 1) := by decide +kernel
theorem d_La_law_363 : decode b_La_law 363 = .ok (.aload_n 0, 1) := by decide +kernel
theorem d_La_law_364 : decode b_La_law 364 = .ok (.iload_n 3, 1) := by decide +kernel
theorem d_La_law_365 : decode b_La_law 365 = .ok (.iconst 1, 1) := by decide +kernel
theorem d_La_law_366 : decode b_La_law 366 = .ok (.iadd, 1) := by decide +kernel
theorem d_La_law_367 : decode b_La_law 367 = .ok (.iaload, 1) := by decide +kernel
theorem d_La_law_368 : decode b_La_law 368 = .ok (.invokevirtual 48, 3) := by decide +kernel
theorem d_La_law_371 : decode b_La_law 371 = .ok (.aload_n 2, 1) := by decide +kernel
theorem d_La_law_372 : decode b_La_law 372 = .ok (.aload_n 0, 1) := by decide +kernel
theorem d_La_law_373 : decode b_La_law 373 = .ok (.iload_n 3, 1) := by decide +kernel
theorem d_La_law_374 : decode b_La_law 374 = .ok (.iconst 1, 1) := by decide +kernel
theorem d_La_law_375 : decode b_La_law 375 = .ok (.iadd, 1) := by decide +kernel
theorem d_La_law_376 : decode b_La_law 376 = .ok (.iaload, 1) := by decide +kernel
theorem d_La_law_377 : decode b_La_law 377 = .ok (.invokevirtual 51, 3) := by decide +kernel
theorem d_La_law_380 : decode b_La_law 380 = .ok (.if_icmp .eq 163, 3) := by decide +kernel
theorem d_La_law_383 : decode b_La_law 383 = .ok (.iconst 0, 1) := by decide +kernel
theorem d_La_law_384 : decode b_La_law 384 = .ok (.ireturn, 1) := by decide +kernel
theorem d_La_law_385 : decode b_La_law 385 = .ok (.aload_n 1, 1) := by decide +kernel
theorem d_La_law_386 : decode b_La_law 386 = .ok (.aload_n 0, 1) := by decide +kernel
theorem d_La_law_387 : decode b_La_law 387 = .ok (.iload_n 3, 1) := by decide +kernel
theorem d_La_law_388 : decode b_La_law 388 = .ok (.iconst 1, 1) := by decide +kernel
theorem d_La_law_389 : decode b_La_law 389 = .ok (.iadd, 1) := by decide +kernel
theorem d_La_law_390 : decode b_La_law 390 = .ok (.iaload, 1) := by decide +kernel
theorem d_La_law_391 : decode b_La_law 391 = .ok (.invokevirtual 52, 3) := by decide +kernel
theorem d_La_law_394 : decode b_La_law 394 = .ok (.aload_n 2, 1) := by decide +kernel
theorem d_La_law_395 : decode b_La_law 395 = .ok (.aload_n 0, 1) := by decide +kernel
theorem d_La_law_396 : decode b_La_law 396 = .ok (.iload_n 3, 1) := by decide +kernel
theorem d_La_law_397 : decode b_La_law 397 = .ok (.iconst 1, 1) := by decide +kernel
theorem d_La_law_398 : decode b_La_law 398 = .ok (.iadd, 1) := by decide +kernel
theorem d_La_law_399 : decode b_La_law 399 = .ok (.iaload, 1) := by decide +kernel
theorem d_La_law_400 : decode b_La_law 400 = .ok (.invokevirtual 55, 3) := by decide +kernel
theorem d_La_law_403 : decode b_La_law 403 = .ok (.if_icmp .eq 140, 3) := by decide +kernel
theorem d_La_law_406 : decode b_La_law 406 = .ok (.iconst 0, 1) := by decide +kernel
theorem d_La_law_407 : decode b_La_law 407 = .ok (.ireturn, 1) := by decide +kernel
theorem d_La_law_408 : decode b_La_law 408 = .ok (.aload_n 1, 1) := by decide +kernel
theorem d_La_law_409 : decode b_La_law 409 = .ok (.aload_n 0, 1) := by decide +kernel
theorem d_La_law_410 : decode b_La_law 410 = .ok (.iload_n 3, 1) := by decide +kernel
theorem d_La_law_411 : decode b_La_law 411 = .ok (.iconst 1, 1) := by decide +kernel
theorem d_La_law_412 : decode b_La_law 412 = .ok (.iadd, 1) := by decide +kernel
theorem d_La_law_413 : decode b_La_law 413 = .ok (.iaload, 1) := by decide +kernel
theorem d_La_law_414 : decode b_La_law 414 = .ok (.aload_n 0, 1) := by decide +kernel
theorem d_La_law_415 : decode b_La_law 415 = .ok (.iload_n 3, 1) := by decide +kernel
theorem d_La_law_416 : decode b_La_law 416 = .ok (.iconst 2, 1) := by decide +kernel
theorem d_La_law_417 : decode b_La_law 417 = .ok (.iadd, 1) := by decide +kernel
theorem d_La_law_418 : decode b_La_law 418 = .ok (.iaload, 1) := by decide +kernel
theorem d_La_law_419 : decode b_La_law 419 = .ok (.invokevirtual 56, 3) := by decide +kernel
theorem d_La_law_422 : decode b_La_law 422 = .ok (.aload_n 2, 1) := by decide +kernel
theorem d_La_law_423 : decode b_La_law 423 = .ok (.aload_n 0, 1) := by decide +kernel
theorem d_La_law_424 : decode b_La_law 424 = .ok (.iload_n 3, 1) := by decide +kernel
theorem d_La_law_425 : decode b_La_law 425 = .ok (.iconst 1, 1) := by decide +kernel
theorem d_La_law_426 : decode b_La_law 426 = .ok (.iadd, 1) := by decide +kernel
theorem d_La_law_427 : decode b_La_law 427 = .ok (.iaload, 1) := by decide +kernel
theorem d_La_law_428 : decode b_La_law 428 = .ok (.aload_n 0, 1) := by decide +kernel
theorem d_La_law_429 : decode b_La_law 429 = .ok (.iload_n 3, 1) := by decide +kernel
theorem d_La_law_430 : decode b_La_law 430 = .ok (.iconst 2, 1) := by decide +kernel
theorem d_La_law_431 : decode b_La_law 431 = .ok (.iadd, 1) := by decide +kernel
theorem d_La_law_432 : decode b_La_law 432 = .ok (.iaload, 1) := by decide +kernel
theorem d_La_law_433 : decode b_La_law 433 = .ok (.invokevirtual 59, 3) := by decide +kernel
theorem d_La_law_436 : decode b_La_law 436 = .ok (.if_icmp .eq 107, 3) := by decide +kernel
theorem d_La_law_439 : decode b_La_law 439 = .ok (.iconst 0, 1) := by decide +kernel
theorem d_La_law_440 : decode b_La_law 440 = .ok (.ireturn, 1) := by decide +kernel
theorem d_La_law_441 : decode b_La_law 441 = .ok (.aload_n 1, 1) := by decide +kernel
theorem d_La_law_442 : decode b_La_law 442 = .ok (.invokevirtual 60, 3) := by decide +kernel
theorem d_La_law_445 : decode b_La_law 445 = .ok (.aload_n 2, 1) := by decide +kernel
theorem d_La_law_446 : decode b_La_law 446 = .ok (.invokevirtual 64, 3) := by decide +kernel
theorem d_La_law_449 : decode b_La_law 449 = .ok (.if_icmp .eq 94, 3) := by decide +kernel
theorem d_La_law_452 : decode b_La_law 452 = .ok (.iconst 0, 1) := by decide +kernel
theorem d_La_law_453 : decode b_La_law 453 = .ok (.ireturn, 1) := by decide +kernel
theorem d_La_law_454 : decode b_La_law 454 = .ok (.aload_n 1, 1) := by decide +kernel
theorem d_La_law_455 : decode b_La_law 455 = .ok (.aload_n 0, 1) := by decide +kernel
theorem d_La_law_456 : decode b_La_law 456 = .ok (.iload_n 3, 1) := by decide +kernel
theorem d_La_law_457 : decode b_La_law 457 = .ok (.iconst 1, 1) := by decide +kernel
theorem d_La_law_458 : decode b_La_law 458 = .ok (.iadd, 1) := by decide +kernel
theorem d_La_law_459 : decode b_La_law 459 = .ok (.iaload, 1) := by decide +kernel
theorem d_La_law_460 : decode b_La_law 460 = .ok (.aload_n 0, 1) := by decide +kernel
theorem d_La_law_461 : decode b_La_law 461 = .ok (.iload_n 3, 1) := by decide +kernel
theorem d_La_law_462 : decode b_La_law 462 = .ok (.iconst 2, 1) := by decide +kernel
theorem d_La_law_463 : decode b_La_law 463 = .ok (.iadd, 1) := by decide +kernel
theorem d_La_law_464 : decode b_La_law 464 = .ok (.iaload, 1) := by decide +kernel
theorem d_La_law_465 : decode b_La_law 465 = .ok (.invokevirtual 65, 3) := by decide +kernel
theorem d_La_law_468 : decode b_La_law 468 = .ok (.aload_n 2, 1) := by decide +kernel
theorem d_La_law_469 : decode b_La_law 469 = .ok (.aload_n 0, 1) := by decide +kernel
theorem d_La_law_470 : decode b_La_law 470 = .ok (.iload_n 3, 1) := by decide +kernel
theorem d_La_law_471 : decode b_La_law 471 = .ok (.iconst 1, 1) := by decide +kernel
theorem d_La_law_472 : decode b_La_law 472 = .ok (.iadd, 1) := by decide +kernel
theorem d_La_law_473 : decode b_La_law 473 = .ok (.iaload, 1) := by decide +kernel
theorem d_La_law_474 : decode b_La_law 474 = .ok (.aload_n 0, 1) := by decide +kernel
theorem d_La_law_475 : decode b_La_law 475 = .ok (.iload_n 3, 1) := by decide +kernel
theorem d_La_law_476 : decode b_La_law 476 = .ok (.iconst 2, 1) := by decide +kernel
theorem d_La_law_477 : decode b_La_law 477 = .ok (.iadd, 1) := by decide +kernel
theorem d_La_law_478 : decode b_La_law 478 = .ok (.iaload, 1) := by decide +kernel
theorem d_La_law_479 : decode b_La_law 479 = .ok (.invokevirtual 68, 3) := by decide +kernel
theorem d_La_law_482 : decode b_La_law 482 = .ok (.if_icmp .eq 61, 3) := by decide +kernel
theorem d_La_law_485 : decode b_La_law 485 = .ok (.iconst 0, 1) := by decide +kernel
theorem d_La_law_486 : decode b_La_law 486 = .ok (.ireturn, 1) := by decide +kernel
theorem d_La_law_487 : decode b_La_law 487 = .ok (.aload_n 1, 1) := by decide +kernel
theorem d_La_law_488 : decode b_La_law 488 = .ok (.aload_n 0, 1) := by decide +kernel
theorem d_La_law_489 : decode b_La_law 489 = .ok (.iload_n 3, 1) := by decide +kernel
theorem d_La_law_490 : decode b_La_law 490 = .ok (.iconst 1, 1) := by decide +kernel
theorem d_La_law_491 : decode b_La_law 491 = .ok (.iadd, 1) := by decide +kernel
theorem d_La_law_492 : decode b_La_law 492 = .ok (.iaload, 1) := by decide +kernel
theorem d_La_law_493 : decode b_La_law 493 = .ok (.invokevirtual 69, 3) := by decide +kernel
theorem d_La_law_496 : decode b_La_law 496 = .ok (.aload_n 2, 1) := by decide +kernel
theorem d_La_law_497 : decode b_La_law 497 = .ok (.aload_n 0, 1) := by decide +kernel
theorem d_La_law_498 : decode b_La_law 498 = .ok (.iload_n 3, 1) := by decide +kernel
theorem d_La_law_499 : decode b_La_law 499 = .ok (.iconst 1, 1) := by decide +kernel
theorem d_La_law_500 : decode b_La_law 500 = .ok (.iadd, 1) := by decide +kernel
theorem d_La_law_501 : decode b_La_law 501 = .ok (.iaload, 1) := by decide +kernel
theorem d_La_law_502 : decode b_La_law 502 = .ok (.invokevirtual 72, 3) := by decide +kernel
theorem d_La_law_505 : decode b_La_law 505 = .ok (.if_icmp .eq 38, 3) := by decide +kernel
theorem d_La_law_508 : decode b_La_law 508 = .ok (.iconst 0, 1) := by decide +kernel
theorem d_La_law_509 : decode b_La_law 509 = .ok (.ireturn, 1) := by decide +kernel
theorem d_La_law_510 : decode b_La_law 510 = .ok (.aload_n 1, 1) := by decide +kernel
theorem d_La_law_511 : decode b_La_law 511 = .ok (.aload_n 0, 1) := by decide +kernel
theorem d_La_law_512 : decode b_La_law 512 = .ok (.iload_n 3, 1) := by decide +kernel
theorem d_La_law_513 : decode b_La_law 513 = .ok (.iconst 1, 1) := by decide +kernel
theorem d_La_law_514 : decode b_La_law 514 = .ok (.iadd, 1) := by decide +kernel
theorem d_La_law_515 : decode b_La_law 515 = .ok (.iaload, 1) := by decide +kernel
theorem d_La_law_516 : decode b_La_law 516 = .ok (.aload_n 0, 1) := by decide +kernel
theorem d_La_law_517 : decode b_La_law 517 = .ok (.iload_n 3, 1) := by decide +kernel
theorem d_La_law_518 : decode b_La_law 518 = .ok (.iconst 2, 1) := by decide +kernel
theorem d_La_law_519 : decode b_La_law 519 = .ok (.iadd, 1) := by decide +kernel
theorem d_La_law_520 : decode b_La_law 520 = .ok (.iaload, 1) := by decide +kernel
theorem d_La_law_521 : decode b_La_law 521 = .ok (.invokevirtual 73, 3) := by decide +kernel
theorem d_La_law_524 : decode b_La_law 524 = .ok (.aload_n 2, 1) := by decide +kernel
theorem d_La_law_525 : decode b_La_law 525 = .ok (.aload_n 0, 1) := by decide +kernel
theorem d_La_law_526 : decode b_La_law 526 = .ok (.iload_n 3, 1) := by decide +kernel
theorem d_La_law_527 : decode b_La_law 527 = .ok (.iconst 1, 1) := by decide +kernel
theorem d_La_law_528 : decode b_La_law 528 = .ok (.iadd, 1) := by decide +kernel
theorem d_La_law_529 : decode b_La_law 529 = .ok (.iaload, 1) := by decide +kernel
theorem d_La_law_530 : decode b_La_law 530 = .ok (.aload_n 0, 1) := by decide +kernel
theorem d_La_law_531 : decode b_La_law 531 = .ok (.iload_n 3, 1) := by decide +kernel
theorem d_La_law_532 : decode b_La_law 532 = .ok (.iconst 2, 1) := by decide +kernel
theorem d_La_law_533 : decode b_La_law 533 = .ok (.iadd, 1) := by decide +kernel
theorem d_La_law_534 : decode b_La_law 534 = .ok (.iaload, 1) := by decide +kernel
theorem d_La_law_535 : decode b_La_law 535 = .ok (.invokevirtual 76, 3) := by decide +kernel
theorem d_La_law_538 : decode b_La_law 538 = .ok (.if_icmp .eq 5, 3) := by decide +kernel
theorem d_La_law_541 : decode b_La_law 541 = .ok (.iconst 0, 1) := by decide +kernel
theorem d_La_law_542 : decode b_La_law 542 = .ok (.ireturn, 1) := by decide +kernel
theorem d_La_law_543 : decode b_La_law 543 = .ok (.iinc 3 4, 3) := by decide +kernel
theorem d_La_law_546 : decode b_La_law 546 = .ok (.goto (-528), 3) := by decide +kernel
theorem d_La_law_549 : decode b_La_law 549 = .ok (.iconst 1, 1) := by decide +kernel
theorem d_La_law_550 : decode b_La_law 550 = .ok (.ireturn, 1) := by decide +kernel
