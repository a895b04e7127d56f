-- ===== decode rows (written by wip/gen/names.py) =====
theorem d_L_law_0 : decode code 0 = .ok (.new 7, 3) := by decide +kernel
theorem d_L_law_3 : decode code 3 = .ok (.dup, 1) := by decide +kernel
theorem d_L_law_4 : decode code 4 = .ok (.invokespecial 9, 3) := by decide +kernel
theorem d_L_law_7 : decode code 7 = .ok (.astore_n 1, 1) := by decide +kernel
theorem d_L_law_8 : decode code 8 = .ok (.new 10, 3) := by decide +kernel
theorem d_L_law_11 : decode code 11 = .ok (.dup, 1) := by decide +kernel
theorem d_L_law_12 : decode code 12 = .ok (.invokespecial 12, 3) := by decide +kernel
theorem d_L_law_15 : decode code 15 = .ok (.astore_n 2, 1) := by decide +kernel
theorem d_L_law_16 : decode code 16 = .ok (.iconst 0, 1) := by decide +kernel
theorem d_L_law_17 : decode code 17 = .ok (.istore_n 3, 1) := by decide +kernel
theorem d_L_law_18 : decode code 18 = .ok (.iload_n 3, 1) := by decide +kernel
theorem d_L_law_19 : decode code 19 = .ok (.aload_n 0, 1) := by decide +kernel
theorem d_L_law_20 : decode code 20 = .ok (.arraylength, 1) := by decide +kernel
theorem d_L_law_21 : decode code 21 = .ok (.iconst 5, 1) := by decide +kernel
theorem d_L_law_22 : decode code 22 = .ok (.isub, 1) := by decide +kernel
theorem d_L_law_23 : decode code 23 = .ok (.if_icmp .gt 554, 3) := by decide +kernel
theorem d_L_law_26 : decode code 26 = .ok (.aload_n 0, 1) := by decide +kernel
theorem d_L_law_27 : decode code 27 = .ok (.iload_n 3, 1) := by decide +kernel
theorem d_L_law_28 : decode code 28 = .ok (.iaload, 1) := by decide +kernel
theorem d_L_law_29 : decode code 29 = .ok (.bipush 15, 2) := by decide +kernel
theorem d_L_law_31 : decode code 31 = .ok (.iand, 1) := by decide +kernel
theorem d_L_law_32 : decode code 32 = .ok (.tableswitch 539 0 10 #[60, 113, 166, 189, 232, 265, 334, 377, 410, 443, 486], 60) := by decide +kernel
theorem d_L_law_92 : decode code 92 = .ok (.aload_n 1, 1) := by decide +kernel
theorem d_L_law_93 : decode code 93 = .ok (.aload_n 0, 1) := by decide +kernel
theorem d_L_law_94 : decode code 94 = .ok (.iload_n 3, 1) := by decide +kernel
theorem d_L_law_95 : decode code 95 = .ok (.iconst 1, 1) := by decide +kernel
theorem d_L_law_96 : decode code 96 = .ok (.iadd, 1) := by decide +kernel
theorem d_L_law_97 : decode code 97 = .ok (.iaload, 1) := by decide +kernel
theorem d_L_law_98 : decode code 98 = .ok (.aload_n 0, 1) := by decide +kernel
theorem d_L_law_99 : decode code 99 = .ok (.iload_n 3, 1) := by decide +kernel
theorem d_L_law_100 : decode code 100 = .ok (.iconst 2, 1) := by decide +kernel
theorem d_L_law_101 : decode code 101 = .ok (.iadd, 1) := by decide +kernel
theorem d_L_law_102 : decode code 102 = .ok (.iaload, 1) := by decide +kernel
theorem d_L_law_103 : decode code 103 = .ok (.aload_n 0, 1) := by decide +kernel
theorem d_L_law_104 : decode code 104 = .ok (.iload_n 3, 1) := by decide +kernel
theorem d_L_law_105 : decode code 105 = .ok (.iconst 3, 1) := by decide +kernel
theorem d_L_law_106 : decode code 106 = .ok (.iadd, 1) := by decide +kernel
theorem d_L_law_107 : decode code 107 = .ok (.iaload, 1) := by decide +kernel
theorem d_L_law_108 : decode code 108 = .ok (.aload_n 0, 1) := by decide +kernel
theorem d_L_law_109 : decode code 109 = .ok (.iload_n 3, 1) := by decide +kernel
theorem d_L_law_110 : decode code 110 = .ok (.iconst 4, 1) := by decide +kernel
theorem d_L_law_111 : decode code 111 = .ok (.iadd, 1) := by decide +kernel
theorem d_L_law_112 : decode code 112 = .ok (.iaload, 1) := by decide +kernel
theorem d_L_law_113 : decode code 113 = .ok (.invokevirtual 13, 3) := by decide +kernel
theorem d_L_law_116 : decode code 116 = .ok (.aload_n 2, 1) := by decide +kernel
theorem d_L_law_117 : decode code 117 = .ok (.aload_n 0, 1) := by decide +kernel
theorem d_L_law_118 : decode code 118 = .ok (.iload_n 3, 1) := by decide +kernel
theorem d_L_law_119 : decode code 119 = .ok (.iconst 1, 1) := by decide +kernel
theorem d_L_law_120 : decode code 120 = .ok (.iadd, 1) := by decide +kernel
theorem d_L_law_121 : decode code 121 = .ok (.iaload, 1) := by decide +kernel
theorem d_L_law_122 : decode code 122 = .ok (.aload_n 0, 1) := by decide +kernel
theorem d_L_law_123 : decode code 123 = .ok (.iload_n 3, 1) := by decide +kernel
theorem d_L_law_124 : decode code 124 = .ok (.iconst 2, 1) := by decide +kernel
theorem d_L_law_125 : decode code 125 = .ok (.iadd, 1) := by decide +kernel
theorem d_L_law_126 : decode code 126 = .ok (.iaload, 1) := by decide +kernel
theorem d_L_law_127 : decode code 127 = .ok (.aload_n 0, 1) := by decide +kernel
theorem d_L_law_128 : decode code 128 = .ok (.iload_n 3, 1) := by decide +kernel
theorem d_L_law_129 : decode code 129 = .ok (.iconst 3, 1) := by decide +kernel
theorem d_L_law_130 : decode code 130 = .ok (.iadd, 1) := by decide +kernel
theorem d_L_law_131 : decode code 131 = .ok (.iaload, 1) := by decide +kernel
theorem d_L_law_132 : decode code 132 = .ok (.aload_n 0, 1) := by decide +kernel
theorem d_L_law_133 : decode code 133 = .ok (.iload_n 3, 1) := by decide +kernel
theorem d_L_law_134 : decode code 134 = .ok (.iconst 4, 1) := by decide +kernel
theorem d_L_law_135 : decode code 135 = .ok (.iadd, 1) := by decide +kernel
theorem d_L_law_136 : decode code 136 = .ok (.iaload, 1) := by decide +kernel
theorem d_L_law_137 : decode code 137 = .ok (.invokevirtual 17, 3) := by decide +kernel
theorem d_L_law_140 : decode code 140 = .ok (.if_icmp .eq 431, 3) := by decide +kernel
theorem d_L_law_143 : decode code 143 = .ok (.iconst 0, 1) := by decide +kernel
theorem d_L_law_144 : decode code 144 = .ok (.ireturn, 1) := by decide +kernel
theorem d_L_law_145 : decode code 145 = .ok (.aload_n 1, 1) := by decide +kernel
theorem d_L_law_146 : decode code 146 = .ok (.aload_n 0, 1) := by decide +kernel
theorem d_L_law_147 : decode code 147 = .ok (.iload_n 3, 1) := by decide +kernel
theorem d_L_law_148 : decode code 148 = .ok (.iconst 1, 1) := by decide +kernel
theorem d_L_law_149 : decode code 149 = .ok (.iadd, 1) := by decide +kernel
theorem d_L_law_150 : decode code 150 = .ok (.iaload, 1) := by decide +kernel
theorem d_L_law_151 : decode code 151 = .ok (.aload_n 0, 1) := by decide +kernel
theorem d_L_law_152 : decode code 152 = .ok (.iload_n 3, 1) := by decide +kernel
theorem d_L_law_153 : decode code 153 = .ok (.iconst 2, 1) := by decide +kernel
theorem d_L_law_154 : decode code 154 = .ok (.iadd, 1) := by decide +kernel
theorem d_L_law_155 : decode code 155 = .ok (.iaload, 1) := by decide +kernel
theorem d_L_law_156 : decode code 156 = .ok (.aload_n 0, 1) := by decide +kernel
theorem d_L_law_157 : decode code 157 = .ok (.iload_n 3, 1) := by decide +kernel
theorem d_L_law_158 : decode code 158 = .ok (.iconst 3, 1) := by decide +kernel
theorem d_L_law_159 : decode code 159 = .ok (.iadd, 1) := by decide +kernel
theorem d_L_law_160 : decode code 160 = .ok (.iaload, 1) := by decide +kernel
theorem d_L_law_161 : decode code 161 = .ok (.aload_n 0, 1) := by decide +kernel
theorem d_L_law_162 : decode code 162 = .ok (.iload_n 3, 1) := by decide +kernel
theorem d_L_law_163 : decode code 163 = .ok (.iconst 4, 1) := by decide +kernel
theorem d_L_law_164 : decode code 164 = .ok (.iadd, 1) := by decide +kernel
theorem d_L_law_165 : decode code 165 = .ok (.iaload, 1) := by decide +kernel
theorem d_L_law_166 : decode code 166 = .ok (.invokevirtual 18, 3) := by decide +kernel
theorem d_L_law_169 : decode code 169 = .ok (.aload_n 2, 1) := by decide +kernel
theorem d_L_law_170 : decode code 170 = .ok (.aload_n 0, 1) := by decide +kernel
theorem d_L_law_171 : decode code 171 = .ok (.iload_n 3, 1) := by decide +kernel
theorem d_L_law_172 : decode code 172 = .ok (.iconst 1, 1) := by decide +kernel
theorem d_L_law_173 : decode code 173 = .ok (.iadd, 1) := by decide +kernel
theorem d_L_law_174 : decode code 174 = .ok (.iaload, 1) := by decide +kernel
theorem d_L_law_175 : decode code 175 = .ok (.aload_n 0, 1) := by decide +kernel
theorem d_L_law_176 : decode code 176 = .ok (.iload_n 3, 1) := by decide +kernel
theorem d_L_law_177 : decode code 177 = .ok (.iconst 2, 1) := by decide +kernel
theorem d_L_law_178 : decode code 178 = .ok (.iadd, 1) := by decide +kernel
theorem d_L_law_179 : decode code 179 = .ok (.iaload, 1) := by decide +kernel
theorem d_L_law_180 : decode code 180 = .ok (.aload_n 0, 1) := by decide +kernel
theorem d_L_law_181 : decode code 181 = .ok (.iload_n 3, 1) := by decide +kernel
theorem d_L_law_182 : decode code 182 = .ok (.iconst 3, 1) := by decide +kernel
theorem d_L_law_183 : decode code 183 = .ok (.iadd, 1) := by decide +kernel
theorem d_L_law_184 : decode code 184 = .ok (.iaload, 1) := by decide +kernel
theorem d_L_law_185 : decode code 185 = .ok (.aload_n 0, 1) := by decide +kernel
theorem d_L_law_186 : decode code 186 = .ok (.iload_n 3, 1) := by decide +kernel
theorem d_L_law_187 : decode code 187 = .ok (.iconst 4, 1) := by decide +kernel
theorem d_L_law_188 : decode code 188 = .ok (.iadd, 1) := by decide +kernel
theorem d_L_law_189 : decode code 189 = .ok (.iaload, 1) := by decide +kernel
theorem d_L_law_190 : decode code 190 = .ok (.invokevirtual 21, 3) := by decide +kernel
theorem d_L_law_193 : decode code 193 = .ok (.if_icmp .eq 378, 3) := by decide +kernel
theorem d_L_law_196 : decode code 196 = .ok (.iconst 0, 1) := by decide +kernel
theorem d_L_law_197 : decode code 197 = .ok (.ireturn, 1) := by decide +kernel
theorem d_L_law_198 : decode code 198 = .ok (.aload_n 1, 1) := by decide +kernel
theorem d_L_law_199 : decode code 199 = .ok (.aload_n 0, 1) := by decide +kernel
theorem d_L_law_200 : decode code 200 = .ok (.iload_n 3, 1) := by decide +kernel
theorem d_L_law_201 : decode code 201 = .ok (.iconst 1, 1) := by decide +kernel
theorem d_L_law_202 : decode code 202 = .ok (.iadd, 1) := by decide +kernel
theorem d_L_law_203 : decode code 203 = .ok (.iaload, 1) := by decide +kernel
theorem d_L_law_204 : decode code 204 = .ok (.invokevirtual 22, 3) := by decide +kernel
theorem d_L_law_207 : decode code 207 = .ok (.aload_n 2, 1) := by decide +kernel
theorem d_L_law_208 : decode code 208 = .ok (.aload_n 0, 1) := by decide +kernel
theorem d_L_law_209 : decode code 209 = .ok (.iload_n 3, 1) := by decide +kernel
theorem d_L_law_210 : decode code 210 = .ok (.iconst 1, 1) := by decide +kernel
theorem d_L_law_211 : decode code 211 = .ok (.iadd, 1) := by decide +kernel
theorem d_L_law_212 : decode code 212 = .ok (.iaload, 1) := by decide +kernel
theorem d_L_law_213 : decode code 213 = .ok (.invokevirtual 26, 3) := by decide +kernel
theorem d_L_law_216 : decode code 216 = .ok (.if_icmp .eq 355, 3) := by decide +kernel
theorem d_L_law_219 : decode code 219 = .ok (.iconst 0, 1) := by decide +kernel
theorem d_L_law_220 : decode code 220 = .ok (.ireturn, 1) := by decide +kernel
theorem d_L_law_221 : decode code 221 = .ok (.aload_n 1, 1) := by decide +kernel
theorem d_L_law_222 : decode code 222 = .ok (.aload_n 0, 1) := by decide +kernel
theorem d_L_law_223 : decode code 223 = .ok (.iload_n 3, 1) := by decide +kernel
theorem d_L_law_224 : decode code 224 = .ok (.iconst 1, 1) := by decide +kernel
theorem d_L_law_225 : decode code 225 = .ok (.iadd, 1) := by decide +kernel
theorem d_L_law_226 : decode code 226 = .ok (.iaload, 1) := by decide +kernel
theorem d_L_law_227 : decode code 227 = .ok (.aload_n 0, 1) := by decide +kernel
theorem d_L_law_228 : decode code 228 = .ok (.iload_n 3, 1) := by decide +kernel
theorem d_L_law_229 : decode code 229 = .ok (.iconst 2, 1) := by decide +kernel
theorem d_L_law_230 : decode code 230 = .ok (.iadd, 1) := by decide +kernel
theorem d_L_law_231 : decode code 231 = .ok (.iaload, 1) := by decide +kernel
theorem d_L_law_232 : decode code 232 = .ok (.aload_n 0, 1) := by decide +kernel
theorem d_L_law_233 : decode code 233 = .ok (.iload_n 3, 1) := by decide +kernel
theorem d_L_law_234 : decode code 234 = .ok (.iconst 3, 1) := by decide +kernel
theorem d_L_law_235 : decode code 235 = .ok (.iadd, 1) := by decide +kernel
theorem d_L_law_236 : decode code 236 = .ok (.iaload, 1) := by decide +kernel
theorem d_L_law_237 : decode code 237 = .ok (.invokevirtual 27, 3) := by decide +kernel
theorem d_L_law_240 : decode code 240 = .ok (.aload_n 2, 1) := by decide +kernel
theorem d_L_law_241 : decode code 241 = .ok (.aload_n 0, 1) := by decide +kernel
theorem d_L_law_242 : decode code 242 = .ok (.iload_n 3, 1) := by decide +kernel
theorem d_L_law_243 : decode code 243 = .ok (.iconst 1, 1) := by decide +kernel
theorem d_L_law_244 : decode code 244 = .ok (.iadd, 1) := by decide +kernel
theorem d_L_law_245 : decode code 245 = .ok (.iaload, 1) := by decide +kernel
theorem d_L_law_246 : decode code 246 = .ok (.aload_n 0, 1) := by decide +kernel
theorem d_L_law_247 : decode code 247 = .ok (.iload_n 3, 1) := by decide +kernel
theorem d_L_law_248 : decode code 248 = .ok (.iconst 2, 1) := by decide +kernel
theorem d_L_law_249 : decode code 249 = .ok (.iadd, 1) := by decide +kernel
theorem d_L_law_250 : decode code 250 = .ok (.iaload, 1) := by decide +kernel
theorem d_L_law_251 : decode code 251 = .ok (.aload_n 0, 1) := by decide +kernel
theorem d_L_law_252 : decode code 252 = .ok (.iload_n 3, 1) := by decide +kernel
theorem d_L_law_253 : decode code 253 = .ok (.iconst 3, 1) := by decide +kernel
theorem d_L_law_254 : decode code 254 = .ok (.iadd, 1) := by decide +kernel
theorem d_L_law_255 : decode code 255 = .ok (.iaload, 1) := by decide +kernel
theorem d_L_law_256 : decode code 256 = .ok (.invokevirtual 31, 3) := by decide +kernel
theorem d_L_law_259 : decode code 259 = .ok (.if_icmp .eq 312, 3) := by decide +kernel
theorem d_L_law_262 : decode code 262 = .ok (.iconst 0, 1) := by decide +kernel
theorem d_L_law_263 : decode code 263 = .ok (.ireturn, 1) := by decide +kernel
theorem d_L_law_264 : decode code 264 = .ok (.aload_n 1, 1) := by decide +kernel
theorem d_L_law_265 : decode code 265 = .ok (.aload_n 0, 1) := by decide +kernel
theorem d_L_law_266 : decode code 266 = .ok (.iload_n 3, 1) := by decide +kernel
theorem d_L_law_267 : decode code 267 = .ok (.iconst 1, 1) := by decide +kernel
theorem d_L_law_268 : decode code 268 = .ok (.iadd, 1) := by decide +kernel
theorem d_L_law_269 : decode code 269 = .ok (.iaload, 1) := by decide +kernel
theorem d_L_law_270 : decode code 270 = .ok (.aload_n 0, 1) := by decide +kernel
theorem d_L_law_271 : decode code 271 = .ok (.iload_n 3, 1) := by decide +kernel
theorem d_L_law_272 : decode code 272 = .ok (.iconst 2, 1) := by decide +kernel
theorem d_L_law_273 : decode code 273 = .ok (.iadd, 1) := by decide +kernel
theorem d_L_law_274 : decode code 274 = .ok (.iaload, 1) := by decide +kernel
theorem d_L_law_275 : decode code 275 = .ok (.invokevirtual 32, 3) := by decide +kernel
theorem d_L_law_278 : decode code 278 = .ok (.aload_n 2, 1) := by decide +kernel
theorem d_L_law_279 : decode code 279 = .ok (.aload_n 0, 1) := by decide +kernel
theorem d_L_law_280 : decode code 280 = .ok (.iload_n 3, 1) := by decide +kernel
theorem d_L_law_281 : decode code 281 = .ok (.iconst 1, 1) := by decide +kernel
theorem d_L_law_282 : decode code 282 = .ok (.iadd, 1) := by decide +kernel
theorem d_L_law_283 : decode code 283 = .ok (.iaload, 1) := by decide +kernel
theorem d_L_law_284 : decode code 284 = .ok (.aload_n 0, 1) := by decide +kernel
theorem d_L_law_285 : decode code 285 = .ok (.iload_n 3, 1) := by decide +kernel
theorem d_L_law_286 : decode code 286 = .ok (.iconst 2, 1) := by decide +kernel
theorem d_L_law_287 : decode code 287 = .ok (.iadd, 1) := by decide +kernel
theorem d_L_law_288 : decode code 288 = .ok (.iaload, 1) := by decide +kernel
theorem d_L_law_289 : decode code 289 = .ok (.invokevirtual 36, 3) := by decide +kernel
theorem d_L_law_292 : decode code 292 = .ok (.if_icmp .eq 279, 3) := by decide +kernel
theorem d_L_law_295 : decode code 295 = .ok (.iconst 0, 1) := by decide +kernel
theorem d_L_law_296 : decode code 296 = .ok (.ireturn, 1) := by decide +kernel
theorem d_L_law_297 : decode code 297 = .ok (.aload_n 1, 1) := by decide +kernel
theorem d_L_law_298 : decode code 298 = .ok (.aload_n 0, 1) := by decide +kernel
theorem d_L_law_299 : decode code 299 = .ok (.iload_n 3, 1) := by decide +kernel
theorem d_L_law_300 : decode code 300 = .ok (.iconst 1, 1) := by decide +kernel
theorem d_L_law_301 : decode code 301 = .ok (.iadd, 1) := by decide +kernel
theorem d_L_law_302 : decode code 302 = .ok (.iaload, 1) := by decide +kernel
theorem d_L_law_303 : decode code 303 = .ok (.aload_n 0, 1) := by decide +kernel
theorem d_L_law_304 : decode code 304 = .ok (.iload_n 3, 1) := by decide +kernel
theorem d_L_law_305 : decode code 305 = .ok (.iconst 2, 1) := by decide +kernel
theorem d_L_law_306 : decode code 306 = .ok (.iadd, 1) := by decide +kernel
theorem d_L_law_307 : decode code 307 = .ok (.iaload, 1) := by decide +kernel
theorem d_L_law_308 : decode code 308 = .ok (.aload_n 0, 1) := by decide +kernel
theorem d_L_law_309 : decode code 309 = .ok (.iload_n 3, 1) := by decide +kernel
theorem d_L_law_310 : decode code 310 = .ok (.iconst 3, 1) := by decide +kernel
theorem d_L_law_311 : decode code 311 = .ok (.iadd, 1) := by decide +kernel
theorem d_L_law_312 : decode code 312 = .ok (.iaload, 1) := by decide +kernel
theorem d_L_law_313 : decode code 313 = .ok (.aload_n 0, 1) := by decide +kernel
theorem d_L_law_314 : decode code 314 = .ok (.iload_n 3, 1) := by decide +kernel
theorem d_L_law_315 : decode code 315 = .ok (.iconst 4, 1) := by decide +kernel
theorem d_L_law_316 : decode code 316 = .ok (.iadd, 1) := by decide +kernel
theorem d_L_law_317 : decode code 317 = .ok (.iaload, 1) := by decide +kernel
theorem d_L_law_318 : decode code 318 = .ok (.ifCond .eq 7, 3) := by decide +kernel
theorem d_L_law_321 : decode code 321 = .ok (.iconst 1, 1) := by decide +kernel
theorem d_L_law_322 : decode code 322 = .ok (.goto 4, 3) := by decide +kernel
theorem d_L_law_325 : decode code 325 = .ok (.iconst 0, 1) := by decide +kernel
theorem d_L_law_326 : decode code 326 = .ok (.invokevirtual 37, 3) := by decide +kernel
theorem d_L_law_329 : decode code 329 = .ok (.aload_n 2, 1) := by decide +kernel
theorem d_L_law_330 : decode code 330 = .ok (.aload_n 0, 1) := by decide +kernel
theorem d_L_law_331 : decode code 331 = .ok (.iload_n 3, 1) := by decide +kernel
theorem d_L_law_332 : decode code 332 = .ok (.iconst 1, 1) := by decide +kernel
theorem d_L_law_333 : decode code 333 = .ok (.iadd, 1) := by decide +kernel
theorem d_L_law_334 : decode code 334 = .ok (.iaload, 1) := by decide +kernel
theorem d_L_law_335 : decode code 335 = .ok (.aload_n 0, 1) := by decide +kernel
theorem d_L_law_336 : decode code 336 = .ok (.iload_n 3, 1) := by decide +kernel
theorem d_L_law_337 : decode code 337 = .ok (.iconst 2, 1) := by decide +kernel
theorem d_L_law_338 : decode code 338 = .ok (.iadd, 1) := by decide +kernel
theorem d_L_law_339 : decode code 339 = .ok (.iaload, 1) := by decide +kernel
theorem d_L_law_340 : decode code 340 = .ok (.aload_n 0, 1) := by decide +kernel
theorem d_L_law_341 : decode code 341 = .ok (.iload_n 3, 1) := by decide +kernel
theorem d_L_law_342 : decode code 342 = .ok (.iconst 3, 1) := by decide +kernel
theorem d_L_law_343 : decode code 343 = .ok (.iadd, 1) := by decide +kernel
theorem d_L_law_344 : decode code 344 = .ok (.iaload, 1) := by decide +kernel
theorem d_L_law_345 : decode code 345 = .ok (.aload_n 0, 1) := by decide +kernel
theorem d_L_law_346 : decode code 346 = .ok (.iload_n 3, 1) := by decide +kernel
theorem d_L_law_347 : decode code 347 = .ok (.iconst 4, 1) := by decide +kernel
theorem d_L_law_348 : decode code 348 = .ok (.iadd, 1) := by decide +kernel
theorem d_L_law_349 : decode code 349 = .ok (.iaload, 1) := by decide +kernel
theorem d_L_law_350 : decode code 350 = .ok (.ifCond .eq 7, 3) := by decide +kernel
theorem d_L_law_353 : decode code 353 = .ok (.iconst 1, 1) := by decide +kernel
theorem d_L_law_354 : decode code 354 = .ok (.goto 4, 3) := by decide +kernel
theorem d_L_law_357 : decode code 357 = .ok (.iconst 0, 1) := by decide +kernel
theorem d_L_law_358 : decode code 358 = .ok (.invokevirtual 41, 3) := by decide +kernel
theorem d_L_law_361 : decode code 361 = .ok (.if_icmp .eq 210, 3) := by decide +kernel
theorem d_L_law_364 : decode code 364 = .ok (.iconst 0, 1) := by decide +kernel
theorem d_L_law_365 : decode code 365 = .ok (.ireturn, 1) := by decide +kernel
theorem d_L_law_366 : decode code 366 = .ok (.aload_n 1, 1) := by decide +kernel
theorem d_L_law_367 : decode code 367 = .ok (.aload_n 0, 1) := by decide +kernel
theorem d_L_law_368 : decode code 368 = .ok (.iload_n 3, 1) := by decide +kernel
theorem d_L_law_369 : decode code 369 = .ok (.iconst 1, 1) := by decide +kernel
theorem d_L_law_370 : decode code 370 = .ok (.iadd, 1) := by decide +kernel
theorem d_L_law_371 : decode code 371 = .ok (.iaload, 1) := by decide +kernel
theorem d_L_law_372 : decode code 372 = .ok (.aload_n 0, 1) := by decide +kernel
theorem d_L_law_373 : decode code 373 = .ok (.iload_n 3, 1) := by decide +kernel
theorem d_L_law_374 : decode code 374 = .ok (.iconst 2, 1) := by decide +kernel
theorem d_L_law_375 : decode code 375 = .ok (.iadd, 1) := by decide +kernel
theorem d_L_law_376 : decode code 376 = .ok (.iaload, 1) := by decide +kernel
theorem d_L_law_377 : decode code 377 = .ok (.aload_n 0, 1) := by decide +kernel
theorem d_L_law_378 : decode code 378 = .ok (.iload_n 3, 1) := by decide +kernel
theorem d_L_law_379 : decode code 379 = .ok (.iconst 3, 1) := by decide +kernel
theorem d_L_law_380 : decode code 380 = .ok (.iadd, 1) := by decide +kernel
theorem d_L_law_381 : decode code 381 = .ok (.iaload, 1) := by decide +kernel
theorem d_L_law_382 : decode code 382 = .ok (.invokevirtual 42, 3) := by decide +kernel
theorem d_L_law_385 : decode code 385 = .ok (.aload_n 2, 1) := by decide +kernel
theorem d_L_law_386 : decode code 386 = .ok (.aload_n 0, 1) := by decide +kernel
theorem d_L_law_387 : decode code 387 = .ok (.iload_n 3, 1) := by decide +kernel
theorem d_L_law_388 : decode code 388 = .ok (.iconst 1, 1) := by decide +kernel
theorem d_L_law_389 : decode code 389 = .ok (.iadd, 1) := by decide +kernel
theorem d_L_law_390 : decode code 390 = .ok (.iaload, 1) := by decide +kernel
theorem d_L_law_391 : decode code 391 = .ok (.aload_n 0, 1) := by decide +kernel
theorem d_L_law_392 : decode code 392 = .ok (.iload_n 3, 1) := by decide +kernel
theorem d_L_law_393 : decode code 393 = .ok (.iconst 2, 1) := by decide +kernel
theorem d_L_law_394 : decode code 394 = .ok (.iadd, 1) := by decide +kernel
theorem d_L_law_395 : decode code 395 = .ok (.iaload, 1) := by decide +kernel
theorem d_L_law_396 : decode code 396 = .ok (.aload_n 0, 1) := by decide +kernel
theorem d_L_law_397 : decode code 397 = .ok (.iload_n 3, 1) := by decide +kernel
theorem d_L_law_398 : decode code 398 = .ok (.iconst 3, 1) := by decide +kernel
theorem d_L_law_399 : decode code 399 = .ok (.iadd, 1) := by decide +kernel
theorem d_L_law_400 : decode code 400 = .ok (.iaload, 1) := by decide +kernel
theorem d_L_law_401 : decode code 401 = .ok (.invokevirtual 45, 3) := by decide +kernel
theorem d_L_law_404 : decode code 404 = .ok (.if_icmp .eq 167, 3) := by decide +kernel
theorem d_L_law_407 : decode code 407 = .ok (.iconst 0, 1) := by decide +kernel
theorem d_L_law_408 : decode code 408 = .ok (.ireturn, 1) := by decide +kernel
theorem d_L_law_409 : decode code 409 = .ok (.aload_n 1, 1) := by decide +kernel
theorem d_L_law_410 : decode code 410 = .ok (.aload_n 0, 1) := by decide +kernel
theorem d_L_law_411 : decode code 411 = .ok (.iload_n 3, 1) := by decide +kernel
theorem d_L_law_412 : decode code 412 = .ok (.iconst 1, 1) := by decide +kernel
theorem d_L_law_413 : decode code 413 = .ok (.iadd, 1) := by decide +kernel
theorem d_L_law_414 : decode code 414 = .ok (.iaload, 1) := by decide +kernel
theorem d_L_law_415 : decode code 415 = .ok (.aload_n 0, 1) := by decide +kernel
theorem d_L_law_416 : decode code 416 = .ok (.iload_n 3, 1) := by decide +kernel
theorem d_L_law_417 : decode code 417 = .ok (.iconst 2, 1) := by decide +kernel
theorem d_L_law_418 : decode code 418 = .ok (.iadd, 1) := by decide +kernel
theorem d_L_law_419 : decode code 419 = .ok (.iaload, 1) := by decide +kernel
theorem d_L_law_420 : decode code 420 = .ok (.invokevirtual 46, 3) := by decide +kernel
theorem d_L_law_423 : decode code 423 = .ok (.aload_n 2, 1) := by decide +kernel
theorem d_L_law_424 : decode code 424 = .ok (.aload_n 0, 1) := by decide +kernel
theorem d_L_law_425 : decode code 425 = .ok (.iload_n 3, 1) := by decide +kernel
theorem d_L_law_426 : decode code 426 = .ok (.iconst 1, 1) := by decide +kernel
theorem d_L_law_427 : decode code 427 = .ok (.iadd, 1) := by decide +kernel
theorem d_L_law_428 : decode code 428 = .ok (.iaload, 1) := by decide +kernel
theorem d_L_law_429 : decode code 429 = .ok (.aload_n 0, 1) := by decide +kernel
theorem d_L_law_430 : decode code 430 = .ok (.iload_n 3, 1) := by decide +kernel
theorem d_L_law_431 : decode code 431 = .ok (.iconst 2, 1) := by decide +kernel
theorem d_L_law_432 : decode code 432 = .ok (.iadd, 1) := by decide +kernel
theorem d_L_law_433 : decode code 433 = .ok (.iaload, 1) := by decide +kernel
theorem d_L_law_434 : decode code 434 = .ok (.invokevirtual 49, 3) := by decide +kernel
theorem d_L_law_437 : decode code 437 = .ok (.if_icmp .eq 134, 3) := by decide +kernel
theorem d_L_law_440 : decode code 440 = .ok (.iconst 0, 1) := by decide +kernel
theorem d_L_law_441 : decode code 441 = .ok (.ireturn, 1) := by decide +kernel
theorem d_L_law_442 : decode code 442 = .ok (.aload_n 1, 1) := by decide +kernel
theorem d_L_law_443 : decode code 443 = .ok (.aload_n 0, 1) := by decide +kernel
theorem d_L_law_444 : decode code 444 = .ok (.iload_n 3, 1) := by decide +kernel
theorem d_L_law_445 : decode code 445 = .ok (.iconst 1, 1) := by decide +kernel
theorem d_L_law_446 : decode code 446 = .ok (.iadd, 1) := by decide +kernel
theorem d_L_law_447 : decode code 447 = .ok (.iaload, 1) := by decide +kernel
theorem d_L_law_448 : decode code 448 = .ok (.aload_n 0, 1) := by decide +kernel
theorem d_L_law_449 : decode code 449 = .ok (.iload_n 3, 1) := by decide +kernel
theorem d_L_law_450 : decode code 450 = .ok (.iconst 2, 1) := by decide +kernel
theorem d_L_law_451 : decode code 451 = .ok (.iadd, 1) := by decide +kernel
theorem d_L_law_452 : decode code 452 = .ok (.iaload, 1) := by decide +kernel
theorem d_L_law_453 : decode code 453 = .ok (.invokevirtual 50, 3) := by decide +kernel
theorem d_L_law_456 : decode code 456 = .ok (.aload_n 2, 1) := by decide +kernel
theorem d_L_law_457 : decode code 457 = .ok (.aload_n 0, 1) := by decide +kernel
theorem d_L_law_458 : decode code 458 = .ok (.iload_n 3, 1) := by decide +kernel
theorem d_L_law_459 : decode code 459 = .ok (.iconst 1, 1) := by decide +kernel
theorem d_L_law_460 : decode code 460 = .ok (.iadd, 1) := by decide +kernel
theorem d_L_law_461 : decode code 461 = .ok (.iaload, 1) := by decide +kernel
theorem d_L_law_462 : decode code 462 = .ok (.aload_n 0, 1) := by decide +kernel
theorem d_L_law_463 : decode code 463 = .ok (.iload_n 3, 1) := by decide +kernel
theorem d_L_law_464 : decode code 464 = .ok (.iconst 2, 1) := by decide +kernel
theorem d_L_law_465 : decode code 465 = .ok (.iadd, 1) := by decide +kernel
theorem d_L_law_466 : decode code 466 = .ok (.iaload, 1) := by decide +kernel
theorem d_L_law_467 : decode code 467 = .ok (.invokevirtual 53, 3) := by decide +kernel
theorem d_L_law_470 : decode code 470 = .ok (.if_icmp .eq 101, 3) := by decide +kernel
theorem d_L_law_473 : decode code 473 = .ok (.iconst 0, 1) := by decide +kernel
theorem d_L_law_474 : decode code 474 = .ok (.ireturn, 1) := by decide +kernel
theorem d_L_law_475 : decode code 475 = .ok (.aload_n 1, 1) := by decide +kernel
theorem d_L_law_476 : decode code 476 = .ok (.aload_n 0, 1) := by decide +kernel
theorem d_L_law_477 : decode code 477 = .ok (.iload_n 3, 1) := by decide +kernel
theorem d_L_law_478 : decode code 478 = .ok (.iconst 1, 1) := by decide +kernel
theorem d_L_law_479 : decode code 479 = .ok (.iadd, 1) := by decide +kernel
theorem d_L_law_480 : decode code 480 = .ok (.iaload, 1) := by decide +kernel
theorem d_L_law_481 : decode code 481 = .ok (.aload_n 0, 1) := by decide +kernel
theorem d_L_law_482 : decode code 482 = .ok (.iload_n 3, 1) := by decide +kernel
theorem d_L_law_483 : decode code 483 = .ok (.iconst 2, 1) := by decide +kernel
theorem d_L_law_484 : decode code 484 = .ok (.iadd, 1) := by decide +kernel
theorem d_L_law_485 : decode code 485 = .ok (.iaload, 1) := by decide +kernel
theorem d_L_law_486 : decode code 486 = .ok (.aload_n 0, 1) := by decide +kernel
theorem d_L_law_487 : decode code 487 = .ok (.iload_n 3, 1) := by decide +kernel
theorem d_L_law_488 : decode code 488 = .ok (.iconst 3, 1) := by decide +kernel
theorem d_L_law_489 : decode code 489 = .ok (.iadd, 1) := by decide +kernel
theorem d_L_law_490 : decode code 490 = .ok (.iaload, 1) := by decide +kernel
theorem d_L_law_491 : decode code 491 = .ok (.invokevirtual 54, 3) := by decide +kernel
theorem d_L_law_494 : decode code 494 = .ok (.aload_n 2, 1) := by decide +kernel
theorem d_L_law_495 : decode code 495 = .ok (.aload_n 0, 1) := by decide +kernel
theorem d_L_law_496 : decode code 496 = .ok (.iload_n 3, 1) := by decide +kernel
theorem d_L_law_497 : decode code 497 = .ok (.iconst 1, 1) := by decide +kernel
theorem d_L_law_498 : decode code 498 = .ok (.iadd, 1) := by decide +kernel
theorem d_L_law_499 : decode code 499 = .ok (.iaload, 1) := by decide +kernel
theorem d_L_law_500 : decode code 500 = .ok (.aload_n 0, 1) := by decide +kernel
theorem d_L_law_501 : decode code 501 = .ok (.iload_n 3, 1) := by decide +kernel
theorem d_L_law_502 : decode code 502 = .ok (.iconst 2, 1) := by decide +kernel
theorem d_L_law_503 : decode code 503 = .ok (.iadd, 1) := by decide +kernel
theorem d_L_law_504 : decode code 504 = .ok (.iaload, 1) := by decide +kernel
theorem d_L_law_505 : decode code 505 = .ok (.aload_n 0, 1) := by decide +kernel
theorem d_L_law_506 : decode code 506 = .ok (.iload_n 3, 1) := by decide +kernel
theorem d_L_law_507 : decode code 507 = .ok (.iconst 3, 1) := by decide +kernel
theorem d_L_law_508 : decode code 508 = .ok (.iadd, 1) := by decide +kernel
theorem d_L_law_509 : decode code 509 = .ok (.iaload, 1) := by decide +kernel
theorem d_L_law_510 : decode code 510 = .ok (.invokevirtual 57, 3) := by decide +kernel
theorem d_L_law_513 : decode code 513 = .ok (.if_icmp .eq 58, 3) := by decide +kernel
theorem d_L_law_516 : decode code 516 = .ok (.iconst 0, 1) := by decide +kernel
theorem d_L_law_517 : decode code 517 = .ok (.ireturn, 1) := by decide +kernel
theorem d_L_law_518 : decode code 518 = .ok (.aload_n 1, 1) := by decide +kernel
theorem d_L_law_519 : decode code 519 = .ok (.aload_n 0, 1) := by decide +kernel
theorem d_L_law_520 : decode code 520 = .ok (.iload_n 3, 1) := by decide +kernel
theorem d_L_law_521 : decode code 521 = .ok (.iconst 1, 1) := by decide +kernel
theorem d_L_law_522 : decode code 522 = .ok (.iadd, 1) := by decide +kernel
theorem d_L_law_523 : decode code 523 = .ok (.iaload, 1) := by decide +kernel
theorem d_L_law_524 : decode code 524 = .ok (.aload_n 0, 1) := by decide +kernel
theorem d_L_law_525 : decode code 525 = .ok (.iload_n 3, 1) := by decide +kernel
theorem d_L_law_526 : decode code 526 = .ok (.iconst 2, 1) := by decide +kernel
theorem d_L_law_527 : decode code 527 = .ok (.iadd, 1) := by decide +kernel
theorem d_L_law_528 : decode code 528 = .ok (.iaload, 1) := by decide +kernel
theorem d_L_law_529 : decode code 529 = .ok (.aload_n 0, 1) := by decide +kernel
theorem d_L_law_530 : decode code 530 = .ok (.iload_n 3, 1) := by decide +kernel
theorem d_L_law_531 : decode code 531 = .ok (.iconst 3, 1) := by decide +kernel
theorem d_L_law_532 : decode code 532 = .ok (.iadd, 1) := by decide +kernel
theorem d_L_law_533 : decode code 533 = .ok (.iaload, 1) := by decide +kernel
theorem d_L_law_534 : decode code 534 = .ok (.aload_n 0, 1) := by decide +kernel
theorem d_L_law_535 : decode code 535 = .ok (.iload_n 3, 1) := by decide +kernel
theorem d_L_law_536 : decode code 536 = .ok (.iconst 4, 1) := by decide +kernel
theorem d_L_law_537 : decode code 537 = .ok (.iadd, 1) := by decide +kernel
theorem d_L_law_538 : decode code 538 = .ok (.iaload, 1) := by decide +kernel
theorem d_L_law_539 : decode code 539 = .ok (.invokevirtual 58, 3) := by decide +kernel
theorem d_L_law_542 : decode code 542 = .ok (.aload_n 2, 1) := by decide +kernel
theorem d_L_law_543 : decode code 543 = .ok (.aload_n 0, 1) := by decide +kernel
theorem d_L_law_544 : decode code 544 = .ok (.iload_n 3, 1) := by decide +kernel
theorem d_L_law_545 : decode code 545 = .ok (.iconst 1, 1) := by decide +kernel
theorem d_L_law_546 : decode code 546 = .ok (.iadd, 1) := by decide +kernel
theorem d_L_law_547 : decode code 547 = .ok (.iaload, 1) := by decide +kernel
theorem d_L_law_548 : decode code 548 = .ok (.aload_n 0, 1) := by decide +kernel
theorem d_L_law_549 : decode code 549 = .ok (.iload_n 3, 1) := by decide +kernel
theorem d_L_law_550 : decode code 550 = .ok (.iconst 2, 1) := by decide +kernel
theorem d_L_law_551 : decode code 551 = .ok (.iadd, 1) := by decide +kernel
theorem d_L_law_552 : decode code 552 = .ok (.iaload, 1) := by decide +kernel
theorem d_L_law_553 : decode code 553 = .ok (.aload_n 0, 1) := by decide +kernel
theorem d_L_law_554 : decode code 554 = .ok (.iload_n 3, 1) := by decide +kernel
theorem d_L_law_555 : decode code 555 = .ok (.iconst 3, 1) := by decide +kernel
theorem d_L_law_556 : decode code 556 = .ok (.iadd, 1) := by decide +kernel
theorem d_L_law_557 : decode code 557 = .ok (.iaload, 1) := by decide +kernel
theorem d_L_law_558 : decode code 558 = .ok (.aload_n 0, 1) := by decide +kernel
theorem d_L_law_559 : decode code 559 = .ok (.iload_n 3, 1) := by decide +kernel
theorem d_L_law_560 : decode code 560 = .ok (.iconst 4, 1) := by decide +kernel
theorem d_L_law_561 : decode code 561 = .ok (.iadd, 1) := by decide +kernel
theorem d_L_law_562 : decode code 562 = .ok (.iaload, 1) := by decide +kernel
theorem d_L_law_563 : decode code 563 = .ok (.invokevirtual 62, 3) := by decide +kernel
theorem d_L_law_566 : decode code 566 = .ok (.if_icmp .eq 5, 3) := by decide +kernel
theorem d_L_law_569 : decode code 569 = .ok (.iconst 0, 1) := by decide +kernel
theorem d_L_law_570 : decode code 570 = .ok (.ireturn, 1) := by decide +kernel
theorem d_L_law_571 : decode code 571 = .ok (.iinc 3 5, 3) := by decide +kernel
theorem d_L_law_574 : decode code 574 = .ok (.goto (-556), 3) := by decide +kernel
theorem d_L_law_577 : decode code 577 = .ok (.iconst 1, 1) := by decide +kernel
theorem d_L_law_578 : decode code 578 = .ok (.ireturn, 1) := by decide +kernel
