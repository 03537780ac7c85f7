theorem d_XLaw_law_0 : decode Y_XLaw_law.2.1 0 = .ok (.new 8, 3) := by decide +kernel
theorem d_XLaw_law_3 : decode Y_XLaw_law.2.1 3 = .ok (.dup, 1) := by decide +kernel
theorem d_XLaw_law_4 : decode Y_XLaw_law.2.1 4 = .ok (.invokespecial 67, 3) := by decide +kernel
theorem d_XLaw_law_7 : decode Y_XLaw_law.2.1 7 = .ok (.astore_n 1, 1) := by decide +kernel
theorem d_XLaw_law_8 : decode Y_XLaw_law.2.1 8 = .ok (.new 68, 3) := by decide +kernel
theorem d_XLaw_law_11 : decode Y_XLaw_law.2.1 11 = .ok (.dup, 1) := by decide +kernel
theorem d_XLaw_law_12 : decode Y_XLaw_law.2.1 12 = .ok (.invokespecial 70, 3) := by decide +kernel
theorem d_XLaw_law_15 : decode Y_XLaw_law.2.1 15 = .ok (.astore_n 2, 1) := by decide +kernel
theorem d_XLaw_law_16 : decode Y_XLaw_law.2.1 16 = .ok (.iconst 1, 1) := by decide +kernel
theorem d_XLaw_law_17 : decode Y_XLaw_law.2.1 17 = .ok (.newarray .long, 2) := by decide +kernel
theorem d_XLaw_law_19 : decode Y_XLaw_law.2.1 19 = .ok (.astore_n 3, 1) := by decide +kernel
theorem d_XLaw_law_20 : decode Y_XLaw_law.2.1 20 = .ok (.iconst 0, 1) := by decide +kernel
theorem d_XLaw_law_21 : decode Y_XLaw_law.2.1 21 = .ok (.istore 4, 2) := by decide +kernel
theorem d_XLaw_law_23 : decode Y_XLaw_law.2.1 23 = .ok (.iload 4, 2) := by decide +kernel
theorem d_XLaw_law_25 : decode Y_XLaw_law.2.1 25 = .ok (.aload_n 0, 1) := by decide +kernel
theorem d_XLaw_law_26 : decode Y_XLaw_law.2.1 26 = .ok (.arraylength, 1) := by decide +kernel
theorem d_XLaw_law_27 : decode Y_XLaw_law.2.1 27 = .ok (.iconst 4, 1) := by decide +kernel
theorem d_XLaw_law_28 : decode Y_XLaw_law.2.1 28 = .ok (.isub, 1) := by decide +kernel
theorem d_XLaw_law_29 : decode Y_XLaw_law.2.1 29 = .ok (.if_icmp .gt (1044), 3) := by decide +kernel
theorem d_XLaw_law_32 : decode Y_XLaw_law.2.1 32 = .ok (.aload_n 0, 1) := by decide +kernel
theorem d_XLaw_law_33 : decode Y_XLaw_law.2.1 33 = .ok (.iload 4, 2) := by decide +kernel
theorem d_XLaw_law_35 : decode Y_XLaw_law.2.1 35 = .ok (.iaload, 1) := by decide +kernel
theorem d_XLaw_law_36 : decode Y_XLaw_law.2.1 36 = .ok (.bipush (15), 2) := by decide +kernel
theorem d_XLaw_law_38 : decode Y_XLaw_law.2.1 38 = .ok (.iand, 1) := by decide +kernel
theorem d_XLaw_law_39 : decode Y_XLaw_law.2.1 39 = .ok (.tableswitch (1028) 0 15 #[77, 121, 165, 245, 313, 369, 437, 517, 592, 667, 723, 779, 835, 891, 935, 1003], 77) := by decide +kernel
theorem d_XLaw_law_116 : decode Y_XLaw_law.2.1 116 = .ok (.aload_n 1, 1) := by decide +kernel
theorem d_XLaw_law_117 : decode Y_XLaw_law.2.1 117 = .ok (.aload_n 3, 1) := by decide +kernel
theorem d_XLaw_law_118 : decode Y_XLaw_law.2.1 118 = .ok (.invokestatic 71, 3) := by decide +kernel
theorem d_XLaw_law_121 : decode Y_XLaw_law.2.1 121 = .ok (.istore 5, 2) := by decide +kernel
theorem d_XLaw_law_123 : decode Y_XLaw_law.2.1 123 = .ok (.aload_n 2, 1) := by decide +kernel
theorem d_XLaw_law_124 : decode Y_XLaw_law.2.1 124 = .ok (.invokevirtual 76, 3) := by decide +kernel
theorem d_XLaw_law_127 : decode Y_XLaw_law.2.1 127 = .ok (.istore 6, 2) := by decide +kernel
theorem d_XLaw_law_129 : decode Y_XLaw_law.2.1 129 = .ok (.aload_n 2, 1) := by decide +kernel
theorem d_XLaw_law_130 : decode Y_XLaw_law.2.1 130 = .ok (.invokevirtual 77, 3) := by decide +kernel
theorem d_XLaw_law_133 : decode Y_XLaw_law.2.1 133 = .ok (.iload 5, 2) := by decide +kernel
theorem d_XLaw_law_135 : decode Y_XLaw_law.2.1 135 = .ok (.if_icmp .eq (5), 3) := by decide +kernel
theorem d_XLaw_law_138 : decode Y_XLaw_law.2.1 138 = .ok (.iconst 0, 1) := by decide +kernel
theorem d_XLaw_law_139 : decode Y_XLaw_law.2.1 139 = .ok (.ireturn, 1) := by decide +kernel
theorem d_XLaw_law_140 : decode Y_XLaw_law.2.1 140 = .ok (.iload 5, 2) := by decide +kernel
theorem d_XLaw_law_142 : decode Y_XLaw_law.2.1 142 = .ok (.ifCond .ne (15), 3) := by decide +kernel
theorem d_XLaw_law_145 : decode Y_XLaw_law.2.1 145 = .ok (.aload_n 3, 1) := by decide +kernel
theorem d_XLaw_law_146 : decode Y_XLaw_law.2.1 146 = .ok (.iconst 0, 1) := by decide +kernel
theorem d_XLaw_law_147 : decode Y_XLaw_law.2.1 147 = .ok (.laload, 1) := by decide +kernel
theorem d_XLaw_law_148 : decode Y_XLaw_law.2.1 148 = .ok (.iload 6, 2) := by decide +kernel
theorem d_XLaw_law_150 : decode Y_XLaw_law.2.1 150 = .ok (.i2l, 1) := by decide +kernel
theorem d_XLaw_law_151 : decode Y_XLaw_law.2.1 151 = .ok (.lcmp, 1) := by decide +kernel
theorem d_XLaw_law_152 : decode Y_XLaw_law.2.1 152 = .ok (.ifCond .eq (5), 3) := by decide +kernel
theorem d_XLaw_law_155 : decode Y_XLaw_law.2.1 155 = .ok (.iconst 0, 1) := by decide +kernel
theorem d_XLaw_law_156 : decode Y_XLaw_law.2.1 156 = .ok (.ireturn, 1) := by decide +kernel
theorem d_XLaw_law_157 : decode Y_XLaw_law.2.1 157 = .ok (.goto (910), 3) := by decide +kernel
theorem d_XLaw_law_160 : decode Y_XLaw_law.2.1 160 = .ok (.aload_n 1, 1) := by decide +kernel
theorem d_XLaw_law_161 : decode Y_XLaw_law.2.1 161 = .ok (.aload_n 3, 1) := by decide +kernel
theorem d_XLaw_law_162 : decode Y_XLaw_law.2.1 162 = .ok (.invokestatic 80, 3) := by decide +kernel
theorem d_XLaw_law_165 : decode Y_XLaw_law.2.1 165 = .ok (.istore 5, 2) := by decide +kernel
theorem d_XLaw_law_167 : decode Y_XLaw_law.2.1 167 = .ok (.aload_n 2, 1) := by decide +kernel
theorem d_XLaw_law_168 : decode Y_XLaw_law.2.1 168 = .ok (.invokevirtual 82, 3) := by decide +kernel
theorem d_XLaw_law_171 : decode Y_XLaw_law.2.1 171 = .ok (.istore 6, 2) := by decide +kernel
theorem d_XLaw_law_173 : decode Y_XLaw_law.2.1 173 = .ok (.aload_n 2, 1) := by decide +kernel
theorem d_XLaw_law_174 : decode Y_XLaw_law.2.1 174 = .ok (.invokevirtual 77, 3) := by decide +kernel
theorem d_XLaw_law_177 : decode Y_XLaw_law.2.1 177 = .ok (.iload 5, 2) := by decide +kernel
theorem d_XLaw_law_179 : decode Y_XLaw_law.2.1 179 = .ok (.if_icmp .eq (5), 3) := by decide +kernel
theorem d_XLaw_law_182 : decode Y_XLaw_law.2.1 182 = .ok (.iconst 0, 1) := by decide +kernel
theorem d_XLaw_law_183 : decode Y_XLaw_law.2.1 183 = .ok (.ireturn, 1) := by decide +kernel
theorem d_XLaw_law_184 : decode Y_XLaw_law.2.1 184 = .ok (.iload 5, 2) := by decide +kernel
theorem d_XLaw_law_186 : decode Y_XLaw_law.2.1 186 = .ok (.ifCond .ne (15), 3) := by decide +kernel
theorem d_XLaw_law_189 : decode Y_XLaw_law.2.1 189 = .ok (.aload_n 3, 1) := by decide +kernel
theorem d_XLaw_law_190 : decode Y_XLaw_law.2.1 190 = .ok (.iconst 0, 1) := by decide +kernel
theorem d_XLaw_law_191 : decode Y_XLaw_law.2.1 191 = .ok (.laload, 1) := by decide +kernel
theorem d_XLaw_law_192 : decode Y_XLaw_law.2.1 192 = .ok (.iload 6, 2) := by decide +kernel
theorem d_XLaw_law_194 : decode Y_XLaw_law.2.1 194 = .ok (.i2l, 1) := by decide +kernel
theorem d_XLaw_law_195 : decode Y_XLaw_law.2.1 195 = .ok (.lcmp, 1) := by decide +kernel
theorem d_XLaw_law_196 : decode Y_XLaw_law.2.1 196 = .ok (.ifCond .eq (5), 3) := by decide +kernel
theorem d_XLaw_law_199 : decode Y_XLaw_law.2.1 199 = .ok (.iconst 0, 1) := by decide +kernel
theorem d_XLaw_law_200 : decode Y_XLaw_law.2.1 200 = .ok (.ireturn, 1) := by decide +kernel
theorem d_XLaw_law_201 : decode Y_XLaw_law.2.1 201 = .ok (.goto (866), 3) := by decide +kernel
theorem d_XLaw_law_204 : decode Y_XLaw_law.2.1 204 = .ok (.aload_n 1, 1) := by decide +kernel
theorem d_XLaw_law_205 : decode Y_XLaw_law.2.1 205 = .ok (.aload_n 0, 1) := by decide +kernel
theorem d_XLaw_law_206 : decode Y_XLaw_law.2.1 206 = .ok (.iload 4, 2) := by decide +kernel
theorem d_XLaw_law_208 : decode Y_XLaw_law.2.1 208 = .ok (.iconst 1, 1) := by decide +kernel
theorem d_XLaw_law_209 : decode Y_XLaw_law.2.1 209 = .ok (.iadd, 1) := by decide +kernel
theorem d_XLaw_law_210 : decode Y_XLaw_law.2.1 210 = .ok (.iaload, 1) := by decide +kernel
theorem d_XLaw_law_211 : decode Y_XLaw_law.2.1 211 = .ok (.aload_n 0, 1) := by decide +kernel
theorem d_XLaw_law_212 : decode Y_XLaw_law.2.1 212 = .ok (.iload 4, 2) := by decide +kernel
theorem d_XLaw_law_214 : decode Y_XLaw_law.2.1 214 = .ok (.iconst 2, 1) := by decide +kernel
theorem d_XLaw_law_215 : decode Y_XLaw_law.2.1 215 = .ok (.iadd, 1) := by decide +kernel
theorem d_XLaw_law_216 : decode Y_XLaw_law.2.1 216 = .ok (.iaload, 1) := by decide +kernel
theorem d_XLaw_law_217 : decode Y_XLaw_law.2.1 217 = .ok (.aload_n 0, 1) := by decide +kernel
theorem d_XLaw_law_218 : decode Y_XLaw_law.2.1 218 = .ok (.iload 4, 2) := by decide +kernel
theorem d_XLaw_law_220 : decode Y_XLaw_law.2.1 220 = .ok (.iconst 3, 1) := by decide +kernel
theorem d_XLaw_law_221 : decode Y_XLaw_law.2.1 221 = .ok (.iadd, 1) := by decide +kernel
theorem d_XLaw_law_222 : decode Y_XLaw_law.2.1 222 = .ok (.iaload, 1) := by decide +kernel
theorem d_XLaw_law_223 : decode Y_XLaw_law.2.1 223 = .ok (.aload_n 3, 1) := by decide +kernel
theorem d_XLaw_law_224 : decode Y_XLaw_law.2.1 224 = .ok (.invokestatic 83, 3) := by decide +kernel
theorem d_XLaw_law_227 : decode Y_XLaw_law.2.1 227 = .ok (.istore 5, 2) := by decide +kernel
theorem d_XLaw_law_229 : decode Y_XLaw_law.2.1 229 = .ok (.aload_n 2, 1) := by decide +kernel
theorem d_XLaw_law_230 : decode Y_XLaw_law.2.1 230 = .ok (.aload_n 0, 1) := by decide +kernel
theorem d_XLaw_law_231 : decode Y_XLaw_law.2.1 231 = .ok (.iload 4, 2) := by decide +kernel
theorem d_XLaw_law_233 : decode Y_XLaw_law.2.1 233 = .ok (.iconst 1, 1) := by decide +kernel
theorem d_XLaw_law_234 : decode Y_XLaw_law.2.1 234 = .ok (.iadd, 1) := by decide +kernel
theorem d_XLaw_law_235 : decode Y_XLaw_law.2.1 235 = .ok (.iaload, 1) := by decide +kernel
theorem d_XLaw_law_236 : decode Y_XLaw_law.2.1 236 = .ok (.aload_n 0, 1) := by decide +kernel
theorem d_XLaw_law_237 : decode Y_XLaw_law.2.1 237 = .ok (.iload 4, 2) := by decide +kernel
theorem d_XLaw_law_239 : decode Y_XLaw_law.2.1 239 = .ok (.iconst 2, 1) := by decide +kernel
theorem d_XLaw_law_240 : decode Y_XLaw_law.2.1 240 = .ok (.iadd, 1) := by decide +kernel
theorem d_XLaw_law_241 : decode Y_XLaw_law.2.1 241 = .ok (.iaload, 1) := by decide +kernel
theorem d_XLaw_law_242 : decode Y_XLaw_law.2.1 242 = .ok (.aload_n 0, 1) := by decide +kernel
theorem d_XLaw_law_243 : decode Y_XLaw_law.2.1 243 = .ok (.iload 4, 2) := by decide +kernel
theorem d_XLaw_law_245 : decode Y_XLaw_law.2.1 245 = .ok (.iconst 3, 1) := by decide +kernel
theorem d_XLaw_law_246 : decode Y_XLaw_law.2.1 246 = .ok (.iadd, 1) := by decide +kernel
theorem d_XLaw_law_247 : decode Y_XLaw_law.2.1 247 = .ok (.iaload, 1) := by decide +kernel
theorem d_XLaw_law_248 : decode Y_XLaw_law.2.1 248 = .ok (.invokevirtual 86, 3) := by decide +kernel
theorem d_XLaw_law_251 : decode Y_XLaw_law.2.1 251 = .ok (.istore 6, 2) := by decide +kernel
theorem d_XLaw_law_253 : decode Y_XLaw_law.2.1 253 = .ok (.aload_n 2, 1) := by decide +kernel
theorem d_XLaw_law_254 : decode Y_XLaw_law.2.1 254 = .ok (.invokevirtual 77, 3) := by decide +kernel
theorem d_XLaw_law_257 : decode Y_XLaw_law.2.1 257 = .ok (.iload 5, 2) := by decide +kernel
theorem d_XLaw_law_259 : decode Y_XLaw_law.2.1 259 = .ok (.if_icmp .eq (5), 3) := by decide +kernel
theorem d_XLaw_law_262 : decode Y_XLaw_law.2.1 262 = .ok (.iconst 0, 1) := by decide +kernel
theorem d_XLaw_law_263 : decode Y_XLaw_law.2.1 263 = .ok (.ireturn, 1) := by decide +kernel
theorem d_XLaw_law_264 : decode Y_XLaw_law.2.1 264 = .ok (.iload 5, 2) := by decide +kernel
theorem d_XLaw_law_266 : decode Y_XLaw_law.2.1 266 = .ok (.ifCond .ne (15), 3) := by decide +kernel
theorem d_XLaw_law_269 : decode Y_XLaw_law.2.1 269 = .ok (.aload_n 3, 1) := by decide +kernel
theorem d_XLaw_law_270 : decode Y_XLaw_law.2.1 270 = .ok (.iconst 0, 1) := by decide +kernel
theorem d_XLaw_law_271 : decode Y_XLaw_law.2.1 271 = .ok (.laload, 1) := by decide +kernel
theorem d_XLaw_law_272 : decode Y_XLaw_law.2.1 272 = .ok (.iload 6, 2) := by decide +kernel
theorem d_XLaw_law_274 : decode Y_XLaw_law.2.1 274 = .ok (.i2l, 1) := by decide +kernel
theorem d_XLaw_law_275 : decode Y_XLaw_law.2.1 275 = .ok (.lcmp, 1) := by decide +kernel
theorem d_XLaw_law_276 : decode Y_XLaw_law.2.1 276 = .ok (.ifCond .eq (5), 3) := by decide +kernel
theorem d_XLaw_law_279 : decode Y_XLaw_law.2.1 279 = .ok (.iconst 0, 1) := by decide +kernel
theorem d_XLaw_law_280 : decode Y_XLaw_law.2.1 280 = .ok (.ireturn, 1) := by decide +kernel
theorem d_XLaw_law_281 : decode Y_XLaw_law.2.1 281 = .ok (.goto (786), 3) := by decide +kernel
theorem d_XLaw_law_284 : decode Y_XLaw_law.2.1 284 = .ok (.aload_n 1, 1) := by decide +kernel
theorem d_XLaw_law_285 : decode Y_XLaw_law.2.1 285 = .ok (.aload_n 0, 1) := by decide +kernel
theorem d_XLaw_law_286 : decode Y_XLaw_law.2.1 286 = .ok (.iload 4, 2) := by decide +kernel
theorem d_XLaw_law_288 : decode Y_XLaw_law.2.1 288 = .ok (.iconst 1, 1) := by decide +kernel
theorem d_XLaw_law_289 : decode Y_XLaw_law.2.1 289 = .ok (.iadd, 1) := by decide +kernel
theorem d_XLaw_law_290 : decode Y_XLaw_law.2.1 290 = .ok (.iaload, 1) := by decide +kernel
theorem d_XLaw_law_291 : decode Y_XLaw_law.2.1 291 = .ok (.aload_n 0, 1) := by decide +kernel
theorem d_XLaw_law_292 : decode Y_XLaw_law.2.1 292 = .ok (.iload 4, 2) := by decide +kernel
theorem d_XLaw_law_294 : decode Y_XLaw_law.2.1 294 = .ok (.iconst 2, 1) := by decide +kernel
theorem d_XLaw_law_295 : decode Y_XLaw_law.2.1 295 = .ok (.iadd, 1) := by decide +kernel
theorem d_XLaw_law_296 : decode Y_XLaw_law.2.1 296 = .ok (.iaload, 1) := by decide +kernel
theorem d_XLaw_law_297 : decode Y_XLaw_law.2.1 297 = .ok (.aload_n 3, 1) := by decide +kernel
theorem d_XLaw_law_298 : decode Y_XLaw_law.2.1 298 = .ok (.invokestatic 87, 3) := by decide +kernel
theorem d_XLaw_law_301 : decode Y_XLaw_law.2.1 301 = .ok (.istore 5, 2) := by decide +kernel
theorem d_XLaw_law_303 : decode Y_XLaw_law.2.1 303 = .ok (.aload_n 2, 1) := by decide +kernel
theorem d_XLaw_law_304 : decode Y_XLaw_law.2.1 304 = .ok (.aload_n 0, 1) := by decide +kernel
theorem d_XLaw_law_305 : decode Y_XLaw_law.2.1 305 = .ok (.iload 4, 2) := by decide +kernel
theorem d_XLaw_law_307 : decode Y_XLaw_law.2.1 307 = .ok (.iconst 1, 1) := by decide +kernel
theorem d_XLaw_law_308 : decode Y_XLaw_law.2.1 308 = .ok (.iadd, 1) := by decide +kernel
theorem d_XLaw_law_309 : decode Y_XLaw_law.2.1 309 = .ok (.iaload, 1) := by decide +kernel
theorem d_XLaw_law_310 : decode Y_XLaw_law.2.1 310 = .ok (.aload_n 0, 1) := by decide +kernel
theorem d_XLaw_law_311 : decode Y_XLaw_law.2.1 311 = .ok (.iload 4, 2) := by decide +kernel
theorem d_XLaw_law_313 : decode Y_XLaw_law.2.1 313 = .ok (.iconst 2, 1) := by decide +kernel
theorem d_XLaw_law_314 : decode Y_XLaw_law.2.1 314 = .ok (.iadd, 1) := by decide +kernel
theorem d_XLaw_law_315 : decode Y_XLaw_law.2.1 315 = .ok (.iaload, 1) := by decide +kernel
theorem d_XLaw_law_316 : decode Y_XLaw_law.2.1 316 = .ok (.invokevirtual 90, 3) := by decide +kernel
theorem d_XLaw_law_319 : decode Y_XLaw_law.2.1 319 = .ok (.istore 6, 2) := by decide +kernel
theorem d_XLaw_law_321 : decode Y_XLaw_law.2.1 321 = .ok (.aload_n 2, 1) := by decide +kernel
theorem d_XLaw_law_322 : decode Y_XLaw_law.2.1 322 = .ok (.invokevirtual 77, 3) := by decide +kernel
theorem d_XLaw_law_325 : decode Y_XLaw_law.2.1 325 = .ok (.iload 5, 2) := by decide +kernel
theorem d_XLaw_law_327 : decode Y_XLaw_law.2.1 327 = .ok (.if_icmp .eq (5), 3) := by decide +kernel
theorem d_XLaw_law_330 : decode Y_XLaw_law.2.1 330 = .ok (.iconst 0, 1) := by decide +kernel
theorem d_XLaw_law_331 : decode Y_XLaw_law.2.1 331 = .ok (.ireturn, 1) := by decide +kernel
theorem d_XLaw_law_332 : decode Y_XLaw_law.2.1 332 = .ok (.iload 5, 2) := by decide +kernel
theorem d_XLaw_law_334 : decode Y_XLaw_law.2.1 334 = .ok (.ifCond .ne (15), 3) := by decide +kernel
theorem d_XLaw_law_337 : decode Y_XLaw_law.2.1 337 = .ok (.aload_n 3, 1) := by decide +kernel
theorem d_XLaw_law_338 : decode Y_XLaw_law.2.1 338 = .ok (.iconst 0, 1) := by decide +kernel
theorem d_XLaw_law_339 : decode Y_XLaw_law.2.1 339 = .ok (.laload, 1) := by decide +kernel
theorem d_XLaw_law_340 : decode Y_XLaw_law.2.1 340 = .ok (.iload 6, 2) := by decide +kernel
theorem d_XLaw_law_342 : decode Y_XLaw_law.2.1 342 = .ok (.i2l, 1) := by decide +kernel
theorem d_XLaw_law_343 : decode Y_XLaw_law.2.1 343 = .ok (.lcmp, 1) := by decide +kernel
theorem d_XLaw_law_344 : decode Y_XLaw_law.2.1 344 = .ok (.ifCond .eq (5), 3) := by decide +kernel
theorem d_XLaw_law_347 : decode Y_XLaw_law.2.1 347 = .ok (.iconst 0, 1) := by decide +kernel
theorem d_XLaw_law_348 : decode Y_XLaw_law.2.1 348 = .ok (.ireturn, 1) := by decide +kernel
theorem d_XLaw_law_349 : decode Y_XLaw_law.2.1 349 = .ok (.goto (718), 3) := by decide +kernel
theorem d_XLaw_law_352 : decode Y_XLaw_law.2.1 352 = .ok (.aload_n 1, 1) := by decide +kernel
theorem d_XLaw_law_353 : decode Y_XLaw_law.2.1 353 = .ok (.aload_n 0, 1) := by decide +kernel
theorem d_XLaw_law_354 : decode Y_XLaw_law.2.1 354 = .ok (.iload 4, 2) := by decide +kernel
theorem d_XLaw_law_356 : decode Y_XLaw_law.2.1 356 = .ok (.iconst 1, 1) := by decide +kernel
theorem d_XLaw_law_357 : decode Y_XLaw_law.2.1 357 = .ok (.iadd, 1) := by decide +kernel
theorem d_XLaw_law_358 : decode Y_XLaw_law.2.1 358 = .ok (.iaload, 1) := by decide +kernel
theorem d_XLaw_law_359 : decode Y_XLaw_law.2.1 359 = .ok (.aload_n 3, 1) := by decide +kernel
theorem d_XLaw_law_360 : decode Y_XLaw_law.2.1 360 = .ok (.invokestatic 91, 3) := by decide +kernel
theorem d_XLaw_law_363 : decode Y_XLaw_law.2.1 363 = .ok (.istore 5, 2) := by decide +kernel
theorem d_XLaw_law_365 : decode Y_XLaw_law.2.1 365 = .ok (.aload_n 2, 1) := by decide +kernel
theorem d_XLaw_law_366 : decode Y_XLaw_law.2.1 366 = .ok (.aload_n 0, 1) := by decide +kernel
theorem d_XLaw_law_367 : decode Y_XLaw_law.2.1 367 = .ok (.iload 4, 2) := by decide +kernel
theorem d_XLaw_law_369 : decode Y_XLaw_law.2.1 369 = .ok (.iconst 1, 1) := by decide +kernel
theorem d_XLaw_law_370 : decode Y_XLaw_law.2.1 370 = .ok (.iadd, 1) := by decide +kernel
theorem d_XLaw_law_371 : decode Y_XLaw_law.2.1 371 = .ok (.iaload, 1) := by decide +kernel
theorem d_XLaw_law_372 : decode Y_XLaw_law.2.1 372 = .ok (.invokevirtual 94, 3) := by decide +kernel
theorem d_XLaw_law_375 : decode Y_XLaw_law.2.1 375 = .ok (.istore 6, 2) := by decide +kernel
theorem d_XLaw_law_377 : decode Y_XLaw_law.2.1 377 = .ok (.aload_n 2, 1) := by decide +kernel
theorem d_XLaw_law_378 : decode Y_XLaw_law.2.1 378 = .ok (.invokevirtual 77, 3) := by decide +kernel
theorem d_XLaw_law_381 : decode Y_XLaw_law.2.1 381 = .ok (.iload 5, 2) := by decide +kernel
theorem d_XLaw_law_383 : decode Y_XLaw_law.2.1 383 = .ok (.if_icmp .eq (5), 3) := by decide +kernel
theorem d_XLaw_law_386 : decode Y_XLaw_law.2.1 386 = .ok (.iconst 0, 1) := by decide +kernel
theorem d_XLaw_law_387 : decode Y_XLaw_law.2.1 387 = .ok (.ireturn, 1) := by decide +kernel
theorem d_XLaw_law_388 : decode Y_XLaw_law.2.1 388 = .ok (.iload 5, 2) := by decide +kernel
theorem d_XLaw_law_390 : decode Y_XLaw_law.2.1 390 = .ok (.ifCond .ne (15), 3) := by decide +kernel
theorem d_XLaw_law_393 : decode Y_XLaw_law.2.1 393 = .ok (.aload_n 3, 1) := by decide +kernel
theorem d_XLaw_law_394 : decode Y_XLaw_law.2.1 394 = .ok (.iconst 0, 1) := by decide +kernel
theorem d_XLaw_law_395 : decode Y_XLaw_law.2.1 395 = .ok (.laload, 1) := by decide +kernel
theorem d_XLaw_law_396 : decode Y_XLaw_law.2.1 396 = .ok (.iload 6, 2) := by decide +kernel
theorem d_XLaw_law_398 : decode Y_XLaw_law.2.1 398 = .ok (.i2l, 1) := by decide +kernel
theorem d_XLaw_law_399 : decode Y_XLaw_law.2.1 399 = .ok (.lcmp, 1) := by decide +kernel
theorem d_XLaw_law_400 : decode Y_XLaw_law.2.1 400 = .ok (.ifCond .eq (5), 3) := by decide +kernel
theorem d_XLaw_law_403 : decode Y_XLaw_law.2.1 403 = .ok (.iconst 0, 1) := by decide +kernel
theorem d_XLaw_law_404 : decode Y_XLaw_law.2.1 404 = .ok (.ireturn, 1) := by decide +kernel
theorem d_XLaw_law_405 : decode Y_XLaw_law.2.1 405 = .ok (.goto (662), 3) := by decide +kernel
theorem d_XLaw_law_408 : decode Y_XLaw_law.2.1 408 = .ok (.aload_n 1, 1) := by decide +kernel
theorem d_XLaw_law_409 : decode Y_XLaw_law.2.1 409 = .ok (.aload_n 0, 1) := by decide +kernel
theorem d_XLaw_law_410 : decode Y_XLaw_law.2.1 410 = .ok (.iload 4, 2) := by decide +kernel
theorem d_XLaw_law_412 : decode Y_XLaw_law.2.1 412 = .ok (.iconst 1, 1) := by decide +kernel
theorem d_XLaw_law_413 : decode Y_XLaw_law.2.1 413 = .ok (.iadd, 1) := by decide +kernel
theorem d_XLaw_law_414 : decode Y_XLaw_law.2.1 414 = .ok (.iaload, 1) := by decide +kernel
theorem d_XLaw_law_415 : decode Y_XLaw_law.2.1 415 = .ok (.aload_n 0, 1) := by decide +kernel
theorem d_XLaw_law_416 : decode Y_XLaw_law.2.1 416 = .ok (.iload 4, 2) := by decide +kernel
theorem d_XLaw_law_418 : decode Y_XLaw_law.2.1 418 = .ok (.iconst 2, 1) := by decide +kernel
theorem d_XLaw_law_419 : decode Y_XLaw_law.2.1 419 = .ok (.iadd, 1) := by decide +kernel
theorem d_XLaw_law_420 : decode Y_XLaw_law.2.1 420 = .ok (.iaload, 1) := by decide +kernel
theorem d_XLaw_law_421 : decode Y_XLaw_law.2.1 421 = .ok (.aload_n 3, 1) := by decide +kernel
theorem d_XLaw_law_422 : decode Y_XLaw_law.2.1 422 = .ok (.invokestatic 95, 3) := by decide +kernel
theorem d_XLaw_law_425 : decode Y_XLaw_law.2.1 425 = .ok (.istore 5, 2) := by decide +kernel
theorem d_XLaw_law_427 : decode Y_XLaw_law.2.1 427 = .ok (.aload_n 2, 1) := by decide +kernel
theorem d_XLaw_law_428 : decode Y_XLaw_law.2.1 428 = .ok (.aload_n 0, 1) := by decide +kernel
theorem d_XLaw_law_429 : decode Y_XLaw_law.2.1 429 = .ok (.iload 4, 2) := by decide +kernel
theorem d_XLaw_law_431 : decode Y_XLaw_law.2.1 431 = .ok (.iconst 1, 1) := by decide +kernel
theorem d_XLaw_law_432 : decode Y_XLaw_law.2.1 432 = .ok (.iadd, 1) := by decide +kernel
theorem d_XLaw_law_433 : decode Y_XLaw_law.2.1 433 = .ok (.iaload, 1) := by decide +kernel
theorem d_XLaw_law_434 : decode Y_XLaw_law.2.1 434 = .ok (.aload_n 0, 1) := by decide +kernel
theorem d_XLaw_law_435 : decode Y_XLaw_law.2.1 435 = .ok (.iload 4, 2) := by decide +kernel
theorem d_XLaw_law_437 : decode Y_XLaw_law.2.1 437 = .ok (.iconst 2, 1) := by decide +kernel
theorem d_XLaw_law_438 : decode Y_XLaw_law.2.1 438 = .ok (.iadd, 1) := by decide +kernel
theorem d_XLaw_law_439 : decode Y_XLaw_law.2.1 439 = .ok (.iaload, 1) := by decide +kernel
theorem d_XLaw_law_440 : decode Y_XLaw_law.2.1 440 = .ok (.invokevirtual 97, 3) := by decide +kernel
theorem d_XLaw_law_443 : decode Y_XLaw_law.2.1 443 = .ok (.istore 6, 2) := by decide +kernel
theorem d_XLaw_law_445 : decode Y_XLaw_law.2.1 445 = .ok (.aload_n 2, 1) := by decide +kernel
theorem d_XLaw_law_446 : decode Y_XLaw_law.2.1 446 = .ok (.invokevirtual 77, 3) := by decide +kernel
theorem d_XLaw_law_449 : decode Y_XLaw_law.2.1 449 = .ok (.iload 5, 2) := by decide +kernel
theorem d_XLaw_law_451 : decode Y_XLaw_law.2.1 451 = .ok (.if_icmp .eq (5), 3) := by decide +kernel
theorem d_XLaw_law_454 : decode Y_XLaw_law.2.1 454 = .ok (.iconst 0, 1) := by decide +kernel
theorem d_XLaw_law_455 : decode Y_XLaw_law.2.1 455 = .ok (.ireturn, 1) := by decide +kernel
theorem d_XLaw_law_456 : decode Y_XLaw_law.2.1 456 = .ok (.iload 5, 2) := by decide +kernel
theorem d_XLaw_law_458 : decode Y_XLaw_law.2.1 458 = .ok (.ifCond .ne (15), 3) := by decide +kernel
theorem d_XLaw_law_461 : decode Y_XLaw_law.2.1 461 = .ok (.aload_n 3, 1) := by decide +kernel
theorem d_XLaw_law_462 : decode Y_XLaw_law.2.1 462 = .ok (.iconst 0, 1) := by decide +kernel
theorem d_XLaw_law_463 : decode Y_XLaw_law.2.1 463 = .ok (.laload, 1) := by decide +kernel
theorem d_XLaw_law_464 : decode Y_XLaw_law.2.1 464 = .ok (.iload 6, 2) := by decide +kernel
theorem d_XLaw_law_466 : decode Y_XLaw_law.2.1 466 = .ok (.i2l, 1) := by decide +kernel
theorem d_XLaw_law_467 : decode Y_XLaw_law.2.1 467 = .ok (.lcmp, 1) := by decide +kernel
theorem d_XLaw_law_468 : decode Y_XLaw_law.2.1 468 = .ok (.ifCond .eq (5), 3) := by decide +kernel
theorem d_XLaw_law_471 : decode Y_XLaw_law.2.1 471 = .ok (.iconst 0, 1) := by decide +kernel
theorem d_XLaw_law_472 : decode Y_XLaw_law.2.1 472 = .ok (.ireturn, 1) := by decide +kernel
theorem d_XLaw_law_473 : decode Y_XLaw_law.2.1 473 = .ok (.goto (594), 3) := by decide +kernel
theorem d_XLaw_law_476 : decode Y_XLaw_law.2.1 476 = .ok (.aload_n 1, 1) := by decide +kernel
theorem d_XLaw_law_477 : decode Y_XLaw_law.2.1 477 = .ok (.aload_n 0, 1) := by decide +kernel
theorem d_XLaw_law_478 : decode Y_XLaw_law.2.1 478 = .ok (.iload 4, 2) := by decide +kernel
theorem d_XLaw_law_480 : decode Y_XLaw_law.2.1 480 = .ok (.iconst 1, 1) := by decide +kernel
theorem d_XLaw_law_481 : decode Y_XLaw_law.2.1 481 = .ok (.iadd, 1) := by decide +kernel
theorem d_XLaw_law_482 : decode Y_XLaw_law.2.1 482 = .ok (.iaload, 1) := by decide +kernel
theorem d_XLaw_law_483 : decode Y_XLaw_law.2.1 483 = .ok (.aload_n 0, 1) := by decide +kernel
theorem d_XLaw_law_484 : decode Y_XLaw_law.2.1 484 = .ok (.iload 4, 2) := by decide +kernel
theorem d_XLaw_law_486 : decode Y_XLaw_law.2.1 486 = .ok (.iconst 2, 1) := by decide +kernel
theorem d_XLaw_law_487 : decode Y_XLaw_law.2.1 487 = .ok (.iadd, 1) := by decide +kernel
theorem d_XLaw_law_488 : decode Y_XLaw_law.2.1 488 = .ok (.iaload, 1) := by decide +kernel
theorem d_XLaw_law_489 : decode Y_XLaw_law.2.1 489 = .ok (.aload_n 0, 1) := by decide +kernel
theorem d_XLaw_law_490 : decode Y_XLaw_law.2.1 490 = .ok (.iload 4, 2) := by decide +kernel
theorem d_XLaw_law_492 : decode Y_XLaw_law.2.1 492 = .ok (.iconst 3, 1) := by decide +kernel
theorem d_XLaw_law_493 : decode Y_XLaw_law.2.1 493 = .ok (.iadd, 1) := by decide +kernel
theorem d_XLaw_law_494 : decode Y_XLaw_law.2.1 494 = .ok (.iaload, 1) := by decide +kernel
theorem d_XLaw_law_495 : decode Y_XLaw_law.2.1 495 = .ok (.aload_n 3, 1) := by decide +kernel
theorem d_XLaw_law_496 : decode Y_XLaw_law.2.1 496 = .ok (.invokestatic 98, 3) := by decide +kernel
theorem d_XLaw_law_499 : decode Y_XLaw_law.2.1 499 = .ok (.istore 5, 2) := by decide +kernel
theorem d_XLaw_law_501 : decode Y_XLaw_law.2.1 501 = .ok (.aload_n 2, 1) := by decide +kernel
theorem d_XLaw_law_502 : decode Y_XLaw_law.2.1 502 = .ok (.aload_n 0, 1) := by decide +kernel
theorem d_XLaw_law_503 : decode Y_XLaw_law.2.1 503 = .ok (.iload 4, 2) := by decide +kernel
theorem d_XLaw_law_505 : decode Y_XLaw_law.2.1 505 = .ok (.iconst 1, 1) := by decide +kernel
theorem d_XLaw_law_506 : decode Y_XLaw_law.2.1 506 = .ok (.iadd, 1) := by decide +kernel
theorem d_XLaw_law_507 : decode Y_XLaw_law.2.1 507 = .ok (.iaload, 1) := by decide +kernel
theorem d_XLaw_law_508 : decode Y_XLaw_law.2.1 508 = .ok (.aload_n 0, 1) := by decide +kernel
theorem d_XLaw_law_509 : decode Y_XLaw_law.2.1 509 = .ok (.iload 4, 2) := by decide +kernel
theorem d_XLaw_law_511 : decode Y_XLaw_law.2.1 511 = .ok (.iconst 2, 1) := by decide +kernel
theorem d_XLaw_law_512 : decode Y_XLaw_law.2.1 512 = .ok (.iadd, 1) := by decide +kernel
theorem d_XLaw_law_513 : decode Y_XLaw_law.2.1 513 = .ok (.iaload, 1) := by decide +kernel
theorem d_XLaw_law_514 : decode Y_XLaw_law.2.1 514 = .ok (.aload_n 0, 1) := by decide +kernel
theorem d_XLaw_law_515 : decode Y_XLaw_law.2.1 515 = .ok (.iload 4, 2) := by decide +kernel
theorem d_XLaw_law_517 : decode Y_XLaw_law.2.1 517 = .ok (.iconst 3, 1) := by decide +kernel
theorem d_XLaw_law_518 : decode Y_XLaw_law.2.1 518 = .ok (.iadd, 1) := by decide +kernel
theorem d_XLaw_law_519 : decode Y_XLaw_law.2.1 519 = .ok (.iaload, 1) := by decide +kernel
theorem d_XLaw_law_520 : decode Y_XLaw_law.2.1 520 = .ok (.invokevirtual 100, 3) := by decide +kernel
theorem d_XLaw_law_523 : decode Y_XLaw_law.2.1 523 = .ok (.istore 6, 2) := by decide +kernel
theorem d_XLaw_law_525 : decode Y_XLaw_law.2.1 525 = .ok (.aload_n 2, 1) := by decide +kernel
theorem d_XLaw_law_526 : decode Y_XLaw_law.2.1 526 = .ok (.invokevirtual 77, 3) := by decide +kernel
theorem d_XLaw_law_529 : decode Y_XLaw_law.2.1 529 = .ok (.iload 5, 2) := by decide +kernel
theorem d_XLaw_law_531 : decode Y_XLaw_law.2.1 531 = .ok (.if_icmp .eq (5), 3) := by decide +kernel
theorem d_XLaw_law_534 : decode Y_XLaw_law.2.1 534 = .ok (.iconst 0, 1) := by decide +kernel
theorem d_XLaw_law_535 : decode Y_XLaw_law.2.1 535 = .ok (.ireturn, 1) := by decide +kernel
theorem d_XLaw_law_536 : decode Y_XLaw_law.2.1 536 = .ok (.iload 5, 2) := by decide +kernel
theorem d_XLaw_law_538 : decode Y_XLaw_law.2.1 538 = .ok (.ifCond .ne (15), 3) := by decide +kernel
theorem d_XLaw_law_541 : decode Y_XLaw_law.2.1 541 = .ok (.aload_n 3, 1) := by decide +kernel
theorem d_XLaw_law_542 : decode Y_XLaw_law.2.1 542 = .ok (.iconst 0, 1) := by decide +kernel
theorem d_XLaw_law_543 : decode Y_XLaw_law.2.1 543 = .ok (.laload, 1) := by decide +kernel
theorem d_XLaw_law_544 : decode Y_XLaw_law.2.1 544 = .ok (.iload 6, 2) := by decide +kernel
theorem d_XLaw_law_546 : decode Y_XLaw_law.2.1 546 = .ok (.i2l, 1) := by decide +kernel
theorem d_XLaw_law_547 : decode Y_XLaw_law.2.1 547 = .ok (.lcmp, 1) := by decide +kernel
theorem d_XLaw_law_548 : decode Y_XLaw_law.2.1 548 = .ok (.ifCond .eq (5), 3) := by decide +kernel
theorem d_XLaw_law_551 : decode Y_XLaw_law.2.1 551 = .ok (.iconst 0, 1) := by decide +kernel
theorem d_XLaw_law_552 : decode Y_XLaw_law.2.1 552 = .ok (.ireturn, 1) := by decide +kernel
theorem d_XLaw_law_553 : decode Y_XLaw_law.2.1 553 = .ok (.goto (514), 3) := by decide +kernel
theorem d_XLaw_law_556 : decode Y_XLaw_law.2.1 556 = .ok (.aload_n 1, 1) := by decide +kernel
theorem d_XLaw_law_557 : decode Y_XLaw_law.2.1 557 = .ok (.aload_n 0, 1) := by decide +kernel
theorem d_XLaw_law_558 : decode Y_XLaw_law.2.1 558 = .ok (.iload 4, 2) := by decide +kernel
theorem d_XLaw_law_560 : decode Y_XLaw_law.2.1 560 = .ok (.iconst 1, 1) := by decide +kernel
theorem d_XLaw_law_561 : decode Y_XLaw_law.2.1 561 = .ok (.iadd, 1) := by decide +kernel
theorem d_XLaw_law_562 : decode Y_XLaw_law.2.1 562 = .ok (.iaload, 1) := by decide +kernel
theorem d_XLaw_law_563 : decode Y_XLaw_law.2.1 563 = .ok (.aload_n 0, 1) := by decide +kernel
theorem d_XLaw_law_564 : decode Y_XLaw_law.2.1 564 = .ok (.iload 4, 2) := by decide +kernel
theorem d_XLaw_law_566 : decode Y_XLaw_law.2.1 566 = .ok (.iconst 2, 1) := by decide +kernel
theorem d_XLaw_law_567 : decode Y_XLaw_law.2.1 567 = .ok (.iadd, 1) := by decide +kernel
theorem d_XLaw_law_568 : decode Y_XLaw_law.2.1 568 = .ok (.iaload, 1) := by decide +kernel
theorem d_XLaw_law_569 : decode Y_XLaw_law.2.1 569 = .ok (.aload_n 3, 1) := by decide +kernel
theorem d_XLaw_law_570 : decode Y_XLaw_law.2.1 570 = .ok (.invokestatic 101, 3) := by decide +kernel
theorem d_XLaw_law_573 : decode Y_XLaw_law.2.1 573 = .ok (.istore 5, 2) := by decide +kernel
theorem d_XLaw_law_575 : decode Y_XLaw_law.2.1 575 = .ok (.aload_n 2, 1) := by decide +kernel
theorem d_XLaw_law_576 : decode Y_XLaw_law.2.1 576 = .ok (.aload_n 0, 1) := by decide +kernel
theorem d_XLaw_law_577 : decode Y_XLaw_law.2.1 577 = .ok (.iload 4, 2) := by decide +kernel
theorem d_XLaw_law_579 : decode Y_XLaw_law.2.1 579 = .ok (.iconst 1, 1) := by decide +kernel
theorem d_XLaw_law_580 : decode Y_XLaw_law.2.1 580 = .ok (.iadd, 1) := by decide +kernel
theorem d_XLaw_law_581 : decode Y_XLaw_law.2.1 581 = .ok (.iaload, 1) := by decide +kernel
theorem d_XLaw_law_582 : decode Y_XLaw_law.2.1 582 = .ok (.aload_n 0, 1) := by decide +kernel
theorem d_XLaw_law_583 : decode Y_XLaw_law.2.1 583 = .ok (.iload 4, 2) := by decide +kernel
theorem d_XLaw_law_585 : decode Y_XLaw_law.2.1 585 = .ok (.iconst 2, 1) := by decide +kernel
theorem d_XLaw_law_586 : decode Y_XLaw_law.2.1 586 = .ok (.iadd, 1) := by decide +kernel
theorem d_XLaw_law_587 : decode Y_XLaw_law.2.1 587 = .ok (.iaload, 1) := by decide +kernel
theorem d_XLaw_law_588 : decode Y_XLaw_law.2.1 588 = .ok (.invokevirtual 103, 3) := by decide +kernel
theorem d_XLaw_law_591 : decode Y_XLaw_law.2.1 591 = .ok (.istore 6, 2) := by decide +kernel
theorem d_XLaw_law_593 : decode Y_XLaw_law.2.1 593 = .ok (.aload_n 2, 1) := by decide +kernel
theorem d_XLaw_law_594 : decode Y_XLaw_law.2.1 594 = .ok (.invokevirtual 77, 3) := by decide +kernel
theorem d_XLaw_law_597 : decode Y_XLaw_law.2.1 597 = .ok (.iload 5, 2) := by decide +kernel
theorem d_XLaw_law_599 : decode Y_XLaw_law.2.1 599 = .ok (.if_icmp .eq (5), 3) := by decide +kernel
theorem d_XLaw_law_602 : decode Y_XLaw_law.2.1 602 = .ok (.iconst 0, 1) := by decide +kernel
theorem d_XLaw_law_603 : decode Y_XLaw_law.2.1 603 = .ok (.ireturn, 1) := by decide +kernel
theorem d_XLaw_law_604 : decode Y_XLaw_law.2.1 604 = .ok (.iload 5, 2) := by decide +kernel
theorem d_XLaw_law_606 : decode Y_XLaw_law.2.1 606 = .ok (.ifCond .ne (22), 3) := by decide +kernel
theorem d_XLaw_law_609 : decode Y_XLaw_law.2.1 609 = .ok (.aload_n 3, 1) := by decide +kernel
theorem d_XLaw_law_610 : decode Y_XLaw_law.2.1 610 = .ok (.iconst 0, 1) := by decide +kernel
theorem d_XLaw_law_611 : decode Y_XLaw_law.2.1 611 = .ok (.laload, 1) := by decide +kernel
theorem d_XLaw_law_612 : decode Y_XLaw_law.2.1 612 = .ok (.iload 6, 2) := by decide +kernel
theorem d_XLaw_law_614 : decode Y_XLaw_law.2.1 614 = .ok (.ifCond .eq (7), 3) := by decide +kernel
theorem d_XLaw_law_617 : decode Y_XLaw_law.2.1 617 = .ok (.lconst 1, 1) := by decide +kernel
theorem d_XLaw_law_618 : decode Y_XLaw_law.2.1 618 = .ok (.goto (4), 3) := by decide +kernel
theorem d_XLaw_law_621 : decode Y_XLaw_law.2.1 621 = .ok (.lconst 0, 1) := by decide +kernel
theorem d_XLaw_law_622 : decode Y_XLaw_law.2.1 622 = .ok (.lcmp, 1) := by decide +kernel
theorem d_XLaw_law_623 : decode Y_XLaw_law.2.1 623 = .ok (.ifCond .eq (5), 3) := by decide +kernel
theorem d_XLaw_law_626 : decode Y_XLaw_law.2.1 626 = .ok (.iconst 0, 1) := by decide +kernel
theorem d_XLaw_law_627 : decode Y_XLaw_law.2.1 627 = .ok (.ireturn, 1) := by decide +kernel
theorem d_XLaw_law_628 : decode Y_XLaw_law.2.1 628 = .ok (.goto (439), 3) := by decide +kernel
theorem d_XLaw_law_631 : decode Y_XLaw_law.2.1 631 = .ok (.aload_n 1, 1) := by decide +kernel
theorem d_XLaw_law_632 : decode Y_XLaw_law.2.1 632 = .ok (.aload_n 0, 1) := by decide +kernel
theorem d_XLaw_law_633 : decode Y_XLaw_law.2.1 633 = .ok (.iload 4, 2) := by decide +kernel
theorem d_XLaw_law_635 : decode Y_XLaw_law.2.1 635 = .ok (.iconst 1, 1) := by decide +kernel
theorem d_XLaw_law_636 : decode Y_XLaw_law.2.1 636 = .ok (.iadd, 1) := by decide +kernel
theorem d_XLaw_law_637 : decode Y_XLaw_law.2.1 637 = .ok (.iaload, 1) := by decide +kernel
theorem d_XLaw_law_638 : decode Y_XLaw_law.2.1 638 = .ok (.aload_n 0, 1) := by decide +kernel
theorem d_XLaw_law_639 : decode Y_XLaw_law.2.1 639 = .ok (.iload 4, 2) := by decide +kernel
theorem d_XLaw_law_641 : decode Y_XLaw_law.2.1 641 = .ok (.iconst 2, 1) := by decide +kernel
theorem d_XLaw_law_642 : decode Y_XLaw_law.2.1 642 = .ok (.iadd, 1) := by decide +kernel
theorem d_XLaw_law_643 : decode Y_XLaw_law.2.1 643 = .ok (.iaload, 1) := by decide +kernel
theorem d_XLaw_law_644 : decode Y_XLaw_law.2.1 644 = .ok (.aload_n 3, 1) := by decide +kernel
theorem d_XLaw_law_645 : decode Y_XLaw_law.2.1 645 = .ok (.invokestatic 104, 3) := by decide +kernel
theorem d_XLaw_law_648 : decode Y_XLaw_law.2.1 648 = .ok (.istore 5, 2) := by decide +kernel
theorem d_XLaw_law_650 : decode Y_XLaw_law.2.1 650 = .ok (.aload_n 2, 1) := by decide +kernel
theorem d_XLaw_law_651 : decode Y_XLaw_law.2.1 651 = .ok (.aload_n 0, 1) := by decide +kernel
theorem d_XLaw_law_652 : decode Y_XLaw_law.2.1 652 = .ok (.iload 4, 2) := by decide +kernel
theorem d_XLaw_law_654 : decode Y_XLaw_law.2.1 654 = .ok (.iconst 1, 1) := by decide +kernel
theorem d_XLaw_law_655 : decode Y_XLaw_law.2.1 655 = .ok (.iadd, 1) := by decide +kernel
theorem d_XLaw_law_656 : decode Y_XLaw_law.2.1 656 = .ok (.iaload, 1) := by decide +kernel
theorem d_XLaw_law_657 : decode Y_XLaw_law.2.1 657 = .ok (.aload_n 0, 1) := by decide +kernel
theorem d_XLaw_law_658 : decode Y_XLaw_law.2.1 658 = .ok (.iload 4, 2) := by decide +kernel
theorem d_XLaw_law_660 : decode Y_XLaw_law.2.1 660 = .ok (.iconst 2, 1) := by decide +kernel
theorem d_XLaw_law_661 : decode Y_XLaw_law.2.1 661 = .ok (.iadd, 1) := by decide +kernel
theorem d_XLaw_law_662 : decode Y_XLaw_law.2.1 662 = .ok (.iaload, 1) := by decide +kernel
theorem d_XLaw_law_663 : decode Y_XLaw_law.2.1 663 = .ok (.invokevirtual 106, 3) := by decide +kernel
theorem d_XLaw_law_666 : decode Y_XLaw_law.2.1 666 = .ok (.istore 6, 2) := by decide +kernel
theorem d_XLaw_law_668 : decode Y_XLaw_law.2.1 668 = .ok (.aload_n 2, 1) := by decide +kernel
theorem d_XLaw_law_669 : decode Y_XLaw_law.2.1 669 = .ok (.invokevirtual 77, 3) := by decide +kernel
theorem d_XLaw_law_672 : decode Y_XLaw_law.2.1 672 = .ok (.iload 5, 2) := by decide +kernel
theorem d_XLaw_law_674 : decode Y_XLaw_law.2.1 674 = .ok (.if_icmp .eq (5), 3) := by decide +kernel
theorem d_XLaw_law_677 : decode Y_XLaw_law.2.1 677 = .ok (.iconst 0, 1) := by decide +kernel
theorem d_XLaw_law_678 : decode Y_XLaw_law.2.1 678 = .ok (.ireturn, 1) := by decide +kernel
theorem d_XLaw_law_679 : decode Y_XLaw_law.2.1 679 = .ok (.iload 5, 2) := by decide +kernel
theorem d_XLaw_law_681 : decode Y_XLaw_law.2.1 681 = .ok (.ifCond .ne (22), 3) := by decide +kernel
theorem d_XLaw_law_684 : decode Y_XLaw_law.2.1 684 = .ok (.aload_n 3, 1) := by decide +kernel
theorem d_XLaw_law_685 : decode Y_XLaw_law.2.1 685 = .ok (.iconst 0, 1) := by decide +kernel
theorem d_XLaw_law_686 : decode Y_XLaw_law.2.1 686 = .ok (.laload, 1) := by decide +kernel
theorem d_XLaw_law_687 : decode Y_XLaw_law.2.1 687 = .ok (.iload 6, 2) := by decide +kernel
theorem d_XLaw_law_689 : decode Y_XLaw_law.2.1 689 = .ok (.ifCond .eq (7), 3) := by decide +kernel
theorem d_XLaw_law_692 : decode Y_XLaw_law.2.1 692 = .ok (.lconst 1, 1) := by decide +kernel
theorem d_XLaw_law_693 : decode Y_XLaw_law.2.1 693 = .ok (.goto (4), 3) := by decide +kernel
theorem d_XLaw_law_696 : decode Y_XLaw_law.2.1 696 = .ok (.lconst 0, 1) := by decide +kernel
theorem d_XLaw_law_697 : decode Y_XLaw_law.2.1 697 = .ok (.lcmp, 1) := by decide +kernel
theorem d_XLaw_law_698 : decode Y_XLaw_law.2.1 698 = .ok (.ifCond .eq (5), 3) := by decide +kernel
theorem d_XLaw_law_701 : decode Y_XLaw_law.2.1 701 = .ok (.iconst 0, 1) := by decide +kernel
theorem d_XLaw_law_702 : decode Y_XLaw_law.2.1 702 = .ok (.ireturn, 1) := by decide +kernel
theorem d_XLaw_law_703 : decode Y_XLaw_law.2.1 703 = .ok (.goto (364), 3) := by decide +kernel
theorem d_XLaw_law_706 : decode Y_XLaw_law.2.1 706 = .ok (.aload_n 1, 1) := by decide +kernel
theorem d_XLaw_law_707 : decode Y_XLaw_law.2.1 707 = .ok (.aload_n 0, 1) := by decide +kernel
theorem d_XLaw_law_708 : decode Y_XLaw_law.2.1 708 = .ok (.iload 4, 2) := by decide +kernel
theorem d_XLaw_law_710 : decode Y_XLaw_law.2.1 710 = .ok (.iconst 1, 1) := by decide +kernel
theorem d_XLaw_law_711 : decode Y_XLaw_law.2.1 711 = .ok (.iadd, 1) := by decide +kernel
theorem d_XLaw_law_712 : decode Y_XLaw_law.2.1 712 = .ok (.iaload, 1) := by decide +kernel
theorem d_XLaw_law_713 : decode Y_XLaw_law.2.1 713 = .ok (.aload_n 3, 1) := by decide +kernel
theorem d_XLaw_law_714 : decode Y_XLaw_law.2.1 714 = .ok (.invokestatic 107, 3) := by decide +kernel
theorem d_XLaw_law_717 : decode Y_XLaw_law.2.1 717 = .ok (.istore 5, 2) := by decide +kernel
theorem d_XLaw_law_719 : decode Y_XLaw_law.2.1 719 = .ok (.aload_n 2, 1) := by decide +kernel
theorem d_XLaw_law_720 : decode Y_XLaw_law.2.1 720 = .ok (.aload_n 0, 1) := by decide +kernel
theorem d_XLaw_law_721 : decode Y_XLaw_law.2.1 721 = .ok (.iload 4, 2) := by decide +kernel
theorem d_XLaw_law_723 : decode Y_XLaw_law.2.1 723 = .ok (.iconst 1, 1) := by decide +kernel
theorem d_XLaw_law_724 : decode Y_XLaw_law.2.1 724 = .ok (.iadd, 1) := by decide +kernel
theorem d_XLaw_law_725 : decode Y_XLaw_law.2.1 725 = .ok (.iaload, 1) := by decide +kernel
theorem d_XLaw_law_726 : decode Y_XLaw_law.2.1 726 = .ok (.invokevirtual 109, 3) := by decide +kernel
theorem d_XLaw_law_729 : decode Y_XLaw_law.2.1 729 = .ok (.istore 6, 2) := by decide +kernel
theorem d_XLaw_law_731 : decode Y_XLaw_law.2.1 731 = .ok (.aload_n 2, 1) := by decide +kernel
theorem d_XLaw_law_732 : decode Y_XLaw_law.2.1 732 = .ok (.invokevirtual 77, 3) := by decide +kernel
theorem d_XLaw_law_735 : decode Y_XLaw_law.2.1 735 = .ok (.iload 5, 2) := by decide +kernel
theorem d_XLaw_law_737 : decode Y_XLaw_law.2.1 737 = .ok (.if_icmp .eq (5), 3) := by decide +kernel
theorem d_XLaw_law_740 : decode Y_XLaw_law.2.1 740 = .ok (.iconst 0, 1) := by decide +kernel
theorem d_XLaw_law_741 : decode Y_XLaw_law.2.1 741 = .ok (.ireturn, 1) := by decide +kernel
theorem d_XLaw_law_742 : decode Y_XLaw_law.2.1 742 = .ok (.iload 5, 2) := by decide +kernel
theorem d_XLaw_law_744 : decode Y_XLaw_law.2.1 744 = .ok (.ifCond .ne (15), 3) := by decide +kernel
theorem d_XLaw_law_747 : decode Y_XLaw_law.2.1 747 = .ok (.aload_n 3, 1) := by decide +kernel
theorem d_XLaw_law_748 : decode Y_XLaw_law.2.1 748 = .ok (.iconst 0, 1) := by decide +kernel
theorem d_XLaw_law_749 : decode Y_XLaw_law.2.1 749 = .ok (.laload, 1) := by decide +kernel
theorem d_XLaw_law_750 : decode Y_XLaw_law.2.1 750 = .ok (.iload 6, 2) := by decide +kernel
theorem d_XLaw_law_752 : decode Y_XLaw_law.2.1 752 = .ok (.i2l, 1) := by decide +kernel
theorem d_XLaw_law_753 : decode Y_XLaw_law.2.1 753 = .ok (.lcmp, 1) := by decide +kernel
theorem d_XLaw_law_754 : decode Y_XLaw_law.2.1 754 = .ok (.ifCond .eq (5), 3) := by decide +kernel
theorem d_XLaw_law_757 : decode Y_XLaw_law.2.1 757 = .ok (.iconst 0, 1) := by decide +kernel
theorem d_XLaw_law_758 : decode Y_XLaw_law.2.1 758 = .ok (.ireturn, 1) := by decide +kernel
theorem d_XLaw_law_759 : decode Y_XLaw_law.2.1 759 = .ok (.goto (308), 3) := by decide +kernel
theorem d_XLaw_law_762 : decode Y_XLaw_law.2.1 762 = .ok (.aload_n 1, 1) := by decide +kernel
theorem d_XLaw_law_763 : decode Y_XLaw_law.2.1 763 = .ok (.aload_n 0, 1) := by decide +kernel
theorem d_XLaw_law_764 : decode Y_XLaw_law.2.1 764 = .ok (.iload 4, 2) := by decide +kernel
theorem d_XLaw_law_766 : decode Y_XLaw_law.2.1 766 = .ok (.iconst 1, 1) := by decide +kernel
theorem d_XLaw_law_767 : decode Y_XLaw_law.2.1 767 = .ok (.iadd, 1) := by decide +kernel
theorem d_XLaw_law_768 : decode Y_XLaw_law.2.1 768 = .ok (.iaload, 1) := by decide +kernel
theorem d_XLaw_law_769 : decode Y_XLaw_law.2.1 769 = .ok (.aload_n 3, 1) := by decide +kernel
theorem d_XLaw_law_770 : decode Y_XLaw_law.2.1 770 = .ok (.invokestatic 110, 3) := by decide +kernel
theorem d_XLaw_law_773 : decode Y_XLaw_law.2.1 773 = .ok (.istore 5, 2) := by decide +kernel
theorem d_XLaw_law_775 : decode Y_XLaw_law.2.1 775 = .ok (.aload_n 2, 1) := by decide +kernel
theorem d_XLaw_law_776 : decode Y_XLaw_law.2.1 776 = .ok (.aload_n 0, 1) := by decide +kernel
theorem d_XLaw_law_777 : decode Y_XLaw_law.2.1 777 = .ok (.iload 4, 2) := by decide +kernel
theorem d_XLaw_law_779 : decode Y_XLaw_law.2.1 779 = .ok (.iconst 1, 1) := by decide +kernel
theorem d_XLaw_law_780 : decode Y_XLaw_law.2.1 780 = .ok (.iadd, 1) := by decide +kernel
theorem d_XLaw_law_781 : decode Y_XLaw_law.2.1 781 = .ok (.iaload, 1) := by decide +kernel
theorem d_XLaw_law_782 : decode Y_XLaw_law.2.1 782 = .ok (.invokevirtual 112, 3) := by decide +kernel
theorem d_XLaw_law_785 : decode Y_XLaw_law.2.1 785 = .ok (.istore 6, 2) := by decide +kernel
theorem d_XLaw_law_787 : decode Y_XLaw_law.2.1 787 = .ok (.aload_n 2, 1) := by decide +kernel
theorem d_XLaw_law_788 : decode Y_XLaw_law.2.1 788 = .ok (.invokevirtual 77, 3) := by decide +kernel
theorem d_XLaw_law_791 : decode Y_XLaw_law.2.1 791 = .ok (.iload 5, 2) := by decide +kernel
theorem d_XLaw_law_793 : decode Y_XLaw_law.2.1 793 = .ok (.if_icmp .eq (5), 3) := by decide +kernel
theorem d_XLaw_law_796 : decode Y_XLaw_law.2.1 796 = .ok (.iconst 0, 1) := by decide +kernel
theorem d_XLaw_law_797 : decode Y_XLaw_law.2.1 797 = .ok (.ireturn, 1) := by decide +kernel
theorem d_XLaw_law_798 : decode Y_XLaw_law.2.1 798 = .ok (.iload 5, 2) := by decide +kernel
theorem d_XLaw_law_800 : decode Y_XLaw_law.2.1 800 = .ok (.ifCond .ne (15), 3) := by decide +kernel
theorem d_XLaw_law_803 : decode Y_XLaw_law.2.1 803 = .ok (.aload_n 3, 1) := by decide +kernel
theorem d_XLaw_law_804 : decode Y_XLaw_law.2.1 804 = .ok (.iconst 0, 1) := by decide +kernel
theorem d_XLaw_law_805 : decode Y_XLaw_law.2.1 805 = .ok (.laload, 1) := by decide +kernel
theorem d_XLaw_law_806 : decode Y_XLaw_law.2.1 806 = .ok (.iload 6, 2) := by decide +kernel
theorem d_XLaw_law_808 : decode Y_XLaw_law.2.1 808 = .ok (.i2l, 1) := by decide +kernel
theorem d_XLaw_law_809 : decode Y_XLaw_law.2.1 809 = .ok (.lcmp, 1) := by decide +kernel
theorem d_XLaw_law_810 : decode Y_XLaw_law.2.1 810 = .ok (.ifCond .eq (5), 3) := by decide +kernel
theorem d_XLaw_law_813 : decode Y_XLaw_law.2.1 813 = .ok (.iconst 0, 1) := by decide +kernel
theorem d_XLaw_law_814 : decode Y_XLaw_law.2.1 814 = .ok (.ireturn, 1) := by decide +kernel
theorem d_XLaw_law_815 : decode Y_XLaw_law.2.1 815 = .ok (.goto (252), 3) := by decide +kernel
theorem d_XLaw_law_818 : decode Y_XLaw_law.2.1 818 = .ok (.aload_n 1, 1) := by decide +kernel
theorem d_XLaw_law_819 : decode Y_XLaw_law.2.1 819 = .ok (.aload_n 0, 1) := by decide +kernel
theorem d_XLaw_law_820 : decode Y_XLaw_law.2.1 820 = .ok (.iload 4, 2) := by decide +kernel
theorem d_XLaw_law_822 : decode Y_XLaw_law.2.1 822 = .ok (.iconst 1, 1) := by decide +kernel
theorem d_XLaw_law_823 : decode Y_XLaw_law.2.1 823 = .ok (.iadd, 1) := by decide +kernel
theorem d_XLaw_law_824 : decode Y_XLaw_law.2.1 824 = .ok (.iaload, 1) := by decide +kernel
theorem d_XLaw_law_825 : decode Y_XLaw_law.2.1 825 = .ok (.aload_n 3, 1) := by decide +kernel
theorem d_XLaw_law_826 : decode Y_XLaw_law.2.1 826 = .ok (.invokestatic 113, 3) := by decide +kernel
theorem d_XLaw_law_829 : decode Y_XLaw_law.2.1 829 = .ok (.istore 5, 2) := by decide +kernel
theorem d_XLaw_law_831 : decode Y_XLaw_law.2.1 831 = .ok (.aload_n 2, 1) := by decide +kernel
theorem d_XLaw_law_832 : decode Y_XLaw_law.2.1 832 = .ok (.aload_n 0, 1) := by decide +kernel
theorem d_XLaw_law_833 : decode Y_XLaw_law.2.1 833 = .ok (.iload 4, 2) := by decide +kernel
theorem d_XLaw_law_835 : decode Y_XLaw_law.2.1 835 = .ok (.iconst 1, 1) := by decide +kernel
theorem d_XLaw_law_836 : decode Y_XLaw_law.2.1 836 = .ok (.iadd, 1) := by decide +kernel
theorem d_XLaw_law_837 : decode Y_XLaw_law.2.1 837 = .ok (.iaload, 1) := by decide +kernel
theorem d_XLaw_law_838 : decode Y_XLaw_law.2.1 838 = .ok (.invokevirtual 115, 3) := by decide +kernel
theorem d_XLaw_law_841 : decode Y_XLaw_law.2.1 841 = .ok (.istore 6, 2) := by decide +kernel
theorem d_XLaw_law_843 : decode Y_XLaw_law.2.1 843 = .ok (.aload_n 2, 1) := by decide +kernel
theorem d_XLaw_law_844 : decode Y_XLaw_law.2.1 844 = .ok (.invokevirtual 77, 3) := by decide +kernel
theorem d_XLaw_law_847 : decode Y_XLaw_law.2.1 847 = .ok (.iload 5, 2) := by decide +kernel
theorem d_XLaw_law_849 : decode Y_XLaw_law.2.1 849 = .ok (.if_icmp .eq (5), 3) := by decide +kernel
theorem d_XLaw_law_852 : decode Y_XLaw_law.2.1 852 = .ok (.iconst 0, 1) := by decide +kernel
theorem d_XLaw_law_853 : decode Y_XLaw_law.2.1 853 = .ok (.ireturn, 1) := by decide +kernel
theorem d_XLaw_law_854 : decode Y_XLaw_law.2.1 854 = .ok (.iload 5, 2) := by decide +kernel
theorem d_XLaw_law_856 : decode Y_XLaw_law.2.1 856 = .ok (.ifCond .ne (15), 3) := by decide +kernel
theorem d_XLaw_law_859 : decode Y_XLaw_law.2.1 859 = .ok (.aload_n 3, 1) := by decide +kernel
theorem d_XLaw_law_860 : decode Y_XLaw_law.2.1 860 = .ok (.iconst 0, 1) := by decide +kernel
theorem d_XLaw_law_861 : decode Y_XLaw_law.2.1 861 = .ok (.laload, 1) := by decide +kernel
theorem d_XLaw_law_862 : decode Y_XLaw_law.2.1 862 = .ok (.iload 6, 2) := by decide +kernel
theorem d_XLaw_law_864 : decode Y_XLaw_law.2.1 864 = .ok (.i2l, 1) := by decide +kernel
theorem d_XLaw_law_865 : decode Y_XLaw_law.2.1 865 = .ok (.lcmp, 1) := by decide +kernel
theorem d_XLaw_law_866 : decode Y_XLaw_law.2.1 866 = .ok (.ifCond .eq (5), 3) := by decide +kernel
theorem d_XLaw_law_869 : decode Y_XLaw_law.2.1 869 = .ok (.iconst 0, 1) := by decide +kernel
theorem d_XLaw_law_870 : decode Y_XLaw_law.2.1 870 = .ok (.ireturn, 1) := by decide +kernel
theorem d_XLaw_law_871 : decode Y_XLaw_law.2.1 871 = .ok (.goto (196), 3) := by decide +kernel
theorem d_XLaw_law_874 : decode Y_XLaw_law.2.1 874 = .ok (.aload_n 1, 1) := by decide +kernel
theorem d_XLaw_law_875 : decode Y_XLaw_law.2.1 875 = .ok (.aload_n 0, 1) := by decide +kernel
theorem d_XLaw_law_876 : decode Y_XLaw_law.2.1 876 = .ok (.iload 4, 2) := by decide +kernel
theorem d_XLaw_law_878 : decode Y_XLaw_law.2.1 878 = .ok (.iconst 1, 1) := by decide +kernel
theorem d_XLaw_law_879 : decode Y_XLaw_law.2.1 879 = .ok (.iadd, 1) := by decide +kernel
theorem d_XLaw_law_880 : decode Y_XLaw_law.2.1 880 = .ok (.iaload, 1) := by decide +kernel
theorem d_XLaw_law_881 : decode Y_XLaw_law.2.1 881 = .ok (.aload_n 3, 1) := by decide +kernel
theorem d_XLaw_law_882 : decode Y_XLaw_law.2.1 882 = .ok (.invokestatic 116, 3) := by decide +kernel
theorem d_XLaw_law_885 : decode Y_XLaw_law.2.1 885 = .ok (.istore 5, 2) := by decide +kernel
theorem d_XLaw_law_887 : decode Y_XLaw_law.2.1 887 = .ok (.aload_n 2, 1) := by decide +kernel
theorem d_XLaw_law_888 : decode Y_XLaw_law.2.1 888 = .ok (.aload_n 0, 1) := by decide +kernel
theorem d_XLaw_law_889 : decode Y_XLaw_law.2.1 889 = .ok (.iload 4, 2) := by decide +kernel
theorem d_XLaw_law_891 : decode Y_XLaw_law.2.1 891 = .ok (.iconst 1, 1) := by decide +kernel
theorem d_XLaw_law_892 : decode Y_XLaw_law.2.1 892 = .ok (.iadd, 1) := by decide +kernel
theorem d_XLaw_law_893 : decode Y_XLaw_law.2.1 893 = .ok (.iaload, 1) := by decide +kernel
theorem d_XLaw_law_894 : decode Y_XLaw_law.2.1 894 = .ok (.invokevirtual 118, 3) := by decide +kernel
theorem d_XLaw_law_897 : decode Y_XLaw_law.2.1 897 = .ok (.istore 6, 2) := by decide +kernel
theorem d_XLaw_law_899 : decode Y_XLaw_law.2.1 899 = .ok (.aload_n 2, 1) := by decide +kernel
theorem d_XLaw_law_900 : decode Y_XLaw_law.2.1 900 = .ok (.invokevirtual 77, 3) := by decide +kernel
theorem d_XLaw_law_903 : decode Y_XLaw_law.2.1 903 = .ok (.iload 5, 2) := by decide +kernel
theorem d_XLaw_law_905 : decode Y_XLaw_law.2.1 905 = .ok (.if_icmp .eq (5), 3) := by decide +kernel
theorem d_XLaw_law_908 : decode Y_XLaw_law.2.1 908 = .ok (.iconst 0, 1) := by decide +kernel
theorem d_XLaw_law_909 : decode Y_XLaw_law.2.1 909 = .ok (.ireturn, 1) := by decide +kernel
theorem d_XLaw_law_910 : decode Y_XLaw_law.2.1 910 = .ok (.iload 5, 2) := by decide +kernel
theorem d_XLaw_law_912 : decode Y_XLaw_law.2.1 912 = .ok (.ifCond .ne (15), 3) := by decide +kernel
theorem d_XLaw_law_915 : decode Y_XLaw_law.2.1 915 = .ok (.aload_n 3, 1) := by decide +kernel
theorem d_XLaw_law_916 : decode Y_XLaw_law.2.1 916 = .ok (.iconst 0, 1) := by decide +kernel
theorem d_XLaw_law_917 : decode Y_XLaw_law.2.1 917 = .ok (.laload, 1) := by decide +kernel
theorem d_XLaw_law_918 : decode Y_XLaw_law.2.1 918 = .ok (.iload 6, 2) := by decide +kernel
theorem d_XLaw_law_920 : decode Y_XLaw_law.2.1 920 = .ok (.i2l, 1) := by decide +kernel
theorem d_XLaw_law_921 : decode Y_XLaw_law.2.1 921 = .ok (.lcmp, 1) := by decide +kernel
theorem d_XLaw_law_922 : decode Y_XLaw_law.2.1 922 = .ok (.ifCond .eq (5), 3) := by decide +kernel
theorem d_XLaw_law_925 : decode Y_XLaw_law.2.1 925 = .ok (.iconst 0, 1) := by decide +kernel
theorem d_XLaw_law_926 : decode Y_XLaw_law.2.1 926 = .ok (.ireturn, 1) := by decide +kernel
theorem d_XLaw_law_927 : decode Y_XLaw_law.2.1 927 = .ok (.goto (140), 3) := by decide +kernel
theorem d_XLaw_law_930 : decode Y_XLaw_law.2.1 930 = .ok (.aload_n 1, 1) := by decide +kernel
theorem d_XLaw_law_931 : decode Y_XLaw_law.2.1 931 = .ok (.aload_n 3, 1) := by decide +kernel
theorem d_XLaw_law_932 : decode Y_XLaw_law.2.1 932 = .ok (.invokestatic 119, 3) := by decide +kernel
theorem d_XLaw_law_935 : decode Y_XLaw_law.2.1 935 = .ok (.istore 5, 2) := by decide +kernel
theorem d_XLaw_law_937 : decode Y_XLaw_law.2.1 937 = .ok (.aload_n 2, 1) := by decide +kernel
theorem d_XLaw_law_938 : decode Y_XLaw_law.2.1 938 = .ok (.invokevirtual 121, 3) := by decide +kernel
theorem d_XLaw_law_941 : decode Y_XLaw_law.2.1 941 = .ok (.istore 6, 2) := by decide +kernel
theorem d_XLaw_law_943 : decode Y_XLaw_law.2.1 943 = .ok (.aload_n 2, 1) := by decide +kernel
theorem d_XLaw_law_944 : decode Y_XLaw_law.2.1 944 = .ok (.invokevirtual 77, 3) := by decide +kernel
theorem d_XLaw_law_947 : decode Y_XLaw_law.2.1 947 = .ok (.iload 5, 2) := by decide +kernel
theorem d_XLaw_law_949 : decode Y_XLaw_law.2.1 949 = .ok (.if_icmp .eq (5), 3) := by decide +kernel
theorem d_XLaw_law_952 : decode Y_XLaw_law.2.1 952 = .ok (.iconst 0, 1) := by decide +kernel
theorem d_XLaw_law_953 : decode Y_XLaw_law.2.1 953 = .ok (.ireturn, 1) := by decide +kernel
theorem d_XLaw_law_954 : decode Y_XLaw_law.2.1 954 = .ok (.iload 5, 2) := by decide +kernel
theorem d_XLaw_law_956 : decode Y_XLaw_law.2.1 956 = .ok (.ifCond .ne (15), 3) := by decide +kernel
theorem d_XLaw_law_959 : decode Y_XLaw_law.2.1 959 = .ok (.aload_n 3, 1) := by decide +kernel
theorem d_XLaw_law_960 : decode Y_XLaw_law.2.1 960 = .ok (.iconst 0, 1) := by decide +kernel
theorem d_XLaw_law_961 : decode Y_XLaw_law.2.1 961 = .ok (.laload, 1) := by decide +kernel
theorem d_XLaw_law_962 : decode Y_XLaw_law.2.1 962 = .ok (.iload 6, 2) := by decide +kernel
theorem d_XLaw_law_964 : decode Y_XLaw_law.2.1 964 = .ok (.i2l, 1) := by decide +kernel
theorem d_XLaw_law_965 : decode Y_XLaw_law.2.1 965 = .ok (.lcmp, 1) := by decide +kernel
theorem d_XLaw_law_966 : decode Y_XLaw_law.2.1 966 = .ok (.ifCond .eq (5), 3) := by decide +kernel
theorem d_XLaw_law_969 : decode Y_XLaw_law.2.1 969 = .ok (.iconst 0, 1) := by decide +kernel
theorem d_XLaw_law_970 : decode Y_XLaw_law.2.1 970 = .ok (.ireturn, 1) := by decide +kernel
theorem d_XLaw_law_971 : decode Y_XLaw_law.2.1 971 = .ok (.goto (96), 3) := by decide +kernel
theorem d_XLaw_law_974 : decode Y_XLaw_law.2.1 974 = .ok (.aload_n 1, 1) := by decide +kernel
theorem d_XLaw_law_975 : decode Y_XLaw_law.2.1 975 = .ok (.aload_n 0, 1) := by decide +kernel
theorem d_XLaw_law_976 : decode Y_XLaw_law.2.1 976 = .ok (.iload 4, 2) := by decide +kernel
theorem d_XLaw_law_978 : decode Y_XLaw_law.2.1 978 = .ok (.iconst 1, 1) := by decide +kernel
theorem d_XLaw_law_979 : decode Y_XLaw_law.2.1 979 = .ok (.iadd, 1) := by decide +kernel
theorem d_XLaw_law_980 : decode Y_XLaw_law.2.1 980 = .ok (.iaload, 1) := by decide +kernel
theorem d_XLaw_law_981 : decode Y_XLaw_law.2.1 981 = .ok (.aload_n 0, 1) := by decide +kernel
theorem d_XLaw_law_982 : decode Y_XLaw_law.2.1 982 = .ok (.iload 4, 2) := by decide +kernel
theorem d_XLaw_law_984 : decode Y_XLaw_law.2.1 984 = .ok (.iconst 2, 1) := by decide +kernel
theorem d_XLaw_law_985 : decode Y_XLaw_law.2.1 985 = .ok (.iadd, 1) := by decide +kernel
theorem d_XLaw_law_986 : decode Y_XLaw_law.2.1 986 = .ok (.iaload, 1) := by decide +kernel
theorem d_XLaw_law_987 : decode Y_XLaw_law.2.1 987 = .ok (.aload_n 3, 1) := by decide +kernel
theorem d_XLaw_law_988 : decode Y_XLaw_law.2.1 988 = .ok (.invokestatic 122, 3) := by decide +kernel
theorem d_XLaw_law_991 : decode Y_XLaw_law.2.1 991 = .ok (.istore 5, 2) := by decide +kernel
theorem d_XLaw_law_993 : decode Y_XLaw_law.2.1 993 = .ok (.aload_n 2, 1) := by decide +kernel
theorem d_XLaw_law_994 : decode Y_XLaw_law.2.1 994 = .ok (.aload_n 0, 1) := by decide +kernel
theorem d_XLaw_law_995 : decode Y_XLaw_law.2.1 995 = .ok (.iload 4, 2) := by decide +kernel
theorem d_XLaw_law_997 : decode Y_XLaw_law.2.1 997 = .ok (.iconst 1, 1) := by decide +kernel
theorem d_XLaw_law_998 : decode Y_XLaw_law.2.1 998 = .ok (.iadd, 1) := by decide +kernel
theorem d_XLaw_law_999 : decode Y_XLaw_law.2.1 999 = .ok (.iaload, 1) := by decide +kernel
theorem d_XLaw_law_1000 : decode Y_XLaw_law.2.1 1000 = .ok (.aload_n 0, 1) := by decide +kernel
theorem d_XLaw_law_1001 : decode Y_XLaw_law.2.1 1001 = .ok (.iload 4, 2) := by decide +kernel
theorem d_XLaw_law_1003 : decode Y_XLaw_law.2.1 1003 = .ok (.iconst 2, 1) := by decide +kernel
theorem d_XLaw_law_1004 : decode Y_XLaw_law.2.1 1004 = .ok (.iadd, 1) := by decide +kernel
theorem d_XLaw_law_1005 : decode Y_XLaw_law.2.1 1005 = .ok (.iaload, 1) := by decide +kernel
theorem d_XLaw_law_1006 : decode Y_XLaw_law.2.1 1006 = .ok (.invokevirtual 124, 3) := by decide +kernel
theorem d_XLaw_law_1009 : decode Y_XLaw_law.2.1 1009 = .ok (.istore 6, 2) := by decide +kernel
theorem d_XLaw_law_1011 : decode Y_XLaw_law.2.1 1011 = .ok (.aload_n 2, 1) := by decide +kernel
theorem d_XLaw_law_1012 : decode Y_XLaw_law.2.1 1012 = .ok (.invokevirtual 77, 3) := by decide +kernel
theorem d_XLaw_law_1015 : decode Y_XLaw_law.2.1 1015 = .ok (.iload 5, 2) := by decide +kernel
theorem d_XLaw_law_1017 : decode Y_XLaw_law.2.1 1017 = .ok (.if_icmp .eq (5), 3) := by decide +kernel
theorem d_XLaw_law_1020 : decode Y_XLaw_law.2.1 1020 = .ok (.iconst 0, 1) := by decide +kernel
theorem d_XLaw_law_1021 : decode Y_XLaw_law.2.1 1021 = .ok (.ireturn, 1) := by decide +kernel
theorem d_XLaw_law_1022 : decode Y_XLaw_law.2.1 1022 = .ok (.iload 5, 2) := by decide +kernel
theorem d_XLaw_law_1024 : decode Y_XLaw_law.2.1 1024 = .ok (.ifCond .ne (15), 3) := by decide +kernel
theorem d_XLaw_law_1027 : decode Y_XLaw_law.2.1 1027 = .ok (.aload_n 3, 1) := by decide +kernel
theorem d_XLaw_law_1028 : decode Y_XLaw_law.2.1 1028 = .ok (.iconst 0, 1) := by decide +kernel
theorem d_XLaw_law_1029 : decode Y_XLaw_law.2.1 1029 = .ok (.laload, 1) := by decide +kernel
theorem d_XLaw_law_1030 : decode Y_XLaw_law.2.1 1030 = .ok (.iload 6, 2) := by decide +kernel
theorem d_XLaw_law_1032 : decode Y_XLaw_law.2.1 1032 = .ok (.i2l, 1) := by decide +kernel
theorem d_XLaw_law_1033 : decode Y_XLaw_law.2.1 1033 = .ok (.lcmp, 1) := by decide +kernel
theorem d_XLaw_law_1034 : decode Y_XLaw_law.2.1 1034 = .ok (.ifCond .eq (5), 3) := by decide +kernel
theorem d_XLaw_law_1037 : decode Y_XLaw_law.2.1 1037 = .ok (.iconst 0, 1) := by decide +kernel
theorem d_XLaw_law_1038 : decode Y_XLaw_law.2.1 1038 = .ok (.ireturn, 1) := by decide +kernel
theorem d_XLaw_law_1039 : decode Y_XLaw_law.2.1 1039 = .ok (.goto (28), 3) := by decide +kernel
theorem d_XLaw_law_1042 : decode Y_XLaw_law.2.1 1042 = .ok (.aload_n 1, 1) := by decide +kernel
theorem d_XLaw_law_1043 : decode Y_XLaw_law.2.1 1043 = .ok (.aload_n 0, 1) := by decide +kernel
theorem d_XLaw_law_1044 : decode Y_XLaw_law.2.1 1044 = .ok (.iload 4, 2) := by decide +kernel
theorem d_XLaw_law_1046 : decode Y_XLaw_law.2.1 1046 = .ok (.iconst 1, 1) := by decide +kernel
theorem d_XLaw_law_1047 : decode Y_XLaw_law.2.1 1047 = .ok (.iadd, 1) := by decide +kernel
theorem d_XLaw_law_1048 : decode Y_XLaw_law.2.1 1048 = .ok (.iaload, 1) := by decide +kernel
theorem d_XLaw_law_1049 : decode Y_XLaw_law.2.1 1049 = .ok (.invokevirtual 125, 3) := by decide +kernel
theorem d_XLaw_law_1052 : decode Y_XLaw_law.2.1 1052 = .ok (.aload_n 2, 1) := by decide +kernel
theorem d_XLaw_law_1053 : decode Y_XLaw_law.2.1 1053 = .ok (.aload_n 0, 1) := by decide +kernel
theorem d_XLaw_law_1054 : decode Y_XLaw_law.2.1 1054 = .ok (.iload 4, 2) := by decide +kernel
theorem d_XLaw_law_1056 : decode Y_XLaw_law.2.1 1056 = .ok (.iconst 1, 1) := by decide +kernel
theorem d_XLaw_law_1057 : decode Y_XLaw_law.2.1 1057 = .ok (.iadd, 1) := by decide +kernel
theorem d_XLaw_law_1058 : decode Y_XLaw_law.2.1 1058 = .ok (.iaload, 1) := by decide +kernel
theorem d_XLaw_law_1059 : decode Y_XLaw_law.2.1 1059 = .ok (.invokevirtual 128, 3) := by decide +kernel
theorem d_XLaw_law_1062 : decode Y_XLaw_law.2.1 1062 = .ok (.if_icmp .eq (5), 3) := by decide +kernel
theorem d_XLaw_law_1065 : decode Y_XLaw_law.2.1 1065 = .ok (.iconst 0, 1) := by decide +kernel
theorem d_XLaw_law_1066 : decode Y_XLaw_law.2.1 1066 = .ok (.ireturn, 1) := by decide +kernel
theorem d_XLaw_law_1067 : decode Y_XLaw_law.2.1 1067 = .ok (.iinc 4 (4), 3) := by decide +kernel
theorem d_XLaw_law_1070 : decode Y_XLaw_law.2.1 1070 = .ok (.goto (-1047), 3) := by decide +kernel
theorem d_XLaw_law_1073 : decode Y_XLaw_law.2.1 1073 = .ok (.iconst 1, 1) := by decide +kernel
theorem d_XLaw_law_1074 : decode Y_XLaw_law.2.1 1074 = .ok (.ireturn, 1) := by decide +kernel
def F_XLaw_law_1067 (xs : Nat → Int32) (Ls : Nat) (n : Nat) (rec23 : Nat → Nat → Nat → Int32 → PM → qO) (l1 : Nat) (l2 : Nat) (l3 : Nat) (l4 : Int32) (M : PM) : qO :=
  bI (l4 + (4 : Int32)) (fun v1 =>
  rec23 l1 l2 l3 v1 M)
set_option maxHeartbeats 4000000 in
set_option maxRecDepth 100000 in
theorem E_XLaw_law_1067 {g : qG} {X : qX} {Z : qZ} {xs : Nat → Int32} {Ls : Nat} (hxs : g.2.2.2.1.2 = (Ls, xs)) (hn : 16 ≤ zn Z) (hl : 408 ≤ zl Z) {n : Nat} {rec23 : Nat → Nat → Nat → Int32 → PM → qO} (hrec23 : ∀ (l1 : Nat) (l2 : Nat) (l3 : Nat) (l4 : Int32) (M : PM), rec23 l1 l2 l3 l4 M = some (zr Z, zf Z) → EW Y_XLaw_law g X Z 23 [(0, .retAddr 0), (1, .ref l1), (2, .ref l2), (3, .ref l3), (4, .int l4)] [] M) {l1 : Nat} {l2 : Nat} {l3 : Nat} {l4 : Int32} {M : PM} (h : F_XLaw_law_1067 xs Ls n rec23 l1 l2 l3 l4 M = some (zr Z, zf Z)) : EW Y_XLaw_law g X Z 1067 [(0, .retAddr 0), (1, .ref l1), (2, .ref l2), (3, .ref l3), (4, .int l4)] [] M := by
  unfold F_XLaw_law_1067 at h
  obtain ⟨v1, ev1, h⟩ := bI_inv h
  refine ew_iinc (L' := [(0, .retAddr 0), (1, .ref l1), (2, .ref l2), (3, .ref l3), (4, .int v1)]) v1 [1, 2, 3, 4, 0] d_XLaw_law_1067 rfl (by rw [ev1]; rfl) (by decide) rfl ?_
  refine ew_goto 23 d_XLaw_law_1070 (by decide) ?_
  exact hrec23 l1 l2 l3 v1 M h
def F_XLaw_law_1039 (xs : Nat → Int32) (Ls : Nat) (n : Nat) (rec23 : Nat → Nat → Nat → Int32 → PM → qO) (l1 : Nat) (l2 : Nat) (l3 : Nat) (l4 : Int32) (M : PM) : qO :=
  F_XLaw_law_1067 xs Ls n rec23 l1 l2 l3 l4 M
set_option maxHeartbeats 4000000 in
set_option maxRecDepth 100000 in
theorem E_XLaw_law_1039 {g : qG} {X : qX} {Z : qZ} {xs : Nat → Int32} {Ls : Nat} (hxs : g.2.2.2.1.2 = (Ls, xs)) (hn : 16 ≤ zn Z) (hl : 408 ≤ zl Z) {n : Nat} {rec23 : Nat → Nat → Nat → Int32 → PM → qO} (hrec23 : ∀ (l1 : Nat) (l2 : Nat) (l3 : Nat) (l4 : Int32) (M : PM), rec23 l1 l2 l3 l4 M = some (zr Z, zf Z) → EW Y_XLaw_law g X Z 23 [(0, .retAddr 0), (1, .ref l1), (2, .ref l2), (3, .ref l3), (4, .int l4)] [] M) {l1 : Nat} {l2 : Nat} {l3 : Nat} {l4 : Int32} {M : PM} (h : F_XLaw_law_1039 xs Ls n rec23 l1 l2 l3 l4 M = some (zr Z, zf Z)) : EW Y_XLaw_law g X Z 1039 [(0, .retAddr 0), (1, .ref l1), (2, .ref l2), (3, .ref l3), (4, .int l4)] [] M := by
  unfold F_XLaw_law_1039 at h
  refine ew_goto 1067 d_XLaw_law_1039 (by decide) ?_
  exact E_XLaw_law_1067 hxs hn hl hrec23 h
def F_XLaw_law_971 (xs : Nat → Int32) (Ls : Nat) (n : Nat) (rec23 : Nat → Nat → Nat → Int32 → PM → qO) (l1 : Nat) (l2 : Nat) (l3 : Nat) (l4 : Int32) (M : PM) : qO :=
  F_XLaw_law_1067 xs Ls n rec23 l1 l2 l3 l4 M
set_option maxHeartbeats 4000000 in
set_option maxRecDepth 100000 in
theorem E_XLaw_law_971 {g : qG} {X : qX} {Z : qZ} {xs : Nat → Int32} {Ls : Nat} (hxs : g.2.2.2.1.2 = (Ls, xs)) (hn : 16 ≤ zn Z) (hl : 408 ≤ zl Z) {n : Nat} {rec23 : Nat → Nat → Nat → Int32 → PM → qO} (hrec23 : ∀ (l1 : Nat) (l2 : Nat) (l3 : Nat) (l4 : Int32) (M : PM), rec23 l1 l2 l3 l4 M = some (zr Z, zf Z) → EW Y_XLaw_law g X Z 23 [(0, .retAddr 0), (1, .ref l1), (2, .ref l2), (3, .ref l3), (4, .int l4)] [] M) {l1 : Nat} {l2 : Nat} {l3 : Nat} {l4 : Int32} {M : PM} (h : F_XLaw_law_971 xs Ls n rec23 l1 l2 l3 l4 M = some (zr Z, zf Z)) : EW Y_XLaw_law g X Z 971 [(0, .retAddr 0), (1, .ref l1), (2, .ref l2), (3, .ref l3), (4, .int l4)] [] M := by
  unfold F_XLaw_law_971 at h
  refine ew_goto 1067 d_XLaw_law_971 (by decide) ?_
  exact E_XLaw_law_1067 hxs hn hl hrec23 h
def F_XLaw_law_927 (xs : Nat → Int32) (Ls : Nat) (n : Nat) (rec23 : Nat → Nat → Nat → Int32 → PM → qO) (l1 : Nat) (l2 : Nat) (l3 : Nat) (l4 : Int32) (M : PM) : qO :=
  F_XLaw_law_1067 xs Ls n rec23 l1 l2 l3 l4 M
set_option maxHeartbeats 4000000 in
set_option maxRecDepth 100000 in
theorem E_XLaw_law_927 {g : qG} {X : qX} {Z : qZ} {xs : Nat → Int32} {Ls : Nat} (hxs : g.2.2.2.1.2 = (Ls, xs)) (hn : 16 ≤ zn Z) (hl : 408 ≤ zl Z) {n : Nat} {rec23 : Nat → Nat → Nat → Int32 → PM → qO} (hrec23 : ∀ (l1 : Nat) (l2 : Nat) (l3 : Nat) (l4 : Int32) (M : PM), rec23 l1 l2 l3 l4 M = some (zr Z, zf Z) → EW Y_XLaw_law g X Z 23 [(0, .retAddr 0), (1, .ref l1), (2, .ref l2), (3, .ref l3), (4, .int l4)] [] M) {l1 : Nat} {l2 : Nat} {l3 : Nat} {l4 : Int32} {M : PM} (h : F_XLaw_law_927 xs Ls n rec23 l1 l2 l3 l4 M = some (zr Z, zf Z)) : EW Y_XLaw_law g X Z 927 [(0, .retAddr 0), (1, .ref l1), (2, .ref l2), (3, .ref l3), (4, .int l4)] [] M := by
  unfold F_XLaw_law_927 at h
  refine ew_goto 1067 d_XLaw_law_927 (by decide) ?_
  exact E_XLaw_law_1067 hxs hn hl hrec23 h
def F_XLaw_law_871 (xs : Nat → Int32) (Ls : Nat) (n : Nat) (rec23 : Nat → Nat → Nat → Int32 → PM → qO) (l1 : Nat) (l2 : Nat) (l3 : Nat) (l4 : Int32) (M : PM) : qO :=
  F_XLaw_law_1067 xs Ls n rec23 l1 l2 l3 l4 M
set_option maxHeartbeats 4000000 in
set_option maxRecDepth 100000 in
theorem E_XLaw_law_871 {g : qG} {X : qX} {Z : qZ} {xs : Nat → Int32} {Ls : Nat} (hxs : g.2.2.2.1.2 = (Ls, xs)) (hn : 16 ≤ zn Z) (hl : 408 ≤ zl Z) {n : Nat} {rec23 : Nat → Nat → Nat → Int32 → PM → qO} (hrec23 : ∀ (l1 : Nat) (l2 : Nat) (l3 : Nat) (l4 : Int32) (M : PM), rec23 l1 l2 l3 l4 M = some (zr Z, zf Z) → EW Y_XLaw_law g X Z 23 [(0, .retAddr 0), (1, .ref l1), (2, .ref l2), (3, .ref l3), (4, .int l4)] [] M) {l1 : Nat} {l2 : Nat} {l3 : Nat} {l4 : Int32} {M : PM} (h : F_XLaw_law_871 xs Ls n rec23 l1 l2 l3 l4 M = some (zr Z, zf Z)) : EW Y_XLaw_law g X Z 871 [(0, .retAddr 0), (1, .ref l1), (2, .ref l2), (3, .ref l3), (4, .int l4)] [] M := by
  unfold F_XLaw_law_871 at h
  refine ew_goto 1067 d_XLaw_law_871 (by decide) ?_
  exact E_XLaw_law_1067 hxs hn hl hrec23 h
def F_XLaw_law_815 (xs : Nat → Int32) (Ls : Nat) (n : Nat) (rec23 : Nat → Nat → Nat → Int32 → PM → qO) (l1 : Nat) (l2 : Nat) (l3 : Nat) (l4 : Int32) (M : PM) : qO :=
  F_XLaw_law_1067 xs Ls n rec23 l1 l2 l3 l4 M
set_option maxHeartbeats 4000000 in
set_option maxRecDepth 100000 in
theorem E_XLaw_law_815 {g : qG} {X : qX} {Z : qZ} {xs : Nat → Int32} {Ls : Nat} (hxs : g.2.2.2.1.2 = (Ls, xs)) (hn : 16 ≤ zn Z) (hl : 408 ≤ zl Z) {n : Nat} {rec23 : Nat → Nat → Nat → Int32 → PM → qO} (hrec23 : ∀ (l1 : Nat) (l2 : Nat) (l3 : Nat) (l4 : Int32) (M : PM), rec23 l1 l2 l3 l4 M = some (zr Z, zf Z) → EW Y_XLaw_law g X Z 23 [(0, .retAddr 0), (1, .ref l1), (2, .ref l2), (3, .ref l3), (4, .int l4)] [] M) {l1 : Nat} {l2 : Nat} {l3 : Nat} {l4 : Int32} {M : PM} (h : F_XLaw_law_815 xs Ls n rec23 l1 l2 l3 l4 M = some (zr Z, zf Z)) : EW Y_XLaw_law g X Z 815 [(0, .retAddr 0), (1, .ref l1), (2, .ref l2), (3, .ref l3), (4, .int l4)] [] M := by
  unfold F_XLaw_law_815 at h
  refine ew_goto 1067 d_XLaw_law_815 (by decide) ?_
  exact E_XLaw_law_1067 hxs hn hl hrec23 h
def F_XLaw_law_759 (xs : Nat → Int32) (Ls : Nat) (n : Nat) (rec23 : Nat → Nat → Nat → Int32 → PM → qO) (l1 : Nat) (l2 : Nat) (l3 : Nat) (l4 : Int32) (M : PM) : qO :=
  F_XLaw_law_1067 xs Ls n rec23 l1 l2 l3 l4 M
set_option maxHeartbeats 4000000 in
set_option maxRecDepth 100000 in
theorem E_XLaw_law_759 {g : qG} {X : qX} {Z : qZ} {xs : Nat → Int32} {Ls : Nat} (hxs : g.2.2.2.1.2 = (Ls, xs)) (hn : 16 ≤ zn Z) (hl : 408 ≤ zl Z) {n : Nat} {rec23 : Nat → Nat → Nat → Int32 → PM → qO} (hrec23 : ∀ (l1 : Nat) (l2 : Nat) (l3 : Nat) (l4 : Int32) (M : PM), rec23 l1 l2 l3 l4 M = some (zr Z, zf Z) → EW Y_XLaw_law g X Z 23 [(0, .retAddr 0), (1, .ref l1), (2, .ref l2), (3, .ref l3), (4, .int l4)] [] M) {l1 : Nat} {l2 : Nat} {l3 : Nat} {l4 : Int32} {M : PM} (h : F_XLaw_law_759 xs Ls n rec23 l1 l2 l3 l4 M = some (zr Z, zf Z)) : EW Y_XLaw_law g X Z 759 [(0, .retAddr 0), (1, .ref l1), (2, .ref l2), (3, .ref l3), (4, .int l4)] [] M := by
  unfold F_XLaw_law_759 at h
  refine ew_goto 1067 d_XLaw_law_759 (by decide) ?_
  exact E_XLaw_law_1067 hxs hn hl hrec23 h
def F_XLaw_law_703 (xs : Nat → Int32) (Ls : Nat) (n : Nat) (rec23 : Nat → Nat → Nat → Int32 → PM → qO) (l1 : Nat) (l2 : Nat) (l3 : Nat) (l4 : Int32) (M : PM) : qO :=
  F_XLaw_law_1067 xs Ls n rec23 l1 l2 l3 l4 M
set_option maxHeartbeats 4000000 in
set_option maxRecDepth 100000 in
theorem E_XLaw_law_703 {g : qG} {X : qX} {Z : qZ} {xs : Nat → Int32} {Ls : Nat} (hxs : g.2.2.2.1.2 = (Ls, xs)) (hn : 16 ≤ zn Z) (hl : 408 ≤ zl Z) {n : Nat} {rec23 : Nat → Nat → Nat → Int32 → PM → qO} (hrec23 : ∀ (l1 : Nat) (l2 : Nat) (l3 : Nat) (l4 : Int32) (M : PM), rec23 l1 l2 l3 l4 M = some (zr Z, zf Z) → EW Y_XLaw_law g X Z 23 [(0, .retAddr 0), (1, .ref l1), (2, .ref l2), (3, .ref l3), (4, .int l4)] [] M) {l1 : Nat} {l2 : Nat} {l3 : Nat} {l4 : Int32} {M : PM} (h : F_XLaw_law_703 xs Ls n rec23 l1 l2 l3 l4 M = some (zr Z, zf Z)) : EW Y_XLaw_law g X Z 703 [(0, .retAddr 0), (1, .ref l1), (2, .ref l2), (3, .ref l3), (4, .int l4)] [] M := by
  unfold F_XLaw_law_703 at h
  refine ew_goto 1067 d_XLaw_law_703 (by decide) ?_
  exact E_XLaw_law_1067 hxs hn hl hrec23 h
def F_XLaw_law_697 (xs : Nat → Int32) (Ls : Nat) (n : Nat) (rec23 : Nat → Nat → Nat → Int32 → PM → qO) (l1 : Nat) (l2 : Nat) (l3 : Nat) (l4 : Int32) (s0 : Int64) (s1 : Int64) (M : PM) : qO :=
  if (lg_cmp s0 s1) = (0 : Int32) then
    F_XLaw_law_703 xs Ls n rec23 l1 l2 l3 l4 M
  else
    some (.inl (some (.int (0 : Int32))), M)
set_option maxHeartbeats 4000000 in
set_option maxRecDepth 100000 in
theorem E_XLaw_law_697 {g : qG} {X : qX} {Z : qZ} {xs : Nat → Int32} {Ls : Nat} (hxs : g.2.2.2.1.2 = (Ls, xs)) (hn : 16 ≤ zn Z) (hl : 408 ≤ zl Z) {n : Nat} {rec23 : Nat → Nat → Nat → Int32 → PM → qO} (hrec23 : ∀ (l1 : Nat) (l2 : Nat) (l3 : Nat) (l4 : Int32) (M : PM), rec23 l1 l2 l3 l4 M = some (zr Z, zf Z) → EW Y_XLaw_law g X Z 23 [(0, .retAddr 0), (1, .ref l1), (2, .ref l2), (3, .ref l3), (4, .int l4)] [] M) {l1 : Nat} {l2 : Nat} {l3 : Nat} {l4 : Int32} {s0 : Int64} {s1 : Int64} {M : PM} (h : F_XLaw_law_697 xs Ls n rec23 l1 l2 l3 l4 s0 s1 M = some (zr Z, zf Z)) : EW Y_XLaw_law g X Z 697 [(0, .retAddr 0), (1, .ref l1), (2, .ref l2), (3, .ref l3), (4, .int l4)] [.long s1, .long s0] M := by
  unfold F_XLaw_law_697 at h
  refine ew_lcmp d_XLaw_law_697 ?_
  refine ew_if_eq 703 d_XLaw_law_698 (by decide) (fun c1 => ?_) (fun c1 => ?_)
  · rw [if_pos c1] at h
    exact E_XLaw_law_703 hxs hn hl hrec23 h
  · rw [if_neg c1] at h
    refine ew_iconst (0) d_XLaw_law_701 (by decide) ?_
    obtain ⟨hz, hm⟩ := Prod.mk.inj (Option.some.inj h)
    exact ew_zreturn d_XLaw_law_702 rfl hz.symm hm.symm rfl
def F_XLaw_law_628 (xs : Nat → Int32) (Ls : Nat) (n : Nat) (rec23 : Nat → Nat → Nat → Int32 → PM → qO) (l1 : Nat) (l2 : Nat) (l3 : Nat) (l4 : Int32) (M : PM) : qO :=
  F_XLaw_law_1067 xs Ls n rec23 l1 l2 l3 l4 M
set_option maxHeartbeats 4000000 in
set_option maxRecDepth 100000 in
theorem E_XLaw_law_628 {g : qG} {X : qX} {Z : qZ} {xs : Nat → Int32} {Ls : Nat} (hxs : g.2.2.2.1.2 = (Ls, xs)) (hn : 16 ≤ zn Z) (hl : 408 ≤ zl Z) {n : Nat} {rec23 : Nat → Nat → Nat → Int32 → PM → qO} (hrec23 : ∀ (l1 : Nat) (l2 : Nat) (l3 : Nat) (l4 : Int32) (M : PM), rec23 l1 l2 l3 l4 M = some (zr Z, zf Z) → EW Y_XLaw_law g X Z 23 [(0, .retAddr 0), (1, .ref l1), (2, .ref l2), (3, .ref l3), (4, .int l4)] [] M) {l1 : Nat} {l2 : Nat} {l3 : Nat} {l4 : Int32} {M : PM} (h : F_XLaw_law_628 xs Ls n rec23 l1 l2 l3 l4 M = some (zr Z, zf Z)) : EW Y_XLaw_law g X Z 628 [(0, .retAddr 0), (1, .ref l1), (2, .ref l2), (3, .ref l3), (4, .int l4)] [] M := by
  unfold F_XLaw_law_628 at h
  refine ew_goto 1067 d_XLaw_law_628 (by decide) ?_
  exact E_XLaw_law_1067 hxs hn hl hrec23 h
def F_XLaw_law_622 (xs : Nat → Int32) (Ls : Nat) (n : Nat) (rec23 : Nat → Nat → Nat → Int32 → PM → qO) (l1 : Nat) (l2 : Nat) (l3 : Nat) (l4 : Int32) (s0 : Int64) (s1 : Int64) (M : PM) : qO :=
  if (lg_cmp s0 s1) = (0 : Int32) then
    F_XLaw_law_628 xs Ls n rec23 l1 l2 l3 l4 M
  else
    some (.inl (some (.int (0 : Int32))), M)
set_option maxHeartbeats 4000000 in
set_option maxRecDepth 100000 in
theorem E_XLaw_law_622 {g : qG} {X : qX} {Z : qZ} {xs : Nat → Int32} {Ls : Nat} (hxs : g.2.2.2.1.2 = (Ls, xs)) (hn : 16 ≤ zn Z) (hl : 408 ≤ zl Z) {n : Nat} {rec23 : Nat → Nat → Nat → Int32 → PM → qO} (hrec23 : ∀ (l1 : Nat) (l2 : Nat) (l3 : Nat) (l4 : Int32) (M : PM), rec23 l1 l2 l3 l4 M = some (zr Z, zf Z) → EW Y_XLaw_law g X Z 23 [(0, .retAddr 0), (1, .ref l1), (2, .ref l2), (3, .ref l3), (4, .int l4)] [] M) {l1 : Nat} {l2 : Nat} {l3 : Nat} {l4 : Int32} {s0 : Int64} {s1 : Int64} {M : PM} (h : F_XLaw_law_622 xs Ls n rec23 l1 l2 l3 l4 s0 s1 M = some (zr Z, zf Z)) : EW Y_XLaw_law g X Z 622 [(0, .retAddr 0), (1, .ref l1), (2, .ref l2), (3, .ref l3), (4, .int l4)] [.long s1, .long s0] M := by
  unfold F_XLaw_law_622 at h
  refine ew_lcmp d_XLaw_law_622 ?_
  refine ew_if_eq 628 d_XLaw_law_623 (by decide) (fun c1 => ?_) (fun c1 => ?_)
  · rw [if_pos c1] at h
    exact E_XLaw_law_628 hxs hn hl hrec23 h
  · rw [if_neg c1] at h
    refine ew_iconst (0) d_XLaw_law_626 (by decide) ?_
    obtain ⟨hz, hm⟩ := Prod.mk.inj (Option.some.inj h)
    exact ew_zreturn d_XLaw_law_627 rfl hz.symm hm.symm rfl
def F_XLaw_law_553 (xs : Nat → Int32) (Ls : Nat) (n : Nat) (rec23 : Nat → Nat → Nat → Int32 → PM → qO) (l1 : Nat) (l2 : Nat) (l3 : Nat) (l4 : Int32) (M : PM) : qO :=
  F_XLaw_law_1067 xs Ls n rec23 l1 l2 l3 l4 M
set_option maxHeartbeats 4000000 in
set_option maxRecDepth 100000 in
theorem E_XLaw_law_553 {g : qG} {X : qX} {Z : qZ} {xs : Nat → Int32} {Ls : Nat} (hxs : g.2.2.2.1.2 = (Ls, xs)) (hn : 16 ≤ zn Z) (hl : 408 ≤ zl Z) {n : Nat} {rec23 : Nat → Nat → Nat → Int32 → PM → qO} (hrec23 : ∀ (l1 : Nat) (l2 : Nat) (l3 : Nat) (l4 : Int32) (M : PM), rec23 l1 l2 l3 l4 M = some (zr Z, zf Z) → EW Y_XLaw_law g X Z 23 [(0, .retAddr 0), (1, .ref l1), (2, .ref l2), (3, .ref l3), (4, .int l4)] [] M) {l1 : Nat} {l2 : Nat} {l3 : Nat} {l4 : Int32} {M : PM} (h : F_XLaw_law_553 xs Ls n rec23 l1 l2 l3 l4 M = some (zr Z, zf Z)) : EW Y_XLaw_law g X Z 553 [(0, .retAddr 0), (1, .ref l1), (2, .ref l2), (3, .ref l3), (4, .int l4)] [] M := by
  unfold F_XLaw_law_553 at h
  refine ew_goto 1067 d_XLaw_law_553 (by decide) ?_
  exact E_XLaw_law_1067 hxs hn hl hrec23 h
def F_XLaw_law_473 (xs : Nat → Int32) (Ls : Nat) (n : Nat) (rec23 : Nat → Nat → Nat → Int32 → PM → qO) (l1 : Nat) (l2 : Nat) (l3 : Nat) (l4 : Int32) (M : PM) : qO :=
  F_XLaw_law_1067 xs Ls n rec23 l1 l2 l3 l4 M
set_option maxHeartbeats 4000000 in
set_option maxRecDepth 100000 in
theorem E_XLaw_law_473 {g : qG} {X : qX} {Z : qZ} {xs : Nat → Int32} {Ls : Nat} (hxs : g.2.2.2.1.2 = (Ls, xs)) (hn : 16 ≤ zn Z) (hl : 408 ≤ zl Z) {n : Nat} {rec23 : Nat → Nat → Nat → Int32 → PM → qO} (hrec23 : ∀ (l1 : Nat) (l2 : Nat) (l3 : Nat) (l4 : Int32) (M : PM), rec23 l1 l2 l3 l4 M = some (zr Z, zf Z) → EW Y_XLaw_law g X Z 23 [(0, .retAddr 0), (1, .ref l1), (2, .ref l2), (3, .ref l3), (4, .int l4)] [] M) {l1 : Nat} {l2 : Nat} {l3 : Nat} {l4 : Int32} {M : PM} (h : F_XLaw_law_473 xs Ls n rec23 l1 l2 l3 l4 M = some (zr Z, zf Z)) : EW Y_XLaw_law g X Z 473 [(0, .retAddr 0), (1, .ref l1), (2, .ref l2), (3, .ref l3), (4, .int l4)] [] M := by
  unfold F_XLaw_law_473 at h
  refine ew_goto 1067 d_XLaw_law_473 (by decide) ?_
  exact E_XLaw_law_1067 hxs hn hl hrec23 h
def F_XLaw_law_405 (xs : Nat → Int32) (Ls : Nat) (n : Nat) (rec23 : Nat → Nat → Nat → Int32 → PM → qO) (l1 : Nat) (l2 : Nat) (l3 : Nat) (l4 : Int32) (M : PM) : qO :=
  F_XLaw_law_1067 xs Ls n rec23 l1 l2 l3 l4 M
set_option maxHeartbeats 4000000 in
set_option maxRecDepth 100000 in
theorem E_XLaw_law_405 {g : qG} {X : qX} {Z : qZ} {xs : Nat → Int32} {Ls : Nat} (hxs : g.2.2.2.1.2 = (Ls, xs)) (hn : 16 ≤ zn Z) (hl : 408 ≤ zl Z) {n : Nat} {rec23 : Nat → Nat → Nat → Int32 → PM → qO} (hrec23 : ∀ (l1 : Nat) (l2 : Nat) (l3 : Nat) (l4 : Int32) (M : PM), rec23 l1 l2 l3 l4 M = some (zr Z, zf Z) → EW Y_XLaw_law g X Z 23 [(0, .retAddr 0), (1, .ref l1), (2, .ref l2), (3, .ref l3), (4, .int l4)] [] M) {l1 : Nat} {l2 : Nat} {l3 : Nat} {l4 : Int32} {M : PM} (h : F_XLaw_law_405 xs Ls n rec23 l1 l2 l3 l4 M = some (zr Z, zf Z)) : EW Y_XLaw_law g X Z 405 [(0, .retAddr 0), (1, .ref l1), (2, .ref l2), (3, .ref l3), (4, .int l4)] [] M := by
  unfold F_XLaw_law_405 at h
  refine ew_goto 1067 d_XLaw_law_405 (by decide) ?_
  exact E_XLaw_law_1067 hxs hn hl hrec23 h
def F_XLaw_law_349 (xs : Nat → Int32) (Ls : Nat) (n : Nat) (rec23 : Nat → Nat → Nat → Int32 → PM → qO) (l1 : Nat) (l2 : Nat) (l3 : Nat) (l4 : Int32) (M : PM) : qO :=
  F_XLaw_law_1067 xs Ls n rec23 l1 l2 l3 l4 M
set_option maxHeartbeats 4000000 in
set_option maxRecDepth 100000 in
theorem E_XLaw_law_349 {g : qG} {X : qX} {Z : qZ} {xs : Nat → Int32} {Ls : Nat} (hxs : g.2.2.2.1.2 = (Ls, xs)) (hn : 16 ≤ zn Z) (hl : 408 ≤ zl Z) {n : Nat} {rec23 : Nat → Nat → Nat → Int32 → PM → qO} (hrec23 : ∀ (l1 : Nat) (l2 : Nat) (l3 : Nat) (l4 : Int32) (M : PM), rec23 l1 l2 l3 l4 M = some (zr Z, zf Z) → EW Y_XLaw_law g X Z 23 [(0, .retAddr 0), (1, .ref l1), (2, .ref l2), (3, .ref l3), (4, .int l4)] [] M) {l1 : Nat} {l2 : Nat} {l3 : Nat} {l4 : Int32} {M : PM} (h : F_XLaw_law_349 xs Ls n rec23 l1 l2 l3 l4 M = some (zr Z, zf Z)) : EW Y_XLaw_law g X Z 349 [(0, .retAddr 0), (1, .ref l1), (2, .ref l2), (3, .ref l3), (4, .int l4)] [] M := by
  unfold F_XLaw_law_349 at h
  refine ew_goto 1067 d_XLaw_law_349 (by decide) ?_
  exact E_XLaw_law_1067 hxs hn hl hrec23 h
def F_XLaw_law_281 (xs : Nat → Int32) (Ls : Nat) (n : Nat) (rec23 : Nat → Nat → Nat → Int32 → PM → qO) (l1 : Nat) (l2 : Nat) (l3 : Nat) (l4 : Int32) (M : PM) : qO :=
  F_XLaw_law_1067 xs Ls n rec23 l1 l2 l3 l4 M
set_option maxHeartbeats 4000000 in
set_option maxRecDepth 100000 in
theorem E_XLaw_law_281 {g : qG} {X : qX} {Z : qZ} {xs : Nat → Int32} {Ls : Nat} (hxs : g.2.2.2.1.2 = (Ls, xs)) (hn : 16 ≤ zn Z) (hl : 408 ≤ zl Z) {n : Nat} {rec23 : Nat → Nat → Nat → Int32 → PM → qO} (hrec23 : ∀ (l1 : Nat) (l2 : Nat) (l3 : Nat) (l4 : Int32) (M : PM), rec23 l1 l2 l3 l4 M = some (zr Z, zf Z) → EW Y_XLaw_law g X Z 23 [(0, .retAddr 0), (1, .ref l1), (2, .ref l2), (3, .ref l3), (4, .int l4)] [] M) {l1 : Nat} {l2 : Nat} {l3 : Nat} {l4 : Int32} {M : PM} (h : F_XLaw_law_281 xs Ls n rec23 l1 l2 l3 l4 M = some (zr Z, zf Z)) : EW Y_XLaw_law g X Z 281 [(0, .retAddr 0), (1, .ref l1), (2, .ref l2), (3, .ref l3), (4, .int l4)] [] M := by
  unfold F_XLaw_law_281 at h
  refine ew_goto 1067 d_XLaw_law_281 (by decide) ?_
  exact E_XLaw_law_1067 hxs hn hl hrec23 h
def F_XLaw_law_201 (xs : Nat → Int32) (Ls : Nat) (n : Nat) (rec23 : Nat → Nat → Nat → Int32 → PM → qO) (l1 : Nat) (l2 : Nat) (l3 : Nat) (l4 : Int32) (M : PM) : qO :=
  F_XLaw_law_1067 xs Ls n rec23 l1 l2 l3 l4 M
set_option maxHeartbeats 4000000 in
set_option maxRecDepth 100000 in
theorem E_XLaw_law_201 {g : qG} {X : qX} {Z : qZ} {xs : Nat → Int32} {Ls : Nat} (hxs : g.2.2.2.1.2 = (Ls, xs)) (hn : 16 ≤ zn Z) (hl : 408 ≤ zl Z) {n : Nat} {rec23 : Nat → Nat → Nat → Int32 → PM → qO} (hrec23 : ∀ (l1 : Nat) (l2 : Nat) (l3 : Nat) (l4 : Int32) (M : PM), rec23 l1 l2 l3 l4 M = some (zr Z, zf Z) → EW Y_XLaw_law g X Z 23 [(0, .retAddr 0), (1, .ref l1), (2, .ref l2), (3, .ref l3), (4, .int l4)] [] M) {l1 : Nat} {l2 : Nat} {l3 : Nat} {l4 : Int32} {M : PM} (h : F_XLaw_law_201 xs Ls n rec23 l1 l2 l3 l4 M = some (zr Z, zf Z)) : EW Y_XLaw_law g X Z 201 [(0, .retAddr 0), (1, .ref l1), (2, .ref l2), (3, .ref l3), (4, .int l4)] [] M := by
  unfold F_XLaw_law_201 at h
  refine ew_goto 1067 d_XLaw_law_201 (by decide) ?_
  exact E_XLaw_law_1067 hxs hn hl hrec23 h
def F_XLaw_law_157 (xs : Nat → Int32) (Ls : Nat) (n : Nat) (rec23 : Nat → Nat → Nat → Int32 → PM → qO) (l1 : Nat) (l2 : Nat) (l3 : Nat) (l4 : Int32) (M : PM) : qO :=
  F_XLaw_law_1067 xs Ls n rec23 l1 l2 l3 l4 M
set_option maxHeartbeats 4000000 in
set_option maxRecDepth 100000 in
theorem E_XLaw_law_157 {g : qG} {X : qX} {Z : qZ} {xs : Nat → Int32} {Ls : Nat} (hxs : g.2.2.2.1.2 = (Ls, xs)) (hn : 16 ≤ zn Z) (hl : 408 ≤ zl Z) {n : Nat} {rec23 : Nat → Nat → Nat → Int32 → PM → qO} (hrec23 : ∀ (l1 : Nat) (l2 : Nat) (l3 : Nat) (l4 : Int32) (M : PM), rec23 l1 l2 l3 l4 M = some (zr Z, zf Z) → EW Y_XLaw_law g X Z 23 [(0, .retAddr 0), (1, .ref l1), (2, .ref l2), (3, .ref l3), (4, .int l4)] [] M) {l1 : Nat} {l2 : Nat} {l3 : Nat} {l4 : Int32} {M : PM} (h : F_XLaw_law_157 xs Ls n rec23 l1 l2 l3 l4 M = some (zr Z, zf Z)) : EW Y_XLaw_law g X Z 157 [(0, .retAddr 0), (1, .ref l1), (2, .ref l2), (3, .ref l3), (4, .int l4)] [] M := by
  unfold F_XLaw_law_157 at h
  refine ew_goto 1067 d_XLaw_law_157 (by decide) ?_
  exact E_XLaw_law_1067 hxs hn hl hrec23 h
def F_XLaw_law_23 (xs : Nat → Int32) (Ls : Nat) (n : Nat) : Nat → Nat → Nat → Nat → Int32 → PM → qO
  | 0, _, _, _, _, _ => none
  | f + 1, l1, l2, l3, l4, M =>
    if ((nI Ls) - (4 : Int32)) < l4 then
      some (.inl (some (.int (1 : Int32))), M)
    else
      sc xs Ls l4 (fun v2 =>
      if (v2 &&& (15 : Int32)) = (0 : Int32) then
        cI (F_XLaw_word n l1 l3 M) (fun v5 M4 =>
        kO 0 M4 l2 (
        cI (F_XModel_word n l2 M4) (fun v7 M6 =>
        kO 0 M6 l2 (
        cI (F_XModel_thrown n l2 M6) (fun v9 M8 =>
        if v9 = v5 then
          if v5 = (0 : Int32) then
            lL M8 l3 (0 : Int32) (fun v12 =>
            if (lg_cmp v12 v7.toInt64) = (0 : Int32) then
              F_XLaw_law_157 xs Ls n (F_XLaw_law_23 xs Ls n f) l1 l2 l3 l4 M8
            else
              some (.inl (some (.int (0 : Int32))), M8))
          else
            F_XLaw_law_157 xs Ls n (F_XLaw_law_23 xs Ls n f) l1 l2 l3 l4 M8
        else
          some (.inl (some (.int (0 : Int32))), M8))))))
      else
      if (v2 &&& (15 : Int32)) = (1 : Int32) then
        cI (F_XLaw_truth n l1 l3 M) (fun v16 M15 =>
        kO 0 M15 l2 (
        cI (F_XModel_truth n l2 M15) (fun v18 M17 =>
        kO 0 M17 l2 (
        cI (F_XModel_thrown n l2 M17) (fun v20 M19 =>
        if v20 = v16 then
          if v16 = (0 : Int32) then
            lL M19 l3 (0 : Int32) (fun v23 =>
            if (lg_cmp v23 v18.toInt64) = (0 : Int32) then
              F_XLaw_law_201 xs Ls n (F_XLaw_law_23 xs Ls n f) l1 l2 l3 l4 M19
            else
              some (.inl (some (.int (0 : Int32))), M19))
          else
            F_XLaw_law_201 xs Ls n (F_XLaw_law_23 xs Ls n f) l1 l2 l3 l4 M19
        else
          some (.inl (some (.int (0 : Int32))), M19))))))
      else
      if (v2 &&& (15 : Int32)) = (2 : Int32) then
        sc xs Ls (l4 + (1 : Int32)) (fun v26 =>
        sc xs Ls (l4 + (2 : Int32)) (fun v27 =>
        sc xs Ls (l4 + (3 : Int32)) (fun v28 =>
        cI (F_XLaw_apply n l1 v26 v27 v28 l3 M) (fun v30 M29 =>
        sc xs Ls (l4 + (1 : Int32)) (fun v31 =>
        sc xs Ls (l4 + (2 : Int32)) (fun v32 =>
        sc xs Ls (l4 + (3 : Int32)) (fun v33 =>
        kO 0 M29 l2 (
        cI (F_XModel_apply n l2 v31 v32 v33 M29) (fun v35 M34 =>
        kO 0 M34 l2 (
        cI (F_XModel_thrown n l2 M34) (fun v37 M36 =>
        if v37 = v30 then
          if v30 = (0 : Int32) then
            lL M36 l3 (0 : Int32) (fun v40 =>
            if (lg_cmp v40 v35.toInt64) = (0 : Int32) then
              F_XLaw_law_281 xs Ls n (F_XLaw_law_23 xs Ls n f) l1 l2 l3 l4 M36
            else
              some (.inl (some (.int (0 : Int32))), M36))
          else
            F_XLaw_law_281 xs Ls n (F_XLaw_law_23 xs Ls n f) l1 l2 l3 l4 M36
        else
          some (.inl (some (.int (0 : Int32))), M36))))))))))))
      else
      if (v2 &&& (15 : Int32)) = (3 : Int32) then
        sc xs Ls (l4 + (1 : Int32)) (fun v43 =>
        sc xs Ls (l4 + (2 : Int32)) (fun v44 =>
        cI (F_XLaw_equal n l1 v43 v44 l3 M) (fun v46 M45 =>
        sc xs Ls (l4 + (1 : Int32)) (fun v47 =>
        sc xs Ls (l4 + (2 : Int32)) (fun v48 =>
        kO 0 M45 l2 (
        cI (F_XModel_equal n l2 v47 v48 M45) (fun v50 M49 =>
        kO 0 M49 l2 (
        cI (F_XModel_thrown n l2 M49) (fun v52 M51 =>
        if v52 = v46 then
          if v46 = (0 : Int32) then
            lL M51 l3 (0 : Int32) (fun v55 =>
            if (lg_cmp v55 v50.toInt64) = (0 : Int32) then
              F_XLaw_law_349 xs Ls n (F_XLaw_law_23 xs Ls n f) l1 l2 l3 l4 M51
            else
              some (.inl (some (.int (0 : Int32))), M51))
          else
            F_XLaw_law_349 xs Ls n (F_XLaw_law_23 xs Ls n f) l1 l2 l3 l4 M51
        else
          some (.inl (some (.int (0 : Int32))), M51))))))))))
      else
      if (v2 &&& (15 : Int32)) = (4 : Int32) then
        sc xs Ls (l4 + (1 : Int32)) (fun v58 =>
        cI (F_XLaw_not n l1 v58 l3 M) (fun v60 M59 =>
        sc xs Ls (l4 + (1 : Int32)) (fun v61 =>
        kO 0 M59 l2 (
        cI (F_XModel_not n l2 v61 M59) (fun v63 M62 =>
        kO 0 M62 l2 (
        cI (F_XModel_thrown n l2 M62) (fun v65 M64 =>
        if v65 = v60 then
          if v60 = (0 : Int32) then
            lL M64 l3 (0 : Int32) (fun v68 =>
            if (lg_cmp v68 v63.toInt64) = (0 : Int32) then
              F_XLaw_law_405 xs Ls n (F_XLaw_law_23 xs Ls n f) l1 l2 l3 l4 M64
            else
              some (.inl (some (.int (0 : Int32))), M64))
          else
            F_XLaw_law_405 xs Ls n (F_XLaw_law_23 xs Ls n f) l1 l2 l3 l4 M64
        else
          some (.inl (some (.int (0 : Int32))), M64))))))))
      else
      if (v2 &&& (15 : Int32)) = (5 : Int32) then
        sc xs Ls (l4 + (1 : Int32)) (fun v71 =>
        sc xs Ls (l4 + (2 : Int32)) (fun v72 =>
        cI (F_XLaw_both n l1 v71 v72 l3 M) (fun v74 M73 =>
        sc xs Ls (l4 + (1 : Int32)) (fun v75 =>
        sc xs Ls (l4 + (2 : Int32)) (fun v76 =>
        kO 0 M73 l2 (
        cI (F_XModel_both n l2 v75 v76 M73) (fun v78 M77 =>
        kO 0 M77 l2 (
        cI (F_XModel_thrown n l2 M77) (fun v80 M79 =>
        if v80 = v74 then
          if v74 = (0 : Int32) then
            lL M79 l3 (0 : Int32) (fun v83 =>
            if (lg_cmp v83 v78.toInt64) = (0 : Int32) then
              F_XLaw_law_473 xs Ls n (F_XLaw_law_23 xs Ls n f) l1 l2 l3 l4 M79
            else
              some (.inl (some (.int (0 : Int32))), M79))
          else
            F_XLaw_law_473 xs Ls n (F_XLaw_law_23 xs Ls n f) l1 l2 l3 l4 M79
        else
          some (.inl (some (.int (0 : Int32))), M79))))))))))
      else
      if (v2 &&& (15 : Int32)) = (6 : Int32) then
        sc xs Ls (l4 + (1 : Int32)) (fun v86 =>
        sc xs Ls (l4 + (2 : Int32)) (fun v87 =>
        sc xs Ls (l4 + (3 : Int32)) (fun v88 =>
        cI (F_XLaw_choice n l1 v86 v87 v88 l3 M) (fun v90 M89 =>
        sc xs Ls (l4 + (1 : Int32)) (fun v91 =>
        sc xs Ls (l4 + (2 : Int32)) (fun v92 =>
        sc xs Ls (l4 + (3 : Int32)) (fun v93 =>
        kO 0 M89 l2 (
        cI (F_XModel_choice n l2 v91 v92 v93 M89) (fun v95 M94 =>
        kO 0 M94 l2 (
        cI (F_XModel_thrown n l2 M94) (fun v97 M96 =>
        if v97 = v90 then
          if v90 = (0 : Int32) then
            lL M96 l3 (0 : Int32) (fun v100 =>
            if (lg_cmp v100 v95.toInt64) = (0 : Int32) then
              F_XLaw_law_553 xs Ls n (F_XLaw_law_23 xs Ls n f) l1 l2 l3 l4 M96
            else
              some (.inl (some (.int (0 : Int32))), M96))
          else
            F_XLaw_law_553 xs Ls n (F_XLaw_law_23 xs Ls n f) l1 l2 l3 l4 M96
        else
          some (.inl (some (.int (0 : Int32))), M96))))))))))))
      else
      if (v2 &&& (15 : Int32)) = (7 : Int32) then
        sc xs Ls (l4 + (1 : Int32)) (fun v103 =>
        sc xs Ls (l4 + (2 : Int32)) (fun v104 =>
        cI (F_XLaw_next n l1 v103 v104 l3 M) (fun v106 M105 =>
        sc xs Ls (l4 + (1 : Int32)) (fun v107 =>
        sc xs Ls (l4 + (2 : Int32)) (fun v108 =>
        kO 0 M105 l2 (
        cI (F_XModel_next n l2 v107 v108 M105) (fun v110 M109 =>
        kO 0 M109 l2 (
        cI (F_XModel_thrown n l2 M109) (fun v112 M111 =>
        if v112 = v106 then
          if v106 = (0 : Int32) then
            lL M111 l3 (0 : Int32) (fun v115 =>
            if v110 = (0 : Int32) then
              F_XLaw_law_622 xs Ls n (F_XLaw_law_23 xs Ls n f) l1 l2 l3 l4 v115 (0 : Int64) M111
            else
              F_XLaw_law_622 xs Ls n (F_XLaw_law_23 xs Ls n f) l1 l2 l3 l4 v115 (1 : Int64) M111)
          else
            F_XLaw_law_628 xs Ls n (F_XLaw_law_23 xs Ls n f) l1 l2 l3 l4 M111
        else
          some (.inl (some (.int (0 : Int32))), M111))))))))))
      else
      if (v2 &&& (15 : Int32)) = (8 : Int32) then
        sc xs Ls (l4 + (1 : Int32)) (fun v118 =>
        sc xs Ls (l4 + (2 : Int32)) (fun v119 =>
        cI (F_XLaw_plain n l1 v118 v119 l3 M) (fun v121 M120 =>
        sc xs Ls (l4 + (1 : Int32)) (fun v122 =>
        sc xs Ls (l4 + (2 : Int32)) (fun v123 =>
        kO 0 M120 l2 (
        cI (F_XModel_plain n l2 v122 v123 M120) (fun v125 M124 =>
        kO 0 M124 l2 (
        cI (F_XModel_thrown n l2 M124) (fun v127 M126 =>
        if v127 = v121 then
          if v121 = (0 : Int32) then
            lL M126 l3 (0 : Int32) (fun v130 =>
            if v125 = (0 : Int32) then
              F_XLaw_law_697 xs Ls n (F_XLaw_law_23 xs Ls n f) l1 l2 l3 l4 v130 (0 : Int64) M126
            else
              F_XLaw_law_697 xs Ls n (F_XLaw_law_23 xs Ls n f) l1 l2 l3 l4 v130 (1 : Int64) M126)
          else
            F_XLaw_law_703 xs Ls n (F_XLaw_law_23 xs Ls n f) l1 l2 l3 l4 M126
        else
          some (.inl (some (.int (0 : Int32))), M126))))))))))
      else
      if (v2 &&& (15 : Int32)) = (9 : Int32) then
        sc xs Ls (l4 + (1 : Int32)) (fun v133 =>
        cI (F_XLaw_invariant n l1 v133 l3 M) (fun v135 M134 =>
        sc xs Ls (l4 + (1 : Int32)) (fun v136 =>
        kO 0 M134 l2 (
        cI (F_XModel_invariant n l2 v136 M134) (fun v138 M137 =>
        kO 0 M137 l2 (
        cI (F_XModel_thrown n l2 M137) (fun v140 M139 =>
        if v140 = v135 then
          if v135 = (0 : Int32) then
            lL M139 l3 (0 : Int32) (fun v143 =>
            if (lg_cmp v143 v138.toInt64) = (0 : Int32) then
              F_XLaw_law_759 xs Ls n (F_XLaw_law_23 xs Ls n f) l1 l2 l3 l4 M139
            else
              some (.inl (some (.int (0 : Int32))), M139))
          else
            F_XLaw_law_759 xs Ls n (F_XLaw_law_23 xs Ls n f) l1 l2 l3 l4 M139
        else
          some (.inl (some (.int (0 : Int32))), M139))))))))
      else
      if (v2 &&& (15 : Int32)) = (10 : Int32) then
        sc xs Ls (l4 + (1 : Int32)) (fun v146 =>
        cI (F_XLaw_run n l1 v146 l3 M) (fun v148 M147 =>
        sc xs Ls (l4 + (1 : Int32)) (fun v149 =>
        kO 0 M147 l2 (
        cI (F_XModel_run n l2 v149 M147) (fun v151 M150 =>
        kO 0 M150 l2 (
        cI (F_XModel_thrown n l2 M150) (fun v153 M152 =>
        if v153 = v148 then
          if v148 = (0 : Int32) then
            lL M152 l3 (0 : Int32) (fun v156 =>
            if (lg_cmp v156 v151.toInt64) = (0 : Int32) then
              F_XLaw_law_815 xs Ls n (F_XLaw_law_23 xs Ls n f) l1 l2 l3 l4 M152
            else
              some (.inl (some (.int (0 : Int32))), M152))
          else
            F_XLaw_law_815 xs Ls n (F_XLaw_law_23 xs Ls n f) l1 l2 l3 l4 M152
        else
          some (.inl (some (.int (0 : Int32))), M152))))))))
      else
      if (v2 &&& (15 : Int32)) = (11 : Int32) then
        sc xs Ls (l4 + (1 : Int32)) (fun v159 =>
        cI (F_XLaw_kept n l1 v159 l3 M) (fun v161 M160 =>
        sc xs Ls (l4 + (1 : Int32)) (fun v162 =>
        kO 0 M160 l2 (
        cI (F_XModel_kept n l2 v162 M160) (fun v164 M163 =>
        kO 0 M163 l2 (
        cI (F_XModel_thrown n l2 M163) (fun v166 M165 =>
        if v166 = v161 then
          if v161 = (0 : Int32) then
            lL M165 l3 (0 : Int32) (fun v169 =>
            if (lg_cmp v169 v164.toInt64) = (0 : Int32) then
              F_XLaw_law_871 xs Ls n (F_XLaw_law_23 xs Ls n f) l1 l2 l3 l4 M165
            else
              some (.inl (some (.int (0 : Int32))), M165))
          else
            F_XLaw_law_871 xs Ls n (F_XLaw_law_23 xs Ls n f) l1 l2 l3 l4 M165
        else
          some (.inl (some (.int (0 : Int32))), M165))))))))
      else
      if (v2 &&& (15 : Int32)) = (12 : Int32) then
        sc xs Ls (l4 + (1 : Int32)) (fun v172 =>
        cI (F_XLaw_witness n l1 v172 l3 M) (fun v174 M173 =>
        sc xs Ls (l4 + (1 : Int32)) (fun v175 =>
        kO 0 M173 l2 (
        cI (F_XModel_witness n l2 v175 M173) (fun v177 M176 =>
        kO 0 M176 l2 (
        cI (F_XModel_thrown n l2 M176) (fun v179 M178 =>
        if v179 = v174 then
          if v174 = (0 : Int32) then
            lL M178 l3 (0 : Int32) (fun v182 =>
            if (lg_cmp v182 v177.toInt64) = (0 : Int32) then
              F_XLaw_law_927 xs Ls n (F_XLaw_law_23 xs Ls n f) l1 l2 l3 l4 M178
            else
              some (.inl (some (.int (0 : Int32))), M178))
          else
            F_XLaw_law_927 xs Ls n (F_XLaw_law_23 xs Ls n f) l1 l2 l3 l4 M178
        else
          some (.inl (some (.int (0 : Int32))), M178))))))))
      else
      if (v2 &&& (15 : Int32)) = (13 : Int32) then
        cI (F_XLaw_differs n l1 l3 M) (fun v186 M185 =>
        kO 0 M185 l2 (
        cI (F_XModel_differs n l2 M185) (fun v188 M187 =>
        kO 0 M187 l2 (
        cI (F_XModel_thrown n l2 M187) (fun v190 M189 =>
        if v190 = v186 then
          if v186 = (0 : Int32) then
            lL M189 l3 (0 : Int32) (fun v193 =>
            if (lg_cmp v193 v188.toInt64) = (0 : Int32) then
              F_XLaw_law_971 xs Ls n (F_XLaw_law_23 xs Ls n f) l1 l2 l3 l4 M189
            else
              some (.inl (some (.int (0 : Int32))), M189))
          else
            F_XLaw_law_971 xs Ls n (F_XLaw_law_23 xs Ls n f) l1 l2 l3 l4 M189
        else
          some (.inl (some (.int (0 : Int32))), M189))))))
      else
      if (v2 &&& (15 : Int32)) = (14 : Int32) then
        sc xs Ls (l4 + (1 : Int32)) (fun v196 =>
        sc xs Ls (l4 + (2 : Int32)) (fun v197 =>
        cI (F_XLaw_node n l1 v196 v197 l3 M) (fun v199 M198 =>
        sc xs Ls (l4 + (1 : Int32)) (fun v200 =>
        sc xs Ls (l4 + (2 : Int32)) (fun v201 =>
        kO 0 M198 l2 (
        cI (F_XModel_node n l2 v200 v201 M198) (fun v203 M202 =>
        kO 0 M202 l2 (
        cI (F_XModel_thrown n l2 M202) (fun v205 M204 =>
        if v205 = v199 then
          if v199 = (0 : Int32) then
            lL M204 l3 (0 : Int32) (fun v208 =>
            if (lg_cmp v208 v203.toInt64) = (0 : Int32) then
              F_XLaw_law_1039 xs Ls n (F_XLaw_law_23 xs Ls n f) l1 l2 l3 l4 M204
            else
              some (.inl (some (.int (0 : Int32))), M204))
          else
            F_XLaw_law_1039 xs Ls n (F_XLaw_law_23 xs Ls n f) l1 l2 l3 l4 M204
        else
          some (.inl (some (.int (0 : Int32))), M204))))))))))
      else
      if (v2 &&& (15 : Int32)) = (15 : Int32) then
        sc xs Ls (l4 + (1 : Int32)) (fun v211 =>
        kO 1 M l1 (
        cI (F_X_count n l1 v211 M) (fun v213 M212 =>
        sc xs Ls (l4 + (1 : Int32)) (fun v214 =>
        kO 0 M212 l2 (
        cI (F_XModel_count n l2 v214 M212) (fun v216 M215 =>
        if v213 = v216 then
          F_XLaw_law_1067 xs Ls n (F_XLaw_law_23 xs Ls n f) l1 l2 l3 l4 M215
        else
          some (.inl (some (.int (0 : Int32))), M215)))))))
      else
        F_XLaw_law_1067 xs Ls n (F_XLaw_law_23 xs Ls n f) l1 l2 l3 l4 M)
set_option maxHeartbeats 4000000 in
set_option maxRecDepth 100000 in
theorem E_XLaw_law_23 {g : qG} {X : qX} {Z : qZ} {xs : Nat → Int32} {Ls : Nat} (hxs : g.2.2.2.1.2 = (Ls, xs)) (hn : 16 ≤ zn Z) (hl : 408 ≤ zl Z) {n : Nat} : ∀ (f : Nat) (l1 : Nat) (l2 : Nat) (l3 : Nat) (l4 : Int32) (M : PM), F_XLaw_law_23 xs Ls n f l1 l2 l3 l4 M = some (zr Z, zf Z) → EW Y_XLaw_law g X Z 23 [(0, .retAddr 0), (1, .ref l1), (2, .ref l2), (3, .ref l3), (4, .int l4)] [] M := by
  intro f
  induction f with
  | zero => intro l1 l2 l3 l4 M h; rw [F_XLaw_law_23] at h; cases h
  | succ f ih =>
    intro l1 l2 l3 l4 M h
    rw [F_XLaw_law_23] at h
    refine ew_iload d_XLaw_law_23 rfl ?_
    refine ew_aload_s 0 d_XLaw_law_25 rfl rfl ?_
    refine ew_slen hxs d_XLaw_law_26 ?_
    refine ew_iconst (4) d_XLaw_law_27 (by decide) ?_
    refine ew_isub d_XLaw_law_28 ?_
    refine ew_icmp_gt 1073 d_XLaw_law_29 (by decide) (fun c1 => ?_) (fun c1 => ?_)
    · rw [if_pos c1] at h
      refine ew_iconst (1) d_XLaw_law_1073 (by decide) ?_
      obtain ⟨hz, hm⟩ := Prod.mk.inj (Option.some.inj h)
      exact ew_zreturn d_XLaw_law_1074 rfl hz.symm hm.symm rfl
    · rw [if_neg c1] at h
      refine ew_aload_s 0 d_XLaw_law_32 rfl rfl ?_
      refine ew_iload d_XLaw_law_33 rfl ?_
      obtain ⟨v2, av2, ev2, h⟩ := sc_inv h
      refine ew_sld hxs d_XLaw_law_35 av2 ev2 ?_
      refine ew_bipush (15) d_XLaw_law_36 (by decide +kernel) ?_
      refine ew_iand d_XLaw_law_38 ?_
      refine (Classical.em ((v2 &&& (15 : Int32)) = (0 : Int32))).elim (fun c3 => ?_) (fun c3 => ?_)
      · rw [if_pos c3] at h
        refine ew_swIn 116 d_XLaw_law_39 (by rw [c3]; decide) (by rw [c3]; decide) (by rw [c3]; rfl) (by decide) ?_
        refine ew_aload_n 1 d_XLaw_law_116 rfl rfl ?_
        refine ew_aload_n 3 d_XLaw_law_117 rfl rfl ?_
        obtain ⟨v5, M4, hM4, h⟩ := cI_inv h
        refine ew_callSw [.ref l1, .ref l3] d_XLaw_law_118 cw_XLaw_71 (T_XLaw_word hM4) (Nat.le_trans (Nat.le_of_ble_eq_true rfl) hn) (Nat.le_trans (Nat.le_of_ble_eq_true rfl) hl) (Nat.le_of_ble_eq_true rfl) rfl rfl ?_
        refine ew_istore (L' := [(0, .retAddr 0), (1, .ref l1), (2, .ref l2), (3, .ref l3), (4, .int l4), (5, .int v5)]) [1, 2, 3, 4, 5, 0] d_XLaw_law_121 (by decide) rfl ?_
        refine ew_aload_n 2 d_XLaw_law_123 rfl rfl ?_
        obtain ⟨kM6, h⟩ := kO_inv h
        obtain ⟨v7, M6, hM6, h⟩ := cI_inv h
        refine ew_callV 0 [] d_XLaw_law_124 cv_XLaw_76 (T_XModel_word hM6) kM6 (Nat.le_trans (Nat.le_of_ble_eq_true rfl) hn) (Nat.le_trans (Nat.le_of_ble_eq_true rfl) hl) (Nat.le_of_ble_eq_true rfl) rfl rfl ?_
        refine ew_istore (L' := [(0, .retAddr 0), (1, .ref l1), (2, .ref l2), (3, .ref l3), (4, .int l4), (5, .int v5), (6, .int v7)]) [1, 2, 3, 4, 5, 6, 0] d_XLaw_law_127 (by decide) rfl ?_
        refine ew_aload_n 2 d_XLaw_law_129 rfl rfl ?_
        obtain ⟨kM8, h⟩ := kO_inv h
        obtain ⟨v9, M8, hM8, h⟩ := cI_inv h
        refine ew_callV 0 [] d_XLaw_law_130 cv_XLaw_77 (T_XModel_thrown hM8) kM8 (Nat.le_trans (Nat.le_of_ble_eq_true rfl) hn) (Nat.le_trans (Nat.le_of_ble_eq_true rfl) hl) (Nat.le_of_ble_eq_true rfl) rfl rfl ?_
        refine ew_iload d_XLaw_law_133 rfl ?_
        refine ew_icmp_eq 140 d_XLaw_law_135 (by decide) (fun c10 => ?_) (fun c10 => ?_)
        · rw [if_pos c10] at h
          refine ew_iload d_XLaw_law_140 rfl ?_
          refine ew_if_ne 157 d_XLaw_law_142 (by decide) (fun c11 => ?_) (fun c11 => ?_)
          · rw [if_neg c11] at h
            exact ew_pick (L' := [(0, .retAddr 0), (1, .ref l1), (2, .ref l2), (3, .ref l3), (4, .int l4)]) [0, 1, 2, 3, 4] rfl (E_XLaw_law_157 hxs hn hl ih h)
          · rw [if_pos c11] at h
            refine ew_aload_n 3 d_XLaw_law_145 rfl rfl ?_
            refine ew_iconst (0) d_XLaw_law_146 (by decide) ?_
            obtain ⟨v12, av12, bv12, cv12, ev12, h⟩ := lL_inv h
            refine ew_lL d_XLaw_law_147 av12 bv12 cv12 ev12 ?_
            refine ew_iload d_XLaw_law_148 rfl ?_
            refine ew_i2l d_XLaw_law_150 ?_
            refine ew_lcmp d_XLaw_law_151 ?_
            refine ew_if_eq 157 d_XLaw_law_152 (by decide) (fun c13 => ?_) (fun c13 => ?_)
            · rw [if_pos c13] at h
              exact ew_pick (L' := [(0, .retAddr 0), (1, .ref l1), (2, .ref l2), (3, .ref l3), (4, .int l4)]) [0, 1, 2, 3, 4] rfl (E_XLaw_law_157 hxs hn hl ih h)
            · rw [if_neg c13] at h
              refine ew_iconst (0) d_XLaw_law_155 (by decide) ?_
              obtain ⟨hz, hm⟩ := Prod.mk.inj (Option.some.inj h)
              exact ew_zreturn d_XLaw_law_156 rfl hz.symm hm.symm rfl
        · rw [if_neg c10] at h
          refine ew_iconst (0) d_XLaw_law_138 (by decide) ?_
          obtain ⟨hz, hm⟩ := Prod.mk.inj (Option.some.inj h)
          exact ew_zreturn d_XLaw_law_139 rfl hz.symm hm.symm rfl
      rw [if_neg c3] at h
      refine (Classical.em ((v2 &&& (15 : Int32)) = (1 : Int32))).elim (fun c14 => ?_) (fun c14 => ?_)
      · rw [if_pos c14] at h
        refine ew_swIn 160 d_XLaw_law_39 (by rw [c14]; decide) (by rw [c14]; decide) (by rw [c14]; rfl) (by decide) ?_
        refine ew_aload_n 1 d_XLaw_law_160 rfl rfl ?_
        refine ew_aload_n 3 d_XLaw_law_161 rfl rfl ?_
        obtain ⟨v16, M15, hM15, h⟩ := cI_inv h
        refine ew_callSw [.ref l1, .ref l3] d_XLaw_law_162 cw_XLaw_80 (T_XLaw_truth hM15) (Nat.le_trans (Nat.le_of_ble_eq_true rfl) hn) (Nat.le_trans (Nat.le_of_ble_eq_true rfl) hl) (Nat.le_of_ble_eq_true rfl) rfl rfl ?_
        refine ew_istore (L' := [(0, .retAddr 0), (1, .ref l1), (2, .ref l2), (3, .ref l3), (4, .int l4), (5, .int v16)]) [1, 2, 3, 4, 5, 0] d_XLaw_law_165 (by decide) rfl ?_
        refine ew_aload_n 2 d_XLaw_law_167 rfl rfl ?_
        obtain ⟨kM17, h⟩ := kO_inv h
        obtain ⟨v18, M17, hM17, h⟩ := cI_inv h
        refine ew_callV 0 [] d_XLaw_law_168 cv_XLaw_82 (T_XModel_truth hM17) kM17 (Nat.le_trans (Nat.le_of_ble_eq_true rfl) hn) (Nat.le_trans (Nat.le_of_ble_eq_true rfl) hl) (Nat.le_of_ble_eq_true rfl) rfl rfl ?_
        refine ew_istore (L' := [(0, .retAddr 0), (1, .ref l1), (2, .ref l2), (3, .ref l3), (4, .int l4), (5, .int v16), (6, .int v18)]) [1, 2, 3, 4, 5, 6, 0] d_XLaw_law_171 (by decide) rfl ?_
        refine ew_aload_n 2 d_XLaw_law_173 rfl rfl ?_
        obtain ⟨kM19, h⟩ := kO_inv h
        obtain ⟨v20, M19, hM19, h⟩ := cI_inv h
        refine ew_callV 0 [] d_XLaw_law_174 cv_XLaw_77 (T_XModel_thrown hM19) kM19 (Nat.le_trans (Nat.le_of_ble_eq_true rfl) hn) (Nat.le_trans (Nat.le_of_ble_eq_true rfl) hl) (Nat.le_of_ble_eq_true rfl) rfl rfl ?_
        refine ew_iload d_XLaw_law_177 rfl ?_
        refine ew_icmp_eq 184 d_XLaw_law_179 (by decide) (fun c21 => ?_) (fun c21 => ?_)
        · rw [if_pos c21] at h
          refine ew_iload d_XLaw_law_184 rfl ?_
          refine ew_if_ne 201 d_XLaw_law_186 (by decide) (fun c22 => ?_) (fun c22 => ?_)
          · rw [if_neg c22] at h
            exact ew_pick (L' := [(0, .retAddr 0), (1, .ref l1), (2, .ref l2), (3, .ref l3), (4, .int l4)]) [0, 1, 2, 3, 4] rfl (E_XLaw_law_201 hxs hn hl ih h)
          · rw [if_pos c22] at h
            refine ew_aload_n 3 d_XLaw_law_189 rfl rfl ?_
            refine ew_iconst (0) d_XLaw_law_190 (by decide) ?_
            obtain ⟨v23, av23, bv23, cv23, ev23, h⟩ := lL_inv h
            refine ew_lL d_XLaw_law_191 av23 bv23 cv23 ev23 ?_
            refine ew_iload d_XLaw_law_192 rfl ?_
            refine ew_i2l d_XLaw_law_194 ?_
            refine ew_lcmp d_XLaw_law_195 ?_
            refine ew_if_eq 201 d_XLaw_law_196 (by decide) (fun c24 => ?_) (fun c24 => ?_)
            · rw [if_pos c24] at h
              exact ew_pick (L' := [(0, .retAddr 0), (1, .ref l1), (2, .ref l2), (3, .ref l3), (4, .int l4)]) [0, 1, 2, 3, 4] rfl (E_XLaw_law_201 hxs hn hl ih h)
            · rw [if_neg c24] at h
              refine ew_iconst (0) d_XLaw_law_199 (by decide) ?_
              obtain ⟨hz, hm⟩ := Prod.mk.inj (Option.some.inj h)
              exact ew_zreturn d_XLaw_law_200 rfl hz.symm hm.symm rfl
        · rw [if_neg c21] at h
          refine ew_iconst (0) d_XLaw_law_182 (by decide) ?_
          obtain ⟨hz, hm⟩ := Prod.mk.inj (Option.some.inj h)
          exact ew_zreturn d_XLaw_law_183 rfl hz.symm hm.symm rfl
      rw [if_neg c14] at h
      refine (Classical.em ((v2 &&& (15 : Int32)) = (2 : Int32))).elim (fun c25 => ?_) (fun c25 => ?_)
      · rw [if_pos c25] at h
        refine ew_swIn 204 d_XLaw_law_39 (by rw [c25]; decide) (by rw [c25]; decide) (by rw [c25]; rfl) (by decide) ?_
        refine ew_aload_n 1 d_XLaw_law_204 rfl rfl ?_
        refine ew_aload_s 0 d_XLaw_law_205 rfl rfl ?_
        refine ew_iload d_XLaw_law_206 rfl ?_
        refine ew_iconst (1) d_XLaw_law_208 (by decide) ?_
        refine ew_iadd d_XLaw_law_209 ?_
        obtain ⟨v26, av26, ev26, h⟩ := sc_inv h
        refine ew_sld hxs d_XLaw_law_210 av26 ev26 ?_
        refine ew_aload_s 0 d_XLaw_law_211 rfl rfl ?_
        refine ew_iload d_XLaw_law_212 rfl ?_
        refine ew_iconst (2) d_XLaw_law_214 (by decide) ?_
        refine ew_iadd d_XLaw_law_215 ?_
        obtain ⟨v27, av27, ev27, h⟩ := sc_inv h
        refine ew_sld hxs d_XLaw_law_216 av27 ev27 ?_
        refine ew_aload_s 0 d_XLaw_law_217 rfl rfl ?_
        refine ew_iload d_XLaw_law_218 rfl ?_
        refine ew_iconst (3) d_XLaw_law_220 (by decide) ?_
        refine ew_iadd d_XLaw_law_221 ?_
        obtain ⟨v28, av28, ev28, h⟩ := sc_inv h
        refine ew_sld hxs d_XLaw_law_222 av28 ev28 ?_
        refine ew_aload_n 3 d_XLaw_law_223 rfl rfl ?_
        obtain ⟨v30, M29, hM29, h⟩ := cI_inv h
        refine ew_callSw [.ref l1, .int v26, .int v27, .int v28, .ref l3] d_XLaw_law_224 cw_XLaw_83 (T_XLaw_apply hM29) (Nat.le_trans (Nat.le_of_ble_eq_true rfl) hn) (Nat.le_trans (Nat.le_of_ble_eq_true rfl) hl) (Nat.le_of_ble_eq_true rfl) rfl rfl ?_
        refine ew_istore (L' := [(0, .retAddr 0), (1, .ref l1), (2, .ref l2), (3, .ref l3), (4, .int l4), (5, .int v30)]) [1, 2, 3, 4, 5, 0] d_XLaw_law_227 (by decide) rfl ?_
        refine ew_aload_n 2 d_XLaw_law_229 rfl rfl ?_
        refine ew_aload_s 0 d_XLaw_law_230 rfl rfl ?_
        refine ew_iload d_XLaw_law_231 rfl ?_
        refine ew_iconst (1) d_XLaw_law_233 (by decide) ?_
        refine ew_iadd d_XLaw_law_234 ?_
        obtain ⟨v31, av31, ev31, h⟩ := sc_inv h
        refine ew_sld hxs d_XLaw_law_235 av31 ev31 ?_
        refine ew_aload_s 0 d_XLaw_law_236 rfl rfl ?_
        refine ew_iload d_XLaw_law_237 rfl ?_
        refine ew_iconst (2) d_XLaw_law_239 (by decide) ?_
        refine ew_iadd d_XLaw_law_240 ?_
        obtain ⟨v32, av32, ev32, h⟩ := sc_inv h
        refine ew_sld hxs d_XLaw_law_241 av32 ev32 ?_
        refine ew_aload_s 0 d_XLaw_law_242 rfl rfl ?_
        refine ew_iload d_XLaw_law_243 rfl ?_
        refine ew_iconst (3) d_XLaw_law_245 (by decide) ?_
        refine ew_iadd d_XLaw_law_246 ?_
        obtain ⟨v33, av33, ev33, h⟩ := sc_inv h
        refine ew_sld hxs d_XLaw_law_247 av33 ev33 ?_
        obtain ⟨kM34, h⟩ := kO_inv h
        obtain ⟨v35, M34, hM34, h⟩ := cI_inv h
        refine ew_callV 0 [.int v31, .int v32, .int v33] d_XLaw_law_248 cv_XLaw_86 (T_XModel_apply hM34) kM34 (Nat.le_trans (Nat.le_of_ble_eq_true rfl) hn) (Nat.le_trans (Nat.le_of_ble_eq_true rfl) hl) (Nat.le_of_ble_eq_true rfl) rfl rfl ?_
        refine ew_istore (L' := [(0, .retAddr 0), (1, .ref l1), (2, .ref l2), (3, .ref l3), (4, .int l4), (5, .int v30), (6, .int v35)]) [1, 2, 3, 4, 5, 6, 0] d_XLaw_law_251 (by decide) rfl ?_
        refine ew_aload_n 2 d_XLaw_law_253 rfl rfl ?_
        obtain ⟨kM36, h⟩ := kO_inv h
        obtain ⟨v37, M36, hM36, h⟩ := cI_inv h
        refine ew_callV 0 [] d_XLaw_law_254 cv_XLaw_77 (T_XModel_thrown hM36) kM36 (Nat.le_trans (Nat.le_of_ble_eq_true rfl) hn) (Nat.le_trans (Nat.le_of_ble_eq_true rfl) hl) (Nat.le_of_ble_eq_true rfl) rfl rfl ?_
        refine ew_iload d_XLaw_law_257 rfl ?_
        refine ew_icmp_eq 264 d_XLaw_law_259 (by decide) (fun c38 => ?_) (fun c38 => ?_)
        · rw [if_pos c38] at h
          refine ew_iload d_XLaw_law_264 rfl ?_
          refine ew_if_ne 281 d_XLaw_law_266 (by decide) (fun c39 => ?_) (fun c39 => ?_)
          · rw [if_neg c39] at h
            exact ew_pick (L' := [(0, .retAddr 0), (1, .ref l1), (2, .ref l2), (3, .ref l3), (4, .int l4)]) [0, 1, 2, 3, 4] rfl (E_XLaw_law_281 hxs hn hl ih h)
          · rw [if_pos c39] at h
            refine ew_aload_n 3 d_XLaw_law_269 rfl rfl ?_
            refine ew_iconst (0) d_XLaw_law_270 (by decide) ?_
            obtain ⟨v40, av40, bv40, cv40, ev40, h⟩ := lL_inv h
            refine ew_lL d_XLaw_law_271 av40 bv40 cv40 ev40 ?_
            refine ew_iload d_XLaw_law_272 rfl ?_
            refine ew_i2l d_XLaw_law_274 ?_
            refine ew_lcmp d_XLaw_law_275 ?_
            refine ew_if_eq 281 d_XLaw_law_276 (by decide) (fun c41 => ?_) (fun c41 => ?_)
            · rw [if_pos c41] at h
              exact ew_pick (L' := [(0, .retAddr 0), (1, .ref l1), (2, .ref l2), (3, .ref l3), (4, .int l4)]) [0, 1, 2, 3, 4] rfl (E_XLaw_law_281 hxs hn hl ih h)
            · rw [if_neg c41] at h
              refine ew_iconst (0) d_XLaw_law_279 (by decide) ?_
              obtain ⟨hz, hm⟩ := Prod.mk.inj (Option.some.inj h)
              exact ew_zreturn d_XLaw_law_280 rfl hz.symm hm.symm rfl
        · rw [if_neg c38] at h
          refine ew_iconst (0) d_XLaw_law_262 (by decide) ?_
          obtain ⟨hz, hm⟩ := Prod.mk.inj (Option.some.inj h)
          exact ew_zreturn d_XLaw_law_263 rfl hz.symm hm.symm rfl
      rw [if_neg c25] at h
      refine (Classical.em ((v2 &&& (15 : Int32)) = (3 : Int32))).elim (fun c42 => ?_) (fun c42 => ?_)
      · rw [if_pos c42] at h
        refine ew_swIn 284 d_XLaw_law_39 (by rw [c42]; decide) (by rw [c42]; decide) (by rw [c42]; rfl) (by decide) ?_
        refine ew_aload_n 1 d_XLaw_law_284 rfl rfl ?_
        refine ew_aload_s 0 d_XLaw_law_285 rfl rfl ?_
        refine ew_iload d_XLaw_law_286 rfl ?_
        refine ew_iconst (1) d_XLaw_law_288 (by decide) ?_
        refine ew_iadd d_XLaw_law_289 ?_
        obtain ⟨v43, av43, ev43, h⟩ := sc_inv h
        refine ew_sld hxs d_XLaw_law_290 av43 ev43 ?_
        refine ew_aload_s 0 d_XLaw_law_291 rfl rfl ?_
        refine ew_iload d_XLaw_law_292 rfl ?_
        refine ew_iconst (2) d_XLaw_law_294 (by decide) ?_
        refine ew_iadd d_XLaw_law_295 ?_
        obtain ⟨v44, av44, ev44, h⟩ := sc_inv h
        refine ew_sld hxs d_XLaw_law_296 av44 ev44 ?_
        refine ew_aload_n 3 d_XLaw_law_297 rfl rfl ?_
        obtain ⟨v46, M45, hM45, h⟩ := cI_inv h
        refine ew_callSw [.ref l1, .int v43, .int v44, .ref l3] d_XLaw_law_298 cw_XLaw_87 (T_XLaw_equal hM45) (Nat.le_trans (Nat.le_of_ble_eq_true rfl) hn) (Nat.le_trans (Nat.le_of_ble_eq_true rfl) hl) (Nat.le_of_ble_eq_true rfl) rfl rfl ?_
        refine ew_istore (L' := [(0, .retAddr 0), (1, .ref l1), (2, .ref l2), (3, .ref l3), (4, .int l4), (5, .int v46)]) [1, 2, 3, 4, 5, 0] d_XLaw_law_301 (by decide) rfl ?_
        refine ew_aload_n 2 d_XLaw_law_303 rfl rfl ?_
        refine ew_aload_s 0 d_XLaw_law_304 rfl rfl ?_
        refine ew_iload d_XLaw_law_305 rfl ?_
        refine ew_iconst (1) d_XLaw_law_307 (by decide) ?_
        refine ew_iadd d_XLaw_law_308 ?_
        obtain ⟨v47, av47, ev47, h⟩ := sc_inv h
        refine ew_sld hxs d_XLaw_law_309 av47 ev47 ?_
        refine ew_aload_s 0 d_XLaw_law_310 rfl rfl ?_
        refine ew_iload d_XLaw_law_311 rfl ?_
        refine ew_iconst (2) d_XLaw_law_313 (by decide) ?_
        refine ew_iadd d_XLaw_law_314 ?_
        obtain ⟨v48, av48, ev48, h⟩ := sc_inv h
        refine ew_sld hxs d_XLaw_law_315 av48 ev48 ?_
        obtain ⟨kM49, h⟩ := kO_inv h
        obtain ⟨v50, M49, hM49, h⟩ := cI_inv h
        refine ew_callV 0 [.int v47, .int v48] d_XLaw_law_316 cv_XLaw_90 (T_XModel_equal hM49) kM49 (Nat.le_trans (Nat.le_of_ble_eq_true rfl) hn) (Nat.le_trans (Nat.le_of_ble_eq_true rfl) hl) (Nat.le_of_ble_eq_true rfl) rfl rfl ?_
        refine ew_istore (L' := [(0, .retAddr 0), (1, .ref l1), (2, .ref l2), (3, .ref l3), (4, .int l4), (5, .int v46), (6, .int v50)]) [1, 2, 3, 4, 5, 6, 0] d_XLaw_law_319 (by decide) rfl ?_
        refine ew_aload_n 2 d_XLaw_law_321 rfl rfl ?_
        obtain ⟨kM51, h⟩ := kO_inv h
        obtain ⟨v52, M51, hM51, h⟩ := cI_inv h
        refine ew_callV 0 [] d_XLaw_law_322 cv_XLaw_77 (T_XModel_thrown hM51) kM51 (Nat.le_trans (Nat.le_of_ble_eq_true rfl) hn) (Nat.le_trans (Nat.le_of_ble_eq_true rfl) hl) (Nat.le_of_ble_eq_true rfl) rfl rfl ?_
        refine ew_iload d_XLaw_law_325 rfl ?_
        refine ew_icmp_eq 332 d_XLaw_law_327 (by decide) (fun c53 => ?_) (fun c53 => ?_)
        · rw [if_pos c53] at h
          refine ew_iload d_XLaw_law_332 rfl ?_
          refine ew_if_ne 349 d_XLaw_law_334 (by decide) (fun c54 => ?_) (fun c54 => ?_)
          · rw [if_neg c54] at h
            exact ew_pick (L' := [(0, .retAddr 0), (1, .ref l1), (2, .ref l2), (3, .ref l3), (4, .int l4)]) [0, 1, 2, 3, 4] rfl (E_XLaw_law_349 hxs hn hl ih h)
          · rw [if_pos c54] at h
            refine ew_aload_n 3 d_XLaw_law_337 rfl rfl ?_
            refine ew_iconst (0) d_XLaw_law_338 (by decide) ?_
            obtain ⟨v55, av55, bv55, cv55, ev55, h⟩ := lL_inv h
            refine ew_lL d_XLaw_law_339 av55 bv55 cv55 ev55 ?_
            refine ew_iload d_XLaw_law_340 rfl ?_
            refine ew_i2l d_XLaw_law_342 ?_
            refine ew_lcmp d_XLaw_law_343 ?_
            refine ew_if_eq 349 d_XLaw_law_344 (by decide) (fun c56 => ?_) (fun c56 => ?_)
            · rw [if_pos c56] at h
              exact ew_pick (L' := [(0, .retAddr 0), (1, .ref l1), (2, .ref l2), (3, .ref l3), (4, .int l4)]) [0, 1, 2, 3, 4] rfl (E_XLaw_law_349 hxs hn hl ih h)
            · rw [if_neg c56] at h
              refine ew_iconst (0) d_XLaw_law_347 (by decide) ?_
              obtain ⟨hz, hm⟩ := Prod.mk.inj (Option.some.inj h)
              exact ew_zreturn d_XLaw_law_348 rfl hz.symm hm.symm rfl
        · rw [if_neg c53] at h
          refine ew_iconst (0) d_XLaw_law_330 (by decide) ?_
          obtain ⟨hz, hm⟩ := Prod.mk.inj (Option.some.inj h)
          exact ew_zreturn d_XLaw_law_331 rfl hz.symm hm.symm rfl
      rw [if_neg c42] at h
      refine (Classical.em ((v2 &&& (15 : Int32)) = (4 : Int32))).elim (fun c57 => ?_) (fun c57 => ?_)
      · rw [if_pos c57] at h
        refine ew_swIn 352 d_XLaw_law_39 (by rw [c57]; decide) (by rw [c57]; decide) (by rw [c57]; rfl) (by decide) ?_
        refine ew_aload_n 1 d_XLaw_law_352 rfl rfl ?_
        refine ew_aload_s 0 d_XLaw_law_353 rfl rfl ?_
        refine ew_iload d_XLaw_law_354 rfl ?_
        refine ew_iconst (1) d_XLaw_law_356 (by decide) ?_
        refine ew_iadd d_XLaw_law_357 ?_
        obtain ⟨v58, av58, ev58, h⟩ := sc_inv h
        refine ew_sld hxs d_XLaw_law_358 av58 ev58 ?_
        refine ew_aload_n 3 d_XLaw_law_359 rfl rfl ?_
        obtain ⟨v60, M59, hM59, h⟩ := cI_inv h
        refine ew_callSw [.ref l1, .int v58, .ref l3] d_XLaw_law_360 cw_XLaw_91 (T_XLaw_not hM59) (Nat.le_trans (Nat.le_of_ble_eq_true rfl) hn) (Nat.le_trans (Nat.le_of_ble_eq_true rfl) hl) (Nat.le_of_ble_eq_true rfl) rfl rfl ?_
        refine ew_istore (L' := [(0, .retAddr 0), (1, .ref l1), (2, .ref l2), (3, .ref l3), (4, .int l4), (5, .int v60)]) [1, 2, 3, 4, 5, 0] d_XLaw_law_363 (by decide) rfl ?_
        refine ew_aload_n 2 d_XLaw_law_365 rfl rfl ?_
        refine ew_aload_s 0 d_XLaw_law_366 rfl rfl ?_
        refine ew_iload d_XLaw_law_367 rfl ?_
        refine ew_iconst (1) d_XLaw_law_369 (by decide) ?_
        refine ew_iadd d_XLaw_law_370 ?_
        obtain ⟨v61, av61, ev61, h⟩ := sc_inv h
        refine ew_sld hxs d_XLaw_law_371 av61 ev61 ?_
        obtain ⟨kM62, h⟩ := kO_inv h
        obtain ⟨v63, M62, hM62, h⟩ := cI_inv h
        refine ew_callV 0 [.int v61] d_XLaw_law_372 cv_XLaw_94 (T_XModel_not hM62) kM62 (Nat.le_trans (Nat.le_of_ble_eq_true rfl) hn) (Nat.le_trans (Nat.le_of_ble_eq_true rfl) hl) (Nat.le_of_ble_eq_true rfl) rfl rfl ?_
        refine ew_istore (L' := [(0, .retAddr 0), (1, .ref l1), (2, .ref l2), (3, .ref l3), (4, .int l4), (5, .int v60), (6, .int v63)]) [1, 2, 3, 4, 5, 6, 0] d_XLaw_law_375 (by decide) rfl ?_
        refine ew_aload_n 2 d_XLaw_law_377 rfl rfl ?_
        obtain ⟨kM64, h⟩ := kO_inv h
        obtain ⟨v65, M64, hM64, h⟩ := cI_inv h
        refine ew_callV 0 [] d_XLaw_law_378 cv_XLaw_77 (T_XModel_thrown hM64) kM64 (Nat.le_trans (Nat.le_of_ble_eq_true rfl) hn) (Nat.le_trans (Nat.le_of_ble_eq_true rfl) hl) (Nat.le_of_ble_eq_true rfl) rfl rfl ?_
        refine ew_iload d_XLaw_law_381 rfl ?_
        refine ew_icmp_eq 388 d_XLaw_law_383 (by decide) (fun c66 => ?_) (fun c66 => ?_)
        · rw [if_pos c66] at h
          refine ew_iload d_XLaw_law_388 rfl ?_
          refine ew_if_ne 405 d_XLaw_law_390 (by decide) (fun c67 => ?_) (fun c67 => ?_)
          · rw [if_neg c67] at h
            exact ew_pick (L' := [(0, .retAddr 0), (1, .ref l1), (2, .ref l2), (3, .ref l3), (4, .int l4)]) [0, 1, 2, 3, 4] rfl (E_XLaw_law_405 hxs hn hl ih h)
          · rw [if_pos c67] at h
            refine ew_aload_n 3 d_XLaw_law_393 rfl rfl ?_
            refine ew_iconst (0) d_XLaw_law_394 (by decide) ?_
            obtain ⟨v68, av68, bv68, cv68, ev68, h⟩ := lL_inv h
            refine ew_lL d_XLaw_law_395 av68 bv68 cv68 ev68 ?_
            refine ew_iload d_XLaw_law_396 rfl ?_
            refine ew_i2l d_XLaw_law_398 ?_
            refine ew_lcmp d_XLaw_law_399 ?_
            refine ew_if_eq 405 d_XLaw_law_400 (by decide) (fun c69 => ?_) (fun c69 => ?_)
            · rw [if_pos c69] at h
              exact ew_pick (L' := [(0, .retAddr 0), (1, .ref l1), (2, .ref l2), (3, .ref l3), (4, .int l4)]) [0, 1, 2, 3, 4] rfl (E_XLaw_law_405 hxs hn hl ih h)
            · rw [if_neg c69] at h
              refine ew_iconst (0) d_XLaw_law_403 (by decide) ?_
              obtain ⟨hz, hm⟩ := Prod.mk.inj (Option.some.inj h)
              exact ew_zreturn d_XLaw_law_404 rfl hz.symm hm.symm rfl
        · rw [if_neg c66] at h
          refine ew_iconst (0) d_XLaw_law_386 (by decide) ?_
          obtain ⟨hz, hm⟩ := Prod.mk.inj (Option.some.inj h)
          exact ew_zreturn d_XLaw_law_387 rfl hz.symm hm.symm rfl
      rw [if_neg c57] at h
      refine (Classical.em ((v2 &&& (15 : Int32)) = (5 : Int32))).elim (fun c70 => ?_) (fun c70 => ?_)
      · rw [if_pos c70] at h
        refine ew_swIn 408 d_XLaw_law_39 (by rw [c70]; decide) (by rw [c70]; decide) (by rw [c70]; rfl) (by decide) ?_
        refine ew_aload_n 1 d_XLaw_law_408 rfl rfl ?_
        refine ew_aload_s 0 d_XLaw_law_409 rfl rfl ?_
        refine ew_iload d_XLaw_law_410 rfl ?_
        refine ew_iconst (1) d_XLaw_law_412 (by decide) ?_
        refine ew_iadd d_XLaw_law_413 ?_
        obtain ⟨v71, av71, ev71, h⟩ := sc_inv h
        refine ew_sld hxs d_XLaw_law_414 av71 ev71 ?_
        refine ew_aload_s 0 d_XLaw_law_415 rfl rfl ?_
        refine ew_iload d_XLaw_law_416 rfl ?_
        refine ew_iconst (2) d_XLaw_law_418 (by decide) ?_
        refine ew_iadd d_XLaw_law_419 ?_
        obtain ⟨v72, av72, ev72, h⟩ := sc_inv h
        refine ew_sld hxs d_XLaw_law_420 av72 ev72 ?_
        refine ew_aload_n 3 d_XLaw_law_421 rfl rfl ?_
        obtain ⟨v74, M73, hM73, h⟩ := cI_inv h
        refine ew_callSw [.ref l1, .int v71, .int v72, .ref l3] d_XLaw_law_422 cw_XLaw_95 (T_XLaw_both hM73) (Nat.le_trans (Nat.le_of_ble_eq_true rfl) hn) (Nat.le_trans (Nat.le_of_ble_eq_true rfl) hl) (Nat.le_of_ble_eq_true rfl) rfl rfl ?_
        refine ew_istore (L' := [(0, .retAddr 0), (1, .ref l1), (2, .ref l2), (3, .ref l3), (4, .int l4), (5, .int v74)]) [1, 2, 3, 4, 5, 0] d_XLaw_law_425 (by decide) rfl ?_
        refine ew_aload_n 2 d_XLaw_law_427 rfl rfl ?_
        refine ew_aload_s 0 d_XLaw_law_428 rfl rfl ?_
        refine ew_iload d_XLaw_law_429 rfl ?_
        refine ew_iconst (1) d_XLaw_law_431 (by decide) ?_
        refine ew_iadd d_XLaw_law_432 ?_
        obtain ⟨v75, av75, ev75, h⟩ := sc_inv h
        refine ew_sld hxs d_XLaw_law_433 av75 ev75 ?_
        refine ew_aload_s 0 d_XLaw_law_434 rfl rfl ?_
        refine ew_iload d_XLaw_law_435 rfl ?_
        refine ew_iconst (2) d_XLaw_law_437 (by decide) ?_
        refine ew_iadd d_XLaw_law_438 ?_
        obtain ⟨v76, av76, ev76, h⟩ := sc_inv h
        refine ew_sld hxs d_XLaw_law_439 av76 ev76 ?_
        obtain ⟨kM77, h⟩ := kO_inv h
        obtain ⟨v78, M77, hM77, h⟩ := cI_inv h
        refine ew_callV 0 [.int v75, .int v76] d_XLaw_law_440 cv_XLaw_97 (T_XModel_both hM77) kM77 (Nat.le_trans (Nat.le_of_ble_eq_true rfl) hn) (Nat.le_trans (Nat.le_of_ble_eq_true rfl) hl) (Nat.le_of_ble_eq_true rfl) rfl rfl ?_
        refine ew_istore (L' := [(0, .retAddr 0), (1, .ref l1), (2, .ref l2), (3, .ref l3), (4, .int l4), (5, .int v74), (6, .int v78)]) [1, 2, 3, 4, 5, 6, 0] d_XLaw_law_443 (by decide) rfl ?_
        refine ew_aload_n 2 d_XLaw_law_445 rfl rfl ?_
        obtain ⟨kM79, h⟩ := kO_inv h
        obtain ⟨v80, M79, hM79, h⟩ := cI_inv h
        refine ew_callV 0 [] d_XLaw_law_446 cv_XLaw_77 (T_XModel_thrown hM79) kM79 (Nat.le_trans (Nat.le_of_ble_eq_true rfl) hn) (Nat.le_trans (Nat.le_of_ble_eq_true rfl) hl) (Nat.le_of_ble_eq_true rfl) rfl rfl ?_
        refine ew_iload d_XLaw_law_449 rfl ?_
        refine ew_icmp_eq 456 d_XLaw_law_451 (by decide) (fun c81 => ?_) (fun c81 => ?_)
        · rw [if_pos c81] at h
          refine ew_iload d_XLaw_law_456 rfl ?_
          refine ew_if_ne 473 d_XLaw_law_458 (by decide) (fun c82 => ?_) (fun c82 => ?_)
          · rw [if_neg c82] at h
            exact ew_pick (L' := [(0, .retAddr 0), (1, .ref l1), (2, .ref l2), (3, .ref l3), (4, .int l4)]) [0, 1, 2, 3, 4] rfl (E_XLaw_law_473 hxs hn hl ih h)
          · rw [if_pos c82] at h
            refine ew_aload_n 3 d_XLaw_law_461 rfl rfl ?_
            refine ew_iconst (0) d_XLaw_law_462 (by decide) ?_
            obtain ⟨v83, av83, bv83, cv83, ev83, h⟩ := lL_inv h
            refine ew_lL d_XLaw_law_463 av83 bv83 cv83 ev83 ?_
            refine ew_iload d_XLaw_law_464 rfl ?_
            refine ew_i2l d_XLaw_law_466 ?_
            refine ew_lcmp d_XLaw_law_467 ?_
            refine ew_if_eq 473 d_XLaw_law_468 (by decide) (fun c84 => ?_) (fun c84 => ?_)
            · rw [if_pos c84] at h
              exact ew_pick (L' := [(0, .retAddr 0), (1, .ref l1), (2, .ref l2), (3, .ref l3), (4, .int l4)]) [0, 1, 2, 3, 4] rfl (E_XLaw_law_473 hxs hn hl ih h)
            · rw [if_neg c84] at h
              refine ew_iconst (0) d_XLaw_law_471 (by decide) ?_
              obtain ⟨hz, hm⟩ := Prod.mk.inj (Option.some.inj h)
              exact ew_zreturn d_XLaw_law_472 rfl hz.symm hm.symm rfl
        · rw [if_neg c81] at h
          refine ew_iconst (0) d_XLaw_law_454 (by decide) ?_
          obtain ⟨hz, hm⟩ := Prod.mk.inj (Option.some.inj h)
          exact ew_zreturn d_XLaw_law_455 rfl hz.symm hm.symm rfl
      rw [if_neg c70] at h
      refine (Classical.em ((v2 &&& (15 : Int32)) = (6 : Int32))).elim (fun c85 => ?_) (fun c85 => ?_)
      · rw [if_pos c85] at h
        refine ew_swIn 476 d_XLaw_law_39 (by rw [c85]; decide) (by rw [c85]; decide) (by rw [c85]; rfl) (by decide) ?_
        refine ew_aload_n 1 d_XLaw_law_476 rfl rfl ?_
        refine ew_aload_s 0 d_XLaw_law_477 rfl rfl ?_
        refine ew_iload d_XLaw_law_478 rfl ?_
        refine ew_iconst (1) d_XLaw_law_480 (by decide) ?_
        refine ew_iadd d_XLaw_law_481 ?_
        obtain ⟨v86, av86, ev86, h⟩ := sc_inv h
        refine ew_sld hxs d_XLaw_law_482 av86 ev86 ?_
        refine ew_aload_s 0 d_XLaw_law_483 rfl rfl ?_
        refine ew_iload d_XLaw_law_484 rfl ?_
        refine ew_iconst (2) d_XLaw_law_486 (by decide) ?_
        refine ew_iadd d_XLaw_law_487 ?_
        obtain ⟨v87, av87, ev87, h⟩ := sc_inv h
        refine ew_sld hxs d_XLaw_law_488 av87 ev87 ?_
        refine ew_aload_s 0 d_XLaw_law_489 rfl rfl ?_
        refine ew_iload d_XLaw_law_490 rfl ?_
        refine ew_iconst (3) d_XLaw_law_492 (by decide) ?_
        refine ew_iadd d_XLaw_law_493 ?_
        obtain ⟨v88, av88, ev88, h⟩ := sc_inv h
        refine ew_sld hxs d_XLaw_law_494 av88 ev88 ?_
        refine ew_aload_n 3 d_XLaw_law_495 rfl rfl ?_
        obtain ⟨v90, M89, hM89, h⟩ := cI_inv h
        refine ew_callSw [.ref l1, .int v86, .int v87, .int v88, .ref l3] d_XLaw_law_496 cw_XLaw_98 (T_XLaw_choice hM89) (Nat.le_trans (Nat.le_of_ble_eq_true rfl) hn) (Nat.le_trans (Nat.le_of_ble_eq_true rfl) hl) (Nat.le_of_ble_eq_true rfl) rfl rfl ?_
        refine ew_istore (L' := [(0, .retAddr 0), (1, .ref l1), (2, .ref l2), (3, .ref l3), (4, .int l4), (5, .int v90)]) [1, 2, 3, 4, 5, 0] d_XLaw_law_499 (by decide) rfl ?_
        refine ew_aload_n 2 d_XLaw_law_501 rfl rfl ?_
        refine ew_aload_s 0 d_XLaw_law_502 rfl rfl ?_
        refine ew_iload d_XLaw_law_503 rfl ?_
        refine ew_iconst (1) d_XLaw_law_505 (by decide) ?_
        refine ew_iadd d_XLaw_law_506 ?_
        obtain ⟨v91, av91, ev91, h⟩ := sc_inv h
        refine ew_sld hxs d_XLaw_law_507 av91 ev91 ?_
        refine ew_aload_s 0 d_XLaw_law_508 rfl rfl ?_
        refine ew_iload d_XLaw_law_509 rfl ?_
        refine ew_iconst (2) d_XLaw_law_511 (by decide) ?_
        refine ew_iadd d_XLaw_law_512 ?_
        obtain ⟨v92, av92, ev92, h⟩ := sc_inv h
        refine ew_sld hxs d_XLaw_law_513 av92 ev92 ?_
        refine ew_aload_s 0 d_XLaw_law_514 rfl rfl ?_
        refine ew_iload d_XLaw_law_515 rfl ?_
        refine ew_iconst (3) d_XLaw_law_517 (by decide) ?_
        refine ew_iadd d_XLaw_law_518 ?_
        obtain ⟨v93, av93, ev93, h⟩ := sc_inv h
        refine ew_sld hxs d_XLaw_law_519 av93 ev93 ?_
        obtain ⟨kM94, h⟩ := kO_inv h
        obtain ⟨v95, M94, hM94, h⟩ := cI_inv h
        refine ew_callV 0 [.int v91, .int v92, .int v93] d_XLaw_law_520 cv_XLaw_100 (T_XModel_choice hM94) kM94 (Nat.le_trans (Nat.le_of_ble_eq_true rfl) hn) (Nat.le_trans (Nat.le_of_ble_eq_true rfl) hl) (Nat.le_of_ble_eq_true rfl) rfl rfl ?_
        refine ew_istore (L' := [(0, .retAddr 0), (1, .ref l1), (2, .ref l2), (3, .ref l3), (4, .int l4), (5, .int v90), (6, .int v95)]) [1, 2, 3, 4, 5, 6, 0] d_XLaw_law_523 (by decide) rfl ?_
        refine ew_aload_n 2 d_XLaw_law_525 rfl rfl ?_
        obtain ⟨kM96, h⟩ := kO_inv h
        obtain ⟨v97, M96, hM96, h⟩ := cI_inv h
        refine ew_callV 0 [] d_XLaw_law_526 cv_XLaw_77 (T_XModel_thrown hM96) kM96 (Nat.le_trans (Nat.le_of_ble_eq_true rfl) hn) (Nat.le_trans (Nat.le_of_ble_eq_true rfl) hl) (Nat.le_of_ble_eq_true rfl) rfl rfl ?_
        refine ew_iload d_XLaw_law_529 rfl ?_
        refine ew_icmp_eq 536 d_XLaw_law_531 (by decide) (fun c98 => ?_) (fun c98 => ?_)
        · rw [if_pos c98] at h
          refine ew_iload d_XLaw_law_536 rfl ?_
          refine ew_if_ne 553 d_XLaw_law_538 (by decide) (fun c99 => ?_) (fun c99 => ?_)
          · rw [if_neg c99] at h
            exact ew_pick (L' := [(0, .retAddr 0), (1, .ref l1), (2, .ref l2), (3, .ref l3), (4, .int l4)]) [0, 1, 2, 3, 4] rfl (E_XLaw_law_553 hxs hn hl ih h)
          · rw [if_pos c99] at h
            refine ew_aload_n 3 d_XLaw_law_541 rfl rfl ?_
            refine ew_iconst (0) d_XLaw_law_542 (by decide) ?_
            obtain ⟨v100, av100, bv100, cv100, ev100, h⟩ := lL_inv h
            refine ew_lL d_XLaw_law_543 av100 bv100 cv100 ev100 ?_
            refine ew_iload d_XLaw_law_544 rfl ?_
            refine ew_i2l d_XLaw_law_546 ?_
            refine ew_lcmp d_XLaw_law_547 ?_
            refine ew_if_eq 553 d_XLaw_law_548 (by decide) (fun c101 => ?_) (fun c101 => ?_)
            · rw [if_pos c101] at h
              exact ew_pick (L' := [(0, .retAddr 0), (1, .ref l1), (2, .ref l2), (3, .ref l3), (4, .int l4)]) [0, 1, 2, 3, 4] rfl (E_XLaw_law_553 hxs hn hl ih h)
            · rw [if_neg c101] at h
              refine ew_iconst (0) d_XLaw_law_551 (by decide) ?_
              obtain ⟨hz, hm⟩ := Prod.mk.inj (Option.some.inj h)
              exact ew_zreturn d_XLaw_law_552 rfl hz.symm hm.symm rfl
        · rw [if_neg c98] at h
          refine ew_iconst (0) d_XLaw_law_534 (by decide) ?_
          obtain ⟨hz, hm⟩ := Prod.mk.inj (Option.some.inj h)
          exact ew_zreturn d_XLaw_law_535 rfl hz.symm hm.symm rfl
      rw [if_neg c85] at h
      refine (Classical.em ((v2 &&& (15 : Int32)) = (7 : Int32))).elim (fun c102 => ?_) (fun c102 => ?_)
      · rw [if_pos c102] at h
        refine ew_swIn 556 d_XLaw_law_39 (by rw [c102]; decide) (by rw [c102]; decide) (by rw [c102]; rfl) (by decide) ?_
        refine ew_aload_n 1 d_XLaw_law_556 rfl rfl ?_
        refine ew_aload_s 0 d_XLaw_law_557 rfl rfl ?_
        refine ew_iload d_XLaw_law_558 rfl ?_
        refine ew_iconst (1) d_XLaw_law_560 (by decide) ?_
        refine ew_iadd d_XLaw_law_561 ?_
        obtain ⟨v103, av103, ev103, h⟩ := sc_inv h
        refine ew_sld hxs d_XLaw_law_562 av103 ev103 ?_
        refine ew_aload_s 0 d_XLaw_law_563 rfl rfl ?_
        refine ew_iload d_XLaw_law_564 rfl ?_
        refine ew_iconst (2) d_XLaw_law_566 (by decide) ?_
        refine ew_iadd d_XLaw_law_567 ?_
        obtain ⟨v104, av104, ev104, h⟩ := sc_inv h
        refine ew_sld hxs d_XLaw_law_568 av104 ev104 ?_
        refine ew_aload_n 3 d_XLaw_law_569 rfl rfl ?_
        obtain ⟨v106, M105, hM105, h⟩ := cI_inv h
        refine ew_callSw [.ref l1, .int v103, .int v104, .ref l3] d_XLaw_law_570 cw_XLaw_101 (T_XLaw_next hM105) (Nat.le_trans (Nat.le_of_ble_eq_true rfl) hn) (Nat.le_trans (Nat.le_of_ble_eq_true rfl) hl) (Nat.le_of_ble_eq_true rfl) rfl rfl ?_
        refine ew_istore (L' := [(0, .retAddr 0), (1, .ref l1), (2, .ref l2), (3, .ref l3), (4, .int l4), (5, .int v106)]) [1, 2, 3, 4, 5, 0] d_XLaw_law_573 (by decide) rfl ?_
        refine ew_aload_n 2 d_XLaw_law_575 rfl rfl ?_
        refine ew_aload_s 0 d_XLaw_law_576 rfl rfl ?_
        refine ew_iload d_XLaw_law_577 rfl ?_
        refine ew_iconst (1) d_XLaw_law_579 (by decide) ?_
        refine ew_iadd d_XLaw_law_580 ?_
        obtain ⟨v107, av107, ev107, h⟩ := sc_inv h
        refine ew_sld hxs d_XLaw_law_581 av107 ev107 ?_
        refine ew_aload_s 0 d_XLaw_law_582 rfl rfl ?_
        refine ew_iload d_XLaw_law_583 rfl ?_
        refine ew_iconst (2) d_XLaw_law_585 (by decide) ?_
        refine ew_iadd d_XLaw_law_586 ?_
        obtain ⟨v108, av108, ev108, h⟩ := sc_inv h
        refine ew_sld hxs d_XLaw_law_587 av108 ev108 ?_
        obtain ⟨kM109, h⟩ := kO_inv h
        obtain ⟨v110, M109, hM109, h⟩ := cI_inv h
        refine ew_callV 0 [.int v107, .int v108] d_XLaw_law_588 cv_XLaw_103 (T_XModel_next hM109) kM109 (Nat.le_trans (Nat.le_of_ble_eq_true rfl) hn) (Nat.le_trans (Nat.le_of_ble_eq_true rfl) hl) (Nat.le_of_ble_eq_true rfl) rfl rfl ?_
        refine ew_istore (L' := [(0, .retAddr 0), (1, .ref l1), (2, .ref l2), (3, .ref l3), (4, .int l4), (5, .int v106), (6, .int v110)]) [1, 2, 3, 4, 5, 6, 0] d_XLaw_law_591 (by decide) rfl ?_
        refine ew_aload_n 2 d_XLaw_law_593 rfl rfl ?_
        obtain ⟨kM111, h⟩ := kO_inv h
        obtain ⟨v112, M111, hM111, h⟩ := cI_inv h
        refine ew_callV 0 [] d_XLaw_law_594 cv_XLaw_77 (T_XModel_thrown hM111) kM111 (Nat.le_trans (Nat.le_of_ble_eq_true rfl) hn) (Nat.le_trans (Nat.le_of_ble_eq_true rfl) hl) (Nat.le_of_ble_eq_true rfl) rfl rfl ?_
        refine ew_iload d_XLaw_law_597 rfl ?_
        refine ew_icmp_eq 604 d_XLaw_law_599 (by decide) (fun c113 => ?_) (fun c113 => ?_)
        · rw [if_pos c113] at h
          refine ew_iload d_XLaw_law_604 rfl ?_
          refine ew_if_ne 628 d_XLaw_law_606 (by decide) (fun c114 => ?_) (fun c114 => ?_)
          · rw [if_neg c114] at h
            exact ew_pick (L' := [(0, .retAddr 0), (1, .ref l1), (2, .ref l2), (3, .ref l3), (4, .int l4)]) [0, 1, 2, 3, 4] rfl (E_XLaw_law_628 hxs hn hl ih h)
          · rw [if_pos c114] at h
            refine ew_aload_n 3 d_XLaw_law_609 rfl rfl ?_
            refine ew_iconst (0) d_XLaw_law_610 (by decide) ?_
            obtain ⟨v115, av115, bv115, cv115, ev115, h⟩ := lL_inv h
            refine ew_lL d_XLaw_law_611 av115 bv115 cv115 ev115 ?_
            refine ew_iload d_XLaw_law_612 rfl ?_
            refine ew_if_eq 621 d_XLaw_law_614 (by decide) (fun c116 => ?_) (fun c116 => ?_)
            · rw [if_pos c116] at h
              refine ew_lconst 0 d_XLaw_law_621 (by decide) ?_
              exact ew_pick (L' := [(0, .retAddr 0), (1, .ref l1), (2, .ref l2), (3, .ref l3), (4, .int l4)]) [0, 1, 2, 3, 4] rfl (E_XLaw_law_622 hxs hn hl ih h)
            · rw [if_neg c116] at h
              refine ew_lconst 1 d_XLaw_law_617 (by decide) ?_
              refine ew_goto 622 d_XLaw_law_618 (by decide) ?_
              exact ew_pick (L' := [(0, .retAddr 0), (1, .ref l1), (2, .ref l2), (3, .ref l3), (4, .int l4)]) [0, 1, 2, 3, 4] rfl (E_XLaw_law_622 hxs hn hl ih h)
        · rw [if_neg c113] at h
          refine ew_iconst (0) d_XLaw_law_602 (by decide) ?_
          obtain ⟨hz, hm⟩ := Prod.mk.inj (Option.some.inj h)
          exact ew_zreturn d_XLaw_law_603 rfl hz.symm hm.symm rfl
      rw [if_neg c102] at h
      refine (Classical.em ((v2 &&& (15 : Int32)) = (8 : Int32))).elim (fun c117 => ?_) (fun c117 => ?_)
      · rw [if_pos c117] at h
        refine ew_swIn 631 d_XLaw_law_39 (by rw [c117]; decide) (by rw [c117]; decide) (by rw [c117]; rfl) (by decide) ?_
        refine ew_aload_n 1 d_XLaw_law_631 rfl rfl ?_
        refine ew_aload_s 0 d_XLaw_law_632 rfl rfl ?_
        refine ew_iload d_XLaw_law_633 rfl ?_
        refine ew_iconst (1) d_XLaw_law_635 (by decide) ?_
        refine ew_iadd d_XLaw_law_636 ?_
        obtain ⟨v118, av118, ev118, h⟩ := sc_inv h
        refine ew_sld hxs d_XLaw_law_637 av118 ev118 ?_
        refine ew_aload_s 0 d_XLaw_law_638 rfl rfl ?_
        refine ew_iload d_XLaw_law_639 rfl ?_
        refine ew_iconst (2) d_XLaw_law_641 (by decide) ?_
        refine ew_iadd d_XLaw_law_642 ?_
        obtain ⟨v119, av119, ev119, h⟩ := sc_inv h
        refine ew_sld hxs d_XLaw_law_643 av119 ev119 ?_
        refine ew_aload_n 3 d_XLaw_law_644 rfl rfl ?_
        obtain ⟨v121, M120, hM120, h⟩ := cI_inv h
        refine ew_callSw [.ref l1, .int v118, .int v119, .ref l3] d_XLaw_law_645 cw_XLaw_104 (T_XLaw_plain hM120) (Nat.le_trans (Nat.le_of_ble_eq_true rfl) hn) (Nat.le_trans (Nat.le_of_ble_eq_true rfl) hl) (Nat.le_of_ble_eq_true rfl) rfl rfl ?_
        refine ew_istore (L' := [(0, .retAddr 0), (1, .ref l1), (2, .ref l2), (3, .ref l3), (4, .int l4), (5, .int v121)]) [1, 2, 3, 4, 5, 0] d_XLaw_law_648 (by decide) rfl ?_
        refine ew_aload_n 2 d_XLaw_law_650 rfl rfl ?_
        refine ew_aload_s 0 d_XLaw_law_651 rfl rfl ?_
        refine ew_iload d_XLaw_law_652 rfl ?_
        refine ew_iconst (1) d_XLaw_law_654 (by decide) ?_
        refine ew_iadd d_XLaw_law_655 ?_
        obtain ⟨v122, av122, ev122, h⟩ := sc_inv h
        refine ew_sld hxs d_XLaw_law_656 av122 ev122 ?_
        refine ew_aload_s 0 d_XLaw_law_657 rfl rfl ?_
        refine ew_iload d_XLaw_law_658 rfl ?_
        refine ew_iconst (2) d_XLaw_law_660 (by decide) ?_
        refine ew_iadd d_XLaw_law_661 ?_
        obtain ⟨v123, av123, ev123, h⟩ := sc_inv h
        refine ew_sld hxs d_XLaw_law_662 av123 ev123 ?_
        obtain ⟨kM124, h⟩ := kO_inv h
        obtain ⟨v125, M124, hM124, h⟩ := cI_inv h
        refine ew_callV 0 [.int v122, .int v123] d_XLaw_law_663 cv_XLaw_106 (T_XModel_plain hM124) kM124 (Nat.le_trans (Nat.le_of_ble_eq_true rfl) hn) (Nat.le_trans (Nat.le_of_ble_eq_true rfl) hl) (Nat.le_of_ble_eq_true rfl) rfl rfl ?_
        refine ew_istore (L' := [(0, .retAddr 0), (1, .ref l1), (2, .ref l2), (3, .ref l3), (4, .int l4), (5, .int v121), (6, .int v125)]) [1, 2, 3, 4, 5, 6, 0] d_XLaw_law_666 (by decide) rfl ?_
        refine ew_aload_n 2 d_XLaw_law_668 rfl rfl ?_
        obtain ⟨kM126, h⟩ := kO_inv h
        obtain ⟨v127, M126, hM126, h⟩ := cI_inv h
        refine ew_callV 0 [] d_XLaw_law_669 cv_XLaw_77 (T_XModel_thrown hM126) kM126 (Nat.le_trans (Nat.le_of_ble_eq_true rfl) hn) (Nat.le_trans (Nat.le_of_ble_eq_true rfl) hl) (Nat.le_of_ble_eq_true rfl) rfl rfl ?_
        refine ew_iload d_XLaw_law_672 rfl ?_
        refine ew_icmp_eq 679 d_XLaw_law_674 (by decide) (fun c128 => ?_) (fun c128 => ?_)
        · rw [if_pos c128] at h
          refine ew_iload d_XLaw_law_679 rfl ?_
          refine ew_if_ne 703 d_XLaw_law_681 (by decide) (fun c129 => ?_) (fun c129 => ?_)
          · rw [if_neg c129] at h
            exact ew_pick (L' := [(0, .retAddr 0), (1, .ref l1), (2, .ref l2), (3, .ref l3), (4, .int l4)]) [0, 1, 2, 3, 4] rfl (E_XLaw_law_703 hxs hn hl ih h)
          · rw [if_pos c129] at h
            refine ew_aload_n 3 d_XLaw_law_684 rfl rfl ?_
            refine ew_iconst (0) d_XLaw_law_685 (by decide) ?_
            obtain ⟨v130, av130, bv130, cv130, ev130, h⟩ := lL_inv h
            refine ew_lL d_XLaw_law_686 av130 bv130 cv130 ev130 ?_
            refine ew_iload d_XLaw_law_687 rfl ?_
            refine ew_if_eq 696 d_XLaw_law_689 (by decide) (fun c131 => ?_) (fun c131 => ?_)
            · rw [if_pos c131] at h
              refine ew_lconst 0 d_XLaw_law_696 (by decide) ?_
              exact ew_pick (L' := [(0, .retAddr 0), (1, .ref l1), (2, .ref l2), (3, .ref l3), (4, .int l4)]) [0, 1, 2, 3, 4] rfl (E_XLaw_law_697 hxs hn hl ih h)
            · rw [if_neg c131] at h
              refine ew_lconst 1 d_XLaw_law_692 (by decide) ?_
              refine ew_goto 697 d_XLaw_law_693 (by decide) ?_
              exact ew_pick (L' := [(0, .retAddr 0), (1, .ref l1), (2, .ref l2), (3, .ref l3), (4, .int l4)]) [0, 1, 2, 3, 4] rfl (E_XLaw_law_697 hxs hn hl ih h)
        · rw [if_neg c128] at h
          refine ew_iconst (0) d_XLaw_law_677 (by decide) ?_
          obtain ⟨hz, hm⟩ := Prod.mk.inj (Option.some.inj h)
          exact ew_zreturn d_XLaw_law_678 rfl hz.symm hm.symm rfl
      rw [if_neg c117] at h
      refine (Classical.em ((v2 &&& (15 : Int32)) = (9 : Int32))).elim (fun c132 => ?_) (fun c132 => ?_)
      · rw [if_pos c132] at h
        refine ew_swIn 706 d_XLaw_law_39 (by rw [c132]; decide) (by rw [c132]; decide) (by rw [c132]; rfl) (by decide) ?_
        refine ew_aload_n 1 d_XLaw_law_706 rfl rfl ?_
        refine ew_aload_s 0 d_XLaw_law_707 rfl rfl ?_
        refine ew_iload d_XLaw_law_708 rfl ?_
        refine ew_iconst (1) d_XLaw_law_710 (by decide) ?_
        refine ew_iadd d_XLaw_law_711 ?_
        obtain ⟨v133, av133, ev133, h⟩ := sc_inv h
        refine ew_sld hxs d_XLaw_law_712 av133 ev133 ?_
        refine ew_aload_n 3 d_XLaw_law_713 rfl rfl ?_
        obtain ⟨v135, M134, hM134, h⟩ := cI_inv h
        refine ew_callSw [.ref l1, .int v133, .ref l3] d_XLaw_law_714 cw_XLaw_107 (T_XLaw_invariant hM134) (Nat.le_trans (Nat.le_of_ble_eq_true rfl) hn) (Nat.le_trans (Nat.le_of_ble_eq_true rfl) hl) (Nat.le_of_ble_eq_true rfl) rfl rfl ?_
        refine ew_istore (L' := [(0, .retAddr 0), (1, .ref l1), (2, .ref l2), (3, .ref l3), (4, .int l4), (5, .int v135)]) [1, 2, 3, 4, 5, 0] d_XLaw_law_717 (by decide) rfl ?_
        refine ew_aload_n 2 d_XLaw_law_719 rfl rfl ?_
        refine ew_aload_s 0 d_XLaw_law_720 rfl rfl ?_
        refine ew_iload d_XLaw_law_721 rfl ?_
        refine ew_iconst (1) d_XLaw_law_723 (by decide) ?_
        refine ew_iadd d_XLaw_law_724 ?_
        obtain ⟨v136, av136, ev136, h⟩ := sc_inv h
        refine ew_sld hxs d_XLaw_law_725 av136 ev136 ?_
        obtain ⟨kM137, h⟩ := kO_inv h
        obtain ⟨v138, M137, hM137, h⟩ := cI_inv h
        refine ew_callV 0 [.int v136] d_XLaw_law_726 cv_XLaw_109 (T_XModel_invariant hM137) kM137 (Nat.le_trans (Nat.le_of_ble_eq_true rfl) hn) (Nat.le_trans (Nat.le_of_ble_eq_true rfl) hl) (Nat.le_of_ble_eq_true rfl) rfl rfl ?_
        refine ew_istore (L' := [(0, .retAddr 0), (1, .ref l1), (2, .ref l2), (3, .ref l3), (4, .int l4), (5, .int v135), (6, .int v138)]) [1, 2, 3, 4, 5, 6, 0] d_XLaw_law_729 (by decide) rfl ?_
        refine ew_aload_n 2 d_XLaw_law_731 rfl rfl ?_
        obtain ⟨kM139, h⟩ := kO_inv h
        obtain ⟨v140, M139, hM139, h⟩ := cI_inv h
        refine ew_callV 0 [] d_XLaw_law_732 cv_XLaw_77 (T_XModel_thrown hM139) kM139 (Nat.le_trans (Nat.le_of_ble_eq_true rfl) hn) (Nat.le_trans (Nat.le_of_ble_eq_true rfl) hl) (Nat.le_of_ble_eq_true rfl) rfl rfl ?_
        refine ew_iload d_XLaw_law_735 rfl ?_
        refine ew_icmp_eq 742 d_XLaw_law_737 (by decide) (fun c141 => ?_) (fun c141 => ?_)
        · rw [if_pos c141] at h
          refine ew_iload d_XLaw_law_742 rfl ?_
          refine ew_if_ne 759 d_XLaw_law_744 (by decide) (fun c142 => ?_) (fun c142 => ?_)
          · rw [if_neg c142] at h
            exact ew_pick (L' := [(0, .retAddr 0), (1, .ref l1), (2, .ref l2), (3, .ref l3), (4, .int l4)]) [0, 1, 2, 3, 4] rfl (E_XLaw_law_759 hxs hn hl ih h)
          · rw [if_pos c142] at h
            refine ew_aload_n 3 d_XLaw_law_747 rfl rfl ?_
            refine ew_iconst (0) d_XLaw_law_748 (by decide) ?_
            obtain ⟨v143, av143, bv143, cv143, ev143, h⟩ := lL_inv h
            refine ew_lL d_XLaw_law_749 av143 bv143 cv143 ev143 ?_
            refine ew_iload d_XLaw_law_750 rfl ?_
            refine ew_i2l d_XLaw_law_752 ?_
            refine ew_lcmp d_XLaw_law_753 ?_
            refine ew_if_eq 759 d_XLaw_law_754 (by decide) (fun c144 => ?_) (fun c144 => ?_)
            · rw [if_pos c144] at h
              exact ew_pick (L' := [(0, .retAddr 0), (1, .ref l1), (2, .ref l2), (3, .ref l3), (4, .int l4)]) [0, 1, 2, 3, 4] rfl (E_XLaw_law_759 hxs hn hl ih h)
            · rw [if_neg c144] at h
              refine ew_iconst (0) d_XLaw_law_757 (by decide) ?_
              obtain ⟨hz, hm⟩ := Prod.mk.inj (Option.some.inj h)
              exact ew_zreturn d_XLaw_law_758 rfl hz.symm hm.symm rfl
        · rw [if_neg c141] at h
          refine ew_iconst (0) d_XLaw_law_740 (by decide) ?_
          obtain ⟨hz, hm⟩ := Prod.mk.inj (Option.some.inj h)
          exact ew_zreturn d_XLaw_law_741 rfl hz.symm hm.symm rfl
      rw [if_neg c132] at h
      refine (Classical.em ((v2 &&& (15 : Int32)) = (10 : Int32))).elim (fun c145 => ?_) (fun c145 => ?_)
      · rw [if_pos c145] at h
        refine ew_swIn 762 d_XLaw_law_39 (by rw [c145]; decide) (by rw [c145]; decide) (by rw [c145]; rfl) (by decide) ?_
        refine ew_aload_n 1 d_XLaw_law_762 rfl rfl ?_
        refine ew_aload_s 0 d_XLaw_law_763 rfl rfl ?_
        refine ew_iload d_XLaw_law_764 rfl ?_
        refine ew_iconst (1) d_XLaw_law_766 (by decide) ?_
        refine ew_iadd d_XLaw_law_767 ?_
        obtain ⟨v146, av146, ev146, h⟩ := sc_inv h
        refine ew_sld hxs d_XLaw_law_768 av146 ev146 ?_
        refine ew_aload_n 3 d_XLaw_law_769 rfl rfl ?_
        obtain ⟨v148, M147, hM147, h⟩ := cI_inv h
        refine ew_callSw [.ref l1, .int v146, .ref l3] d_XLaw_law_770 cw_XLaw_110 (T_XLaw_run hM147) (Nat.le_trans (Nat.le_of_ble_eq_true rfl) hn) (Nat.le_trans (Nat.le_of_ble_eq_true rfl) hl) (Nat.le_of_ble_eq_true rfl) rfl rfl ?_
        refine ew_istore (L' := [(0, .retAddr 0), (1, .ref l1), (2, .ref l2), (3, .ref l3), (4, .int l4), (5, .int v148)]) [1, 2, 3, 4, 5, 0] d_XLaw_law_773 (by decide) rfl ?_
        refine ew_aload_n 2 d_XLaw_law_775 rfl rfl ?_
        refine ew_aload_s 0 d_XLaw_law_776 rfl rfl ?_
        refine ew_iload d_XLaw_law_777 rfl ?_
        refine ew_iconst (1) d_XLaw_law_779 (by decide) ?_
        refine ew_iadd d_XLaw_law_780 ?_
        obtain ⟨v149, av149, ev149, h⟩ := sc_inv h
        refine ew_sld hxs d_XLaw_law_781 av149 ev149 ?_
        obtain ⟨kM150, h⟩ := kO_inv h
        obtain ⟨v151, M150, hM150, h⟩ := cI_inv h
        refine ew_callV 0 [.int v149] d_XLaw_law_782 cv_XLaw_112 (T_XModel_run hM150) kM150 (Nat.le_trans (Nat.le_of_ble_eq_true rfl) hn) (Nat.le_trans (Nat.le_of_ble_eq_true rfl) hl) (Nat.le_of_ble_eq_true rfl) rfl rfl ?_
        refine ew_istore (L' := [(0, .retAddr 0), (1, .ref l1), (2, .ref l2), (3, .ref l3), (4, .int l4), (5, .int v148), (6, .int v151)]) [1, 2, 3, 4, 5, 6, 0] d_XLaw_law_785 (by decide) rfl ?_
        refine ew_aload_n 2 d_XLaw_law_787 rfl rfl ?_
        obtain ⟨kM152, h⟩ := kO_inv h
        obtain ⟨v153, M152, hM152, h⟩ := cI_inv h
        refine ew_callV 0 [] d_XLaw_law_788 cv_XLaw_77 (T_XModel_thrown hM152) kM152 (Nat.le_trans (Nat.le_of_ble_eq_true rfl) hn) (Nat.le_trans (Nat.le_of_ble_eq_true rfl) hl) (Nat.le_of_ble_eq_true rfl) rfl rfl ?_
        refine ew_iload d_XLaw_law_791 rfl ?_
        refine ew_icmp_eq 798 d_XLaw_law_793 (by decide) (fun c154 => ?_) (fun c154 => ?_)
        · rw [if_pos c154] at h
          refine ew_iload d_XLaw_law_798 rfl ?_
          refine ew_if_ne 815 d_XLaw_law_800 (by decide) (fun c155 => ?_) (fun c155 => ?_)
          · rw [if_neg c155] at h
            exact ew_pick (L' := [(0, .retAddr 0), (1, .ref l1), (2, .ref l2), (3, .ref l3), (4, .int l4)]) [0, 1, 2, 3, 4] rfl (E_XLaw_law_815 hxs hn hl ih h)
          · rw [if_pos c155] at h
            refine ew_aload_n 3 d_XLaw_law_803 rfl rfl ?_
            refine ew_iconst (0) d_XLaw_law_804 (by decide) ?_
            obtain ⟨v156, av156, bv156, cv156, ev156, h⟩ := lL_inv h
            refine ew_lL d_XLaw_law_805 av156 bv156 cv156 ev156 ?_
            refine ew_iload d_XLaw_law_806 rfl ?_
            refine ew_i2l d_XLaw_law_808 ?_
            refine ew_lcmp d_XLaw_law_809 ?_
            refine ew_if_eq 815 d_XLaw_law_810 (by decide) (fun c157 => ?_) (fun c157 => ?_)
            · rw [if_pos c157] at h
              exact ew_pick (L' := [(0, .retAddr 0), (1, .ref l1), (2, .ref l2), (3, .ref l3), (4, .int l4)]) [0, 1, 2, 3, 4] rfl (E_XLaw_law_815 hxs hn hl ih h)
            · rw [if_neg c157] at h
              refine ew_iconst (0) d_XLaw_law_813 (by decide) ?_
              obtain ⟨hz, hm⟩ := Prod.mk.inj (Option.some.inj h)
              exact ew_zreturn d_XLaw_law_814 rfl hz.symm hm.symm rfl
        · rw [if_neg c154] at h
          refine ew_iconst (0) d_XLaw_law_796 (by decide) ?_
          obtain ⟨hz, hm⟩ := Prod.mk.inj (Option.some.inj h)
          exact ew_zreturn d_XLaw_law_797 rfl hz.symm hm.symm rfl
      rw [if_neg c145] at h
      refine (Classical.em ((v2 &&& (15 : Int32)) = (11 : Int32))).elim (fun c158 => ?_) (fun c158 => ?_)
      · rw [if_pos c158] at h
        refine ew_swIn 818 d_XLaw_law_39 (by rw [c158]; decide) (by rw [c158]; decide) (by rw [c158]; rfl) (by decide) ?_
        refine ew_aload_n 1 d_XLaw_law_818 rfl rfl ?_
        refine ew_aload_s 0 d_XLaw_law_819 rfl rfl ?_
        refine ew_iload d_XLaw_law_820 rfl ?_
        refine ew_iconst (1) d_XLaw_law_822 (by decide) ?_
        refine ew_iadd d_XLaw_law_823 ?_
        obtain ⟨v159, av159, ev159, h⟩ := sc_inv h
        refine ew_sld hxs d_XLaw_law_824 av159 ev159 ?_
        refine ew_aload_n 3 d_XLaw_law_825 rfl rfl ?_
        obtain ⟨v161, M160, hM160, h⟩ := cI_inv h
        refine ew_callSw [.ref l1, .int v159, .ref l3] d_XLaw_law_826 cw_XLaw_113 (T_XLaw_kept hM160) (Nat.le_trans (Nat.le_of_ble_eq_true rfl) hn) (Nat.le_trans (Nat.le_of_ble_eq_true rfl) hl) (Nat.le_of_ble_eq_true rfl) rfl rfl ?_
        refine ew_istore (L' := [(0, .retAddr 0), (1, .ref l1), (2, .ref l2), (3, .ref l3), (4, .int l4), (5, .int v161)]) [1, 2, 3, 4, 5, 0] d_XLaw_law_829 (by decide) rfl ?_
        refine ew_aload_n 2 d_XLaw_law_831 rfl rfl ?_
        refine ew_aload_s 0 d_XLaw_law_832 rfl rfl ?_
        refine ew_iload d_XLaw_law_833 rfl ?_
        refine ew_iconst (1) d_XLaw_law_835 (by decide) ?_
        refine ew_iadd d_XLaw_law_836 ?_
        obtain ⟨v162, av162, ev162, h⟩ := sc_inv h
        refine ew_sld hxs d_XLaw_law_837 av162 ev162 ?_
        obtain ⟨kM163, h⟩ := kO_inv h
        obtain ⟨v164, M163, hM163, h⟩ := cI_inv h
        refine ew_callV 0 [.int v162] d_XLaw_law_838 cv_XLaw_115 (T_XModel_kept hM163) kM163 (Nat.le_trans (Nat.le_of_ble_eq_true rfl) hn) (Nat.le_trans (Nat.le_of_ble_eq_true rfl) hl) (Nat.le_of_ble_eq_true rfl) rfl rfl ?_
        refine ew_istore (L' := [(0, .retAddr 0), (1, .ref l1), (2, .ref l2), (3, .ref l3), (4, .int l4), (5, .int v161), (6, .int v164)]) [1, 2, 3, 4, 5, 6, 0] d_XLaw_law_841 (by decide) rfl ?_
        refine ew_aload_n 2 d_XLaw_law_843 rfl rfl ?_
        obtain ⟨kM165, h⟩ := kO_inv h
        obtain ⟨v166, M165, hM165, h⟩ := cI_inv h
        refine ew_callV 0 [] d_XLaw_law_844 cv_XLaw_77 (T_XModel_thrown hM165) kM165 (Nat.le_trans (Nat.le_of_ble_eq_true rfl) hn) (Nat.le_trans (Nat.le_of_ble_eq_true rfl) hl) (Nat.le_of_ble_eq_true rfl) rfl rfl ?_
        refine ew_iload d_XLaw_law_847 rfl ?_
        refine ew_icmp_eq 854 d_XLaw_law_849 (by decide) (fun c167 => ?_) (fun c167 => ?_)
        · rw [if_pos c167] at h
          refine ew_iload d_XLaw_law_854 rfl ?_
          refine ew_if_ne 871 d_XLaw_law_856 (by decide) (fun c168 => ?_) (fun c168 => ?_)
          · rw [if_neg c168] at h
            exact ew_pick (L' := [(0, .retAddr 0), (1, .ref l1), (2, .ref l2), (3, .ref l3), (4, .int l4)]) [0, 1, 2, 3, 4] rfl (E_XLaw_law_871 hxs hn hl ih h)
          · rw [if_pos c168] at h
            refine ew_aload_n 3 d_XLaw_law_859 rfl rfl ?_
            refine ew_iconst (0) d_XLaw_law_860 (by decide) ?_
            obtain ⟨v169, av169, bv169, cv169, ev169, h⟩ := lL_inv h
            refine ew_lL d_XLaw_law_861 av169 bv169 cv169 ev169 ?_
            refine ew_iload d_XLaw_law_862 rfl ?_
            refine ew_i2l d_XLaw_law_864 ?_
            refine ew_lcmp d_XLaw_law_865 ?_
            refine ew_if_eq 871 d_XLaw_law_866 (by decide) (fun c170 => ?_) (fun c170 => ?_)
            · rw [if_pos c170] at h
              exact ew_pick (L' := [(0, .retAddr 0), (1, .ref l1), (2, .ref l2), (3, .ref l3), (4, .int l4)]) [0, 1, 2, 3, 4] rfl (E_XLaw_law_871 hxs hn hl ih h)
            · rw [if_neg c170] at h
              refine ew_iconst (0) d_XLaw_law_869 (by decide) ?_
              obtain ⟨hz, hm⟩ := Prod.mk.inj (Option.some.inj h)
              exact ew_zreturn d_XLaw_law_870 rfl hz.symm hm.symm rfl
        · rw [if_neg c167] at h
          refine ew_iconst (0) d_XLaw_law_852 (by decide) ?_
          obtain ⟨hz, hm⟩ := Prod.mk.inj (Option.some.inj h)
          exact ew_zreturn d_XLaw_law_853 rfl hz.symm hm.symm rfl
      rw [if_neg c158] at h
      refine (Classical.em ((v2 &&& (15 : Int32)) = (12 : Int32))).elim (fun c171 => ?_) (fun c171 => ?_)
      · rw [if_pos c171] at h
        refine ew_swIn 874 d_XLaw_law_39 (by rw [c171]; decide) (by rw [c171]; decide) (by rw [c171]; rfl) (by decide) ?_
        refine ew_aload_n 1 d_XLaw_law_874 rfl rfl ?_
        refine ew_aload_s 0 d_XLaw_law_875 rfl rfl ?_
        refine ew_iload d_XLaw_law_876 rfl ?_
        refine ew_iconst (1) d_XLaw_law_878 (by decide) ?_
        refine ew_iadd d_XLaw_law_879 ?_
        obtain ⟨v172, av172, ev172, h⟩ := sc_inv h
        refine ew_sld hxs d_XLaw_law_880 av172 ev172 ?_
        refine ew_aload_n 3 d_XLaw_law_881 rfl rfl ?_
        obtain ⟨v174, M173, hM173, h⟩ := cI_inv h
        refine ew_callSw [.ref l1, .int v172, .ref l3] d_XLaw_law_882 cw_XLaw_116 (T_XLaw_witness hM173) (Nat.le_trans (Nat.le_of_ble_eq_true rfl) hn) (Nat.le_trans (Nat.le_of_ble_eq_true rfl) hl) (Nat.le_of_ble_eq_true rfl) rfl rfl ?_
        refine ew_istore (L' := [(0, .retAddr 0), (1, .ref l1), (2, .ref l2), (3, .ref l3), (4, .int l4), (5, .int v174)]) [1, 2, 3, 4, 5, 0] d_XLaw_law_885 (by decide) rfl ?_
        refine ew_aload_n 2 d_XLaw_law_887 rfl rfl ?_
        refine ew_aload_s 0 d_XLaw_law_888 rfl rfl ?_
        refine ew_iload d_XLaw_law_889 rfl ?_
        refine ew_iconst (1) d_XLaw_law_891 (by decide) ?_
        refine ew_iadd d_XLaw_law_892 ?_
        obtain ⟨v175, av175, ev175, h⟩ := sc_inv h
        refine ew_sld hxs d_XLaw_law_893 av175 ev175 ?_
        obtain ⟨kM176, h⟩ := kO_inv h
        obtain ⟨v177, M176, hM176, h⟩ := cI_inv h
        refine ew_callV 0 [.int v175] d_XLaw_law_894 cv_XLaw_118 (T_XModel_witness hM176) kM176 (Nat.le_trans (Nat.le_of_ble_eq_true rfl) hn) (Nat.le_trans (Nat.le_of_ble_eq_true rfl) hl) (Nat.le_of_ble_eq_true rfl) rfl rfl ?_
        refine ew_istore (L' := [(0, .retAddr 0), (1, .ref l1), (2, .ref l2), (3, .ref l3), (4, .int l4), (5, .int v174), (6, .int v177)]) [1, 2, 3, 4, 5, 6, 0] d_XLaw_law_897 (by decide) rfl ?_
        refine ew_aload_n 2 d_XLaw_law_899 rfl rfl ?_
        obtain ⟨kM178, h⟩ := kO_inv h
        obtain ⟨v179, M178, hM178, h⟩ := cI_inv h
        refine ew_callV 0 [] d_XLaw_law_900 cv_XLaw_77 (T_XModel_thrown hM178) kM178 (Nat.le_trans (Nat.le_of_ble_eq_true rfl) hn) (Nat.le_trans (Nat.le_of_ble_eq_true rfl) hl) (Nat.le_of_ble_eq_true rfl) rfl rfl ?_
        refine ew_iload d_XLaw_law_903 rfl ?_
        refine ew_icmp_eq 910 d_XLaw_law_905 (by decide) (fun c180 => ?_) (fun c180 => ?_)
        · rw [if_pos c180] at h
          refine ew_iload d_XLaw_law_910 rfl ?_
          refine ew_if_ne 927 d_XLaw_law_912 (by decide) (fun c181 => ?_) (fun c181 => ?_)
          · rw [if_neg c181] at h
            exact ew_pick (L' := [(0, .retAddr 0), (1, .ref l1), (2, .ref l2), (3, .ref l3), (4, .int l4)]) [0, 1, 2, 3, 4] rfl (E_XLaw_law_927 hxs hn hl ih h)
          · rw [if_pos c181] at h
            refine ew_aload_n 3 d_XLaw_law_915 rfl rfl ?_
            refine ew_iconst (0) d_XLaw_law_916 (by decide) ?_
            obtain ⟨v182, av182, bv182, cv182, ev182, h⟩ := lL_inv h
            refine ew_lL d_XLaw_law_917 av182 bv182 cv182 ev182 ?_
            refine ew_iload d_XLaw_law_918 rfl ?_
            refine ew_i2l d_XLaw_law_920 ?_
            refine ew_lcmp d_XLaw_law_921 ?_
            refine ew_if_eq 927 d_XLaw_law_922 (by decide) (fun c183 => ?_) (fun c183 => ?_)
            · rw [if_pos c183] at h
              exact ew_pick (L' := [(0, .retAddr 0), (1, .ref l1), (2, .ref l2), (3, .ref l3), (4, .int l4)]) [0, 1, 2, 3, 4] rfl (E_XLaw_law_927 hxs hn hl ih h)
            · rw [if_neg c183] at h
              refine ew_iconst (0) d_XLaw_law_925 (by decide) ?_
              obtain ⟨hz, hm⟩ := Prod.mk.inj (Option.some.inj h)
              exact ew_zreturn d_XLaw_law_926 rfl hz.symm hm.symm rfl
        · rw [if_neg c180] at h
          refine ew_iconst (0) d_XLaw_law_908 (by decide) ?_
          obtain ⟨hz, hm⟩ := Prod.mk.inj (Option.some.inj h)
          exact ew_zreturn d_XLaw_law_909 rfl hz.symm hm.symm rfl
      rw [if_neg c171] at h
      refine (Classical.em ((v2 &&& (15 : Int32)) = (13 : Int32))).elim (fun c184 => ?_) (fun c184 => ?_)
      · rw [if_pos c184] at h
        refine ew_swIn 930 d_XLaw_law_39 (by rw [c184]; decide) (by rw [c184]; decide) (by rw [c184]; rfl) (by decide) ?_
        refine ew_aload_n 1 d_XLaw_law_930 rfl rfl ?_
        refine ew_aload_n 3 d_XLaw_law_931 rfl rfl ?_
        obtain ⟨v186, M185, hM185, h⟩ := cI_inv h
        refine ew_callSw [.ref l1, .ref l3] d_XLaw_law_932 cw_XLaw_119 (T_XLaw_differs hM185) (Nat.le_trans (Nat.le_of_ble_eq_true rfl) hn) (Nat.le_trans (Nat.le_of_ble_eq_true rfl) hl) (Nat.le_of_ble_eq_true rfl) rfl rfl ?_
        refine ew_istore (L' := [(0, .retAddr 0), (1, .ref l1), (2, .ref l2), (3, .ref l3), (4, .int l4), (5, .int v186)]) [1, 2, 3, 4, 5, 0] d_XLaw_law_935 (by decide) rfl ?_
        refine ew_aload_n 2 d_XLaw_law_937 rfl rfl ?_
        obtain ⟨kM187, h⟩ := kO_inv h
        obtain ⟨v188, M187, hM187, h⟩ := cI_inv h
        refine ew_callV 0 [] d_XLaw_law_938 cv_XLaw_121 (T_XModel_differs hM187) kM187 (Nat.le_trans (Nat.le_of_ble_eq_true rfl) hn) (Nat.le_trans (Nat.le_of_ble_eq_true rfl) hl) (Nat.le_of_ble_eq_true rfl) rfl rfl ?_
        refine ew_istore (L' := [(0, .retAddr 0), (1, .ref l1), (2, .ref l2), (3, .ref l3), (4, .int l4), (5, .int v186), (6, .int v188)]) [1, 2, 3, 4, 5, 6, 0] d_XLaw_law_941 (by decide) rfl ?_
        refine ew_aload_n 2 d_XLaw_law_943 rfl rfl ?_
        obtain ⟨kM189, h⟩ := kO_inv h
        obtain ⟨v190, M189, hM189, h⟩ := cI_inv h
        refine ew_callV 0 [] d_XLaw_law_944 cv_XLaw_77 (T_XModel_thrown hM189) kM189 (Nat.le_trans (Nat.le_of_ble_eq_true rfl) hn) (Nat.le_trans (Nat.le_of_ble_eq_true rfl) hl) (Nat.le_of_ble_eq_true rfl) rfl rfl ?_
        refine ew_iload d_XLaw_law_947 rfl ?_
        refine ew_icmp_eq 954 d_XLaw_law_949 (by decide) (fun c191 => ?_) (fun c191 => ?_)
        · rw [if_pos c191] at h
          refine ew_iload d_XLaw_law_954 rfl ?_
          refine ew_if_ne 971 d_XLaw_law_956 (by decide) (fun c192 => ?_) (fun c192 => ?_)
          · rw [if_neg c192] at h
            exact ew_pick (L' := [(0, .retAddr 0), (1, .ref l1), (2, .ref l2), (3, .ref l3), (4, .int l4)]) [0, 1, 2, 3, 4] rfl (E_XLaw_law_971 hxs hn hl ih h)
          · rw [if_pos c192] at h
            refine ew_aload_n 3 d_XLaw_law_959 rfl rfl ?_
            refine ew_iconst (0) d_XLaw_law_960 (by decide) ?_
            obtain ⟨v193, av193, bv193, cv193, ev193, h⟩ := lL_inv h
            refine ew_lL d_XLaw_law_961 av193 bv193 cv193 ev193 ?_
            refine ew_iload d_XLaw_law_962 rfl ?_
            refine ew_i2l d_XLaw_law_964 ?_
            refine ew_lcmp d_XLaw_law_965 ?_
            refine ew_if_eq 971 d_XLaw_law_966 (by decide) (fun c194 => ?_) (fun c194 => ?_)
            · rw [if_pos c194] at h
              exact ew_pick (L' := [(0, .retAddr 0), (1, .ref l1), (2, .ref l2), (3, .ref l3), (4, .int l4)]) [0, 1, 2, 3, 4] rfl (E_XLaw_law_971 hxs hn hl ih h)
            · rw [if_neg c194] at h
              refine ew_iconst (0) d_XLaw_law_969 (by decide) ?_
              obtain ⟨hz, hm⟩ := Prod.mk.inj (Option.some.inj h)
              exact ew_zreturn d_XLaw_law_970 rfl hz.symm hm.symm rfl
        · rw [if_neg c191] at h
          refine ew_iconst (0) d_XLaw_law_952 (by decide) ?_
          obtain ⟨hz, hm⟩ := Prod.mk.inj (Option.some.inj h)
          exact ew_zreturn d_XLaw_law_953 rfl hz.symm hm.symm rfl
      rw [if_neg c184] at h
      refine (Classical.em ((v2 &&& (15 : Int32)) = (14 : Int32))).elim (fun c195 => ?_) (fun c195 => ?_)
      · rw [if_pos c195] at h
        refine ew_swIn 974 d_XLaw_law_39 (by rw [c195]; decide) (by rw [c195]; decide) (by rw [c195]; rfl) (by decide) ?_
        refine ew_aload_n 1 d_XLaw_law_974 rfl rfl ?_
        refine ew_aload_s 0 d_XLaw_law_975 rfl rfl ?_
        refine ew_iload d_XLaw_law_976 rfl ?_
        refine ew_iconst (1) d_XLaw_law_978 (by decide) ?_
        refine ew_iadd d_XLaw_law_979 ?_
        obtain ⟨v196, av196, ev196, h⟩ := sc_inv h
        refine ew_sld hxs d_XLaw_law_980 av196 ev196 ?_
        refine ew_aload_s 0 d_XLaw_law_981 rfl rfl ?_
        refine ew_iload d_XLaw_law_982 rfl ?_
        refine ew_iconst (2) d_XLaw_law_984 (by decide) ?_
        refine ew_iadd d_XLaw_law_985 ?_
        obtain ⟨v197, av197, ev197, h⟩ := sc_inv h
        refine ew_sld hxs d_XLaw_law_986 av197 ev197 ?_
        refine ew_aload_n 3 d_XLaw_law_987 rfl rfl ?_
        obtain ⟨v199, M198, hM198, h⟩ := cI_inv h
        refine ew_callSw [.ref l1, .int v196, .int v197, .ref l3] d_XLaw_law_988 cw_XLaw_122 (T_XLaw_node hM198) (Nat.le_trans (Nat.le_of_ble_eq_true rfl) hn) (Nat.le_trans (Nat.le_of_ble_eq_true rfl) hl) (Nat.le_of_ble_eq_true rfl) rfl rfl ?_
        refine ew_istore (L' := [(0, .retAddr 0), (1, .ref l1), (2, .ref l2), (3, .ref l3), (4, .int l4), (5, .int v199)]) [1, 2, 3, 4, 5, 0] d_XLaw_law_991 (by decide) rfl ?_
        refine ew_aload_n 2 d_XLaw_law_993 rfl rfl ?_
        refine ew_aload_s 0 d_XLaw_law_994 rfl rfl ?_
        refine ew_iload d_XLaw_law_995 rfl ?_
        refine ew_iconst (1) d_XLaw_law_997 (by decide) ?_
        refine ew_iadd d_XLaw_law_998 ?_
        obtain ⟨v200, av200, ev200, h⟩ := sc_inv h
        refine ew_sld hxs d_XLaw_law_999 av200 ev200 ?_
        refine ew_aload_s 0 d_XLaw_law_1000 rfl rfl ?_
        refine ew_iload d_XLaw_law_1001 rfl ?_
        refine ew_iconst (2) d_XLaw_law_1003 (by decide) ?_
        refine ew_iadd d_XLaw_law_1004 ?_
        obtain ⟨v201, av201, ev201, h⟩ := sc_inv h
        refine ew_sld hxs d_XLaw_law_1005 av201 ev201 ?_
        obtain ⟨kM202, h⟩ := kO_inv h
        obtain ⟨v203, M202, hM202, h⟩ := cI_inv h
        refine ew_callV 0 [.int v200, .int v201] d_XLaw_law_1006 cv_XLaw_124 (T_XModel_node hM202) kM202 (Nat.le_trans (Nat.le_of_ble_eq_true rfl) hn) (Nat.le_trans (Nat.le_of_ble_eq_true rfl) hl) (Nat.le_of_ble_eq_true rfl) rfl rfl ?_
        refine ew_istore (L' := [(0, .retAddr 0), (1, .ref l1), (2, .ref l2), (3, .ref l3), (4, .int l4), (5, .int v199), (6, .int v203)]) [1, 2, 3, 4, 5, 6, 0] d_XLaw_law_1009 (by decide) rfl ?_
        refine ew_aload_n 2 d_XLaw_law_1011 rfl rfl ?_
        obtain ⟨kM204, h⟩ := kO_inv h
        obtain ⟨v205, M204, hM204, h⟩ := cI_inv h
        refine ew_callV 0 [] d_XLaw_law_1012 cv_XLaw_77 (T_XModel_thrown hM204) kM204 (Nat.le_trans (Nat.le_of_ble_eq_true rfl) hn) (Nat.le_trans (Nat.le_of_ble_eq_true rfl) hl) (Nat.le_of_ble_eq_true rfl) rfl rfl ?_
        refine ew_iload d_XLaw_law_1015 rfl ?_
        refine ew_icmp_eq 1022 d_XLaw_law_1017 (by decide) (fun c206 => ?_) (fun c206 => ?_)
        · rw [if_pos c206] at h
          refine ew_iload d_XLaw_law_1022 rfl ?_
          refine ew_if_ne 1039 d_XLaw_law_1024 (by decide) (fun c207 => ?_) (fun c207 => ?_)
          · rw [if_neg c207] at h
            exact ew_pick (L' := [(0, .retAddr 0), (1, .ref l1), (2, .ref l2), (3, .ref l3), (4, .int l4)]) [0, 1, 2, 3, 4] rfl (E_XLaw_law_1039 hxs hn hl ih h)
          · rw [if_pos c207] at h
            refine ew_aload_n 3 d_XLaw_law_1027 rfl rfl ?_
            refine ew_iconst (0) d_XLaw_law_1028 (by decide) ?_
            obtain ⟨v208, av208, bv208, cv208, ev208, h⟩ := lL_inv h
            refine ew_lL d_XLaw_law_1029 av208 bv208 cv208 ev208 ?_
            refine ew_iload d_XLaw_law_1030 rfl ?_
            refine ew_i2l d_XLaw_law_1032 ?_
            refine ew_lcmp d_XLaw_law_1033 ?_
            refine ew_if_eq 1039 d_XLaw_law_1034 (by decide) (fun c209 => ?_) (fun c209 => ?_)
            · rw [if_pos c209] at h
              exact ew_pick (L' := [(0, .retAddr 0), (1, .ref l1), (2, .ref l2), (3, .ref l3), (4, .int l4)]) [0, 1, 2, 3, 4] rfl (E_XLaw_law_1039 hxs hn hl ih h)
            · rw [if_neg c209] at h
              refine ew_iconst (0) d_XLaw_law_1037 (by decide) ?_
              obtain ⟨hz, hm⟩ := Prod.mk.inj (Option.some.inj h)
              exact ew_zreturn d_XLaw_law_1038 rfl hz.symm hm.symm rfl
        · rw [if_neg c206] at h
          refine ew_iconst (0) d_XLaw_law_1020 (by decide) ?_
          obtain ⟨hz, hm⟩ := Prod.mk.inj (Option.some.inj h)
          exact ew_zreturn d_XLaw_law_1021 rfl hz.symm hm.symm rfl
      rw [if_neg c195] at h
      refine (Classical.em ((v2 &&& (15 : Int32)) = (15 : Int32))).elim (fun c210 => ?_) (fun c210 => ?_)
      · rw [if_pos c210] at h
        refine ew_swIn 1042 d_XLaw_law_39 (by rw [c210]; decide) (by rw [c210]; decide) (by rw [c210]; rfl) (by decide) ?_
        refine ew_aload_n 1 d_XLaw_law_1042 rfl rfl ?_
        refine ew_aload_s 0 d_XLaw_law_1043 rfl rfl ?_
        refine ew_iload d_XLaw_law_1044 rfl ?_
        refine ew_iconst (1) d_XLaw_law_1046 (by decide) ?_
        refine ew_iadd d_XLaw_law_1047 ?_
        obtain ⟨v211, av211, ev211, h⟩ := sc_inv h
        refine ew_sld hxs d_XLaw_law_1048 av211 ev211 ?_
        obtain ⟨kM212, h⟩ := kO_inv h
        obtain ⟨v213, M212, hM212, h⟩ := cI_inv h
        refine ew_callV 1 [.int v211] d_XLaw_law_1049 cv_XLaw_125 (T_X_count hM212) kM212 (Nat.le_trans (Nat.le_of_ble_eq_true rfl) hn) (Nat.le_trans (Nat.le_of_ble_eq_true rfl) hl) (Nat.le_of_ble_eq_true rfl) rfl rfl ?_
        refine ew_aload_n 2 d_XLaw_law_1052 rfl rfl ?_
        refine ew_aload_s 0 d_XLaw_law_1053 rfl rfl ?_
        refine ew_iload d_XLaw_law_1054 rfl ?_
        refine ew_iconst (1) d_XLaw_law_1056 (by decide) ?_
        refine ew_iadd d_XLaw_law_1057 ?_
        obtain ⟨v214, av214, ev214, h⟩ := sc_inv h
        refine ew_sld hxs d_XLaw_law_1058 av214 ev214 ?_
        obtain ⟨kM215, h⟩ := kO_inv h
        obtain ⟨v216, M215, hM215, h⟩ := cI_inv h
        refine ew_callV 0 [.int v214] d_XLaw_law_1059 cv_XLaw_128 (T_XModel_count hM215) kM215 (Nat.le_trans (Nat.le_of_ble_eq_true rfl) hn) (Nat.le_trans (Nat.le_of_ble_eq_true rfl) hl) (Nat.le_of_ble_eq_true rfl) rfl rfl ?_
        refine ew_icmp_eq 1067 d_XLaw_law_1062 (by decide) (fun c217 => ?_) (fun c217 => ?_)
        · rw [if_pos c217] at h
          exact E_XLaw_law_1067 hxs hn hl ih h
        · rw [if_neg c217] at h
          refine ew_iconst (0) d_XLaw_law_1065 (by decide) ?_
          obtain ⟨hz, hm⟩ := Prod.mk.inj (Option.some.inj h)
          exact ew_zreturn d_XLaw_law_1066 rfl hz.symm hm.symm rfl
      rw [if_neg c210] at h
      have zc3 := lv_neT c3 (show (0 : Int32).toInt = 0 by decide)
      have zc14 := lv_neT c14 (show (1 : Int32).toInt = 1 by decide)
      have zc25 := lv_neT c25 (show (2 : Int32).toInt = 2 by decide)
      have zc42 := lv_neT c42 (show (3 : Int32).toInt = 3 by decide)
      have zc57 := lv_neT c57 (show (4 : Int32).toInt = 4 by decide)
      have zc70 := lv_neT c70 (show (5 : Int32).toInt = 5 by decide)
      have zc85 := lv_neT c85 (show (6 : Int32).toInt = 6 by decide)
      have zc102 := lv_neT c102 (show (7 : Int32).toInt = 7 by decide)
      have zc117 := lv_neT c117 (show (8 : Int32).toInt = 8 by decide)
      have zc132 := lv_neT c132 (show (9 : Int32).toInt = 9 by decide)
      have zc145 := lv_neT c145 (show (10 : Int32).toInt = 10 by decide)
      have zc158 := lv_neT c158 (show (11 : Int32).toInt = 11 by decide)
      have zc171 := lv_neT c171 (show (12 : Int32).toInt = 12 by decide)
      have zc184 := lv_neT c184 (show (13 : Int32).toInt = 13 by decide)
      have zc195 := lv_neT c195 (show (14 : Int32).toInt = 14 by decide)
      have zc210 := lv_neT c210 (show (15 : Int32).toInt = 15 by decide)
      refine ew_swOut 1067 d_XLaw_law_39 (by omega) (by decide) ?_
      exact E_XLaw_law_1067 hxs hn hl ih h
def F_XLaw_law (xs : Nat → Int32) (Ls : Nat) (n : Nat) (M : PM) : qO :=
  mO 1 M (fun q1 M2 =>
  cV (F_X_init n q1 M2) (fun M3 =>
  mO 0 M3 (fun q4 M5 =>
  cV (F_XModel_init n q4 M5) (fun M6 =>
  mA 2 M6 (1 : Int32) (fun q7 M8 =>
  F_XLaw_law_23 xs Ls n n q1 q4 q7 (0 : Int32) M8)))))
set_option maxHeartbeats 4000000 in
set_option maxRecDepth 100000 in
theorem E_XLaw_law {g : qG} {X : qX} {Z : qZ} {xs : Nat → Int32} {Ls : Nat} (hxs : g.2.2.2.1.2 = (Ls, xs)) (hn : 16 ≤ zn Z) (hl : 408 ≤ zl Z) {n : Nat} {M : PM} (h : F_XLaw_law xs Ls n M = some (zr Z, zf Z)) : EW Y_XLaw_law g X Z 0 [(0, .retAddr 0)] [] M := by
  unfold F_XLaw_law at h
  obtain ⟨q1, M2, eq1, fq1, h⟩ := mO_inv h
  refine ew_mO 1 d_XLaw_law_0 nw_XLaw_8 eq1 fq1 ?_
  refine ew_dup d_XLaw_law_3 rfl ?_
  obtain ⟨M3, hM3, h⟩ := cV_inv h
  refine ew_callI [] d_XLaw_law_4 ci_XLaw_67 (T_X_init hM3) (Nat.le_trans (Nat.le_of_ble_eq_true rfl) hn) (Nat.le_trans (Nat.le_of_ble_eq_true rfl) hl) (Nat.le_of_ble_eq_true rfl) rfl ?_
  refine ew_astore_n (L' := [(0, .retAddr 0), (1, .ref q1)]) 1 [1, 0] d_XLaw_law_7 rfl (by decide) rfl ?_
  obtain ⟨q4, M5, eq4, fq4, h⟩ := mO_inv h
  refine ew_mO 0 d_XLaw_law_8 nw_XLaw_68 eq4 fq4 ?_
  refine ew_dup d_XLaw_law_11 rfl ?_
  obtain ⟨M6, hM6, h⟩ := cV_inv h
  refine ew_callI [] d_XLaw_law_12 ci_XLaw_70 (T_XModel_init hM6) (Nat.le_trans (Nat.le_of_ble_eq_true rfl) hn) (Nat.le_trans (Nat.le_of_ble_eq_true rfl) hl) (Nat.le_of_ble_eq_true rfl) rfl ?_
  refine ew_astore_n (L' := [(0, .retAddr 0), (1, .ref q1), (2, .ref q4)]) 2 [1, 2, 0] d_XLaw_law_15 rfl (by decide) rfl ?_
  refine ew_iconst (1) d_XLaw_law_16 (by decide) ?_
  obtain ⟨q7, M8, aq7, bq7, eq7, fq7, h⟩ := mA_inv h
  refine ew_mA2 d_XLaw_law_17 aq7 bq7 eq7 fq7 ?_
  refine ew_astore_n (L' := [(0, .retAddr 0), (1, .ref q1), (2, .ref q4), (3, .ref q7)]) 3 [1, 2, 3, 0] d_XLaw_law_19 rfl (by decide) rfl ?_
  refine ew_iconst (0) d_XLaw_law_20 (by decide) ?_
  refine ew_istore (L' := [(0, .retAddr 0), (1, .ref q1), (2, .ref q4), (3, .ref q7), (4, .int (0 : Int32))]) [1, 2, 3, 4, 0] d_XLaw_law_21 (by decide) rfl ?_
  exact E_XLaw_law_23 hxs hn hl n q1 q4 q7 (0 : Int32) M8 h
