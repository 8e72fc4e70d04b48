theorem dL_feeds_0 : decode cL_feeds 0 = .ok (.iconst 0, 1) := by decide +kernel
theorem dL_feeds_1 : decode cL_feeds 1 = .ok (.istore_n 2, 1) := by decide +kernel
theorem dL_feeds_2 : decode cL_feeds 2 = .ok (.iload_n 2, 1) := by decide +kernel
theorem dL_feeds_3 : decode cL_feeds 3 = .ok (.aload_n 1, 1) := by decide +kernel
theorem dL_feeds_4 : decode cL_feeds 4 = .ok (.invokevirtual 7, 3) := by decide +kernel
theorem dL_feeds_7 : decode cL_feeds 7 = .ok (.if_icmp .ge 93, 3) := by decide +kernel
theorem dL_feeds_10 : decode cL_feeds 10 = .ok (.iconst 5, 1) := by decide +kernel
theorem dL_feeds_11 : decode cL_feeds 11 = .ok (.newarray .int, 2) := by decide +kernel
theorem dL_feeds_13 : decode cL_feeds 13 = .ok (.astore_n 3, 1) := by decide +kernel
theorem dL_feeds_14 : decode cL_feeds 14 = .ok (.iconst 0, 1) := by decide +kernel
theorem dL_feeds_15 : decode cL_feeds 15 = .ok (.istore 4, 2) := by decide +kernel
theorem dL_feeds_17 : decode cL_feeds 17 = .ok (.iload 4, 2) := by decide +kernel
theorem dL_feeds_19 : decode cL_feeds 19 = .ok (.bipush 20, 2) := by decide +kernel
theorem dL_feeds_21 : decode cL_feeds 21 = .ok (.if_icmp .ge 49, 3) := by decide +kernel
theorem dL_feeds_24 : decode cL_feeds 24 = .ok (.aload_n 3, 1) := by decide +kernel
theorem dL_feeds_25 : decode cL_feeds 25 = .ok (.iload 4, 2) := by decide +kernel
theorem dL_feeds_27 : decode cL_feeds 27 = .ok (.iconst 4, 1) := by decide +kernel
theorem dL_feeds_28 : decode cL_feeds 28 = .ok (.idiv, 1) := by decide +kernel
theorem dL_feeds_29 : decode cL_feeds 29 = .ok (.aload_n 3, 1) := by decide +kernel
theorem dL_feeds_30 : decode cL_feeds 30 = .ok (.iload 4, 2) := by decide +kernel
theorem dL_feeds_32 : decode cL_feeds 32 = .ok (.iconst 4, 1) := by decide +kernel
theorem dL_feeds_33 : decode cL_feeds 33 = .ok (.idiv, 1) := by decide +kernel
theorem dL_feeds_34 : decode cL_feeds 34 = .ok (.iaload, 1) := by decide +kernel
theorem dL_feeds_35 : decode cL_feeds 35 = .ok (.bipush 8, 2) := by decide +kernel
theorem dL_feeds_37 : decode cL_feeds 37 = .ok (.ishl, 1) := by decide +kernel
theorem dL_feeds_38 : decode cL_feeds 38 = .ok (.iload_n 2, 1) := by decide +kernel
theorem dL_feeds_39 : decode cL_feeds 39 = .ok (.iload 4, 2) := by decide +kernel
theorem dL_feeds_41 : decode cL_feeds 41 = .ok (.iadd, 1) := by decide +kernel
theorem dL_feeds_42 : decode cL_feeds 42 = .ok (.aload_n 1, 1) := by decide +kernel
theorem dL_feeds_43 : decode cL_feeds 43 = .ok (.invokevirtual 7, 3) := by decide +kernel
theorem dL_feeds_46 : decode cL_feeds 46 = .ok (.if_icmp .ge 14, 3) := by decide +kernel
theorem dL_feeds_49 : decode cL_feeds 49 = .ok (.aload_n 1, 1) := by decide +kernel
theorem dL_feeds_50 : decode cL_feeds 50 = .ok (.iload_n 2, 1) := by decide +kernel
theorem dL_feeds_51 : decode cL_feeds 51 = .ok (.iload 4, 2) := by decide +kernel
theorem dL_feeds_53 : decode cL_feeds 53 = .ok (.iadd, 1) := by decide +kernel
theorem dL_feeds_54 : decode cL_feeds 54 = .ok (.invokevirtual 13, 3) := by decide +kernel
theorem dL_feeds_57 : decode cL_feeds 57 = .ok (.goto 5, 3) := by decide +kernel
theorem dL_feeds_60 : decode cL_feeds 60 = .ok (.bipush 32, 2) := by decide +kernel
theorem dL_feeds_62 : decode cL_feeds 62 = .ok (.ior, 1) := by decide +kernel
theorem dL_feeds_63 : decode cL_feeds 63 = .ok (.iastore, 1) := by decide +kernel
theorem dL_feeds_64 : decode cL_feeds 64 = .ok (.iinc 4 1, 3) := by decide +kernel
theorem dL_feeds_67 : decode cL_feeds 67 = .ok (.goto (-50), 3) := by decide +kernel
theorem dL_feeds_70 : decode cL_feeds 70 = .ok (.aload_n 0, 1) := by decide +kernel
theorem dL_feeds_71 : decode cL_feeds 71 = .ok (.aload_n 3, 1) := by decide +kernel
theorem dL_feeds_72 : decode cL_feeds 72 = .ok (.iconst 0, 1) := by decide +kernel
theorem dL_feeds_73 : decode cL_feeds 73 = .ok (.iaload, 1) := by decide +kernel
theorem dL_feeds_74 : decode cL_feeds 74 = .ok (.aload_n 3, 1) := by decide +kernel
theorem dL_feeds_75 : decode cL_feeds 75 = .ok (.iconst 1, 1) := by decide +kernel
theorem dL_feeds_76 : decode cL_feeds 76 = .ok (.iaload, 1) := by decide +kernel
theorem dL_feeds_77 : decode cL_feeds 77 = .ok (.aload_n 3, 1) := by decide +kernel
theorem dL_feeds_78 : decode cL_feeds 78 = .ok (.iconst 2, 1) := by decide +kernel
theorem dL_feeds_79 : decode cL_feeds 79 = .ok (.iaload, 1) := by decide +kernel
theorem dL_feeds_80 : decode cL_feeds 80 = .ok (.aload_n 3, 1) := by decide +kernel
theorem dL_feeds_81 : decode cL_feeds 81 = .ok (.iconst 3, 1) := by decide +kernel
theorem dL_feeds_82 : decode cL_feeds 82 = .ok (.iaload, 1) := by decide +kernel
theorem dL_feeds_83 : decode cL_feeds 83 = .ok (.aload_n 3, 1) := by decide +kernel
theorem dL_feeds_84 : decode cL_feeds 84 = .ok (.iconst 4, 1) := by decide +kernel
theorem dL_feeds_85 : decode cL_feeds 85 = .ok (.iaload, 1) := by decide +kernel
theorem dL_feeds_86 : decode cL_feeds 86 = .ok (.invokevirtual 17, 3) := by decide +kernel
theorem dL_feeds_89 : decode cL_feeds 89 = .ok (.ifCond .ge 5, 3) := by decide +kernel
theorem dL_feeds_92 : decode cL_feeds 92 = .ok (.iconst 0, 1) := by decide +kernel
theorem dL_feeds_93 : decode cL_feeds 93 = .ok (.ireturn, 1) := by decide +kernel
theorem dL_feeds_94 : decode cL_feeds 94 = .ok (.iinc 2 20, 3) := by decide +kernel
theorem dL_feeds_97 : decode cL_feeds 97 = .ok (.goto (-95), 3) := by decide +kernel
theorem dL_feeds_100 : decode cL_feeds 100 = .ok (.iconst 1, 1) := by decide +kernel
theorem dL_feeds_101 : decode cL_feeds 101 = .ok (.ireturn, 1) := by decide +kernel
theorem dL_tell_0 : decode cL_tell 0 = .ok (.aload_n 0, 1) := by decide +kernel
theorem dL_tell_1 : decode cL_tell 1 = .ok (.aload_n 1, 1) := by decide +kernel
theorem dL_tell_2 : decode cL_tell 2 = .ok (.invokestatic 23, 3) := by decide +kernel
theorem dL_tell_5 : decode cL_tell 5 = .ok (.ifCond .eq 14, 3) := by decide +kernel
theorem dL_tell_8 : decode cL_tell 8 = .ok (.aload_n 0, 1) := by decide +kernel
theorem dL_tell_9 : decode cL_tell 9 = .ok (.aload_n 1, 1) := by decide +kernel
theorem dL_tell_10 : decode cL_tell 10 = .ok (.invokevirtual 7, 3) := by decide +kernel
theorem dL_tell_13 : decode cL_tell 13 = .ok (.invokevirtual 29, 3) := by decide +kernel
theorem dL_tell_16 : decode cL_tell 16 = .ok (.goto 5, 3) := by decide +kernel
theorem dL_tell_19 : decode cL_tell 19 = .ok (.bipush (-9), 2) := by decide +kernel
theorem dL_tell_21 : decode cL_tell 21 = .ok (.ireturn, 1) := by decide +kernel
theorem dL_calls_0 : decode cL_calls 0 = .ok (.iload_n 1, 1) := by decide +kernel
theorem dL_calls_1 : decode cL_calls 1 = .ok (.tableswitch 454 0 33 #[151, 158, 168, 178, 186, 194, 204, 211, 218, 226, 236, 246, 265, 280, 287, 297, 305, 313, 323, 331, 339, 347, 357, 364, 371, 381, 393, 400, 407, 417, 427, 433, 440, 447], 151) := by decide +kernel
theorem dL_calls_152 : decode cL_calls 152 = .ok (.aload_n 0, 1) := by decide +kernel
theorem dL_calls_153 : decode cL_calls 153 = .ok (.iload_n 2, 1) := by decide +kernel
theorem dL_calls_154 : decode cL_calls 154 = .ok (.invokevirtual 33, 3) := by decide +kernel
theorem dL_calls_157 : decode cL_calls 157 = .ok (.i2l, 1) := by decide +kernel
theorem dL_calls_158 : decode cL_calls 158 = .ok (.lreturn, 1) := by decide +kernel
theorem dL_calls_159 : decode cL_calls 159 = .ok (.aload_n 0, 1) := by decide +kernel
theorem dL_calls_160 : decode cL_calls 160 = .ok (.iload_n 2, 1) := by decide +kernel
theorem dL_calls_161 : decode cL_calls 161 = .ok (.iload_n 3, 1) := by decide +kernel
theorem dL_calls_162 : decode cL_calls 162 = .ok (.iload 4, 2) := by decide +kernel
theorem dL_calls_164 : decode cL_calls 164 = .ok (.invokevirtual 36, 3) := by decide +kernel
theorem dL_calls_167 : decode cL_calls 167 = .ok (.i2l, 1) := by decide +kernel
theorem dL_calls_168 : decode cL_calls 168 = .ok (.lreturn, 1) := by decide +kernel
theorem dL_calls_169 : decode cL_calls 169 = .ok (.aload_n 0, 1) := by decide +kernel
theorem dL_calls_170 : decode cL_calls 170 = .ok (.iload_n 2, 1) := by decide +kernel
theorem dL_calls_171 : decode cL_calls 171 = .ok (.iload_n 3, 1) := by decide +kernel
theorem dL_calls_172 : decode cL_calls 172 = .ok (.iload 4, 2) := by decide +kernel
theorem dL_calls_174 : decode cL_calls 174 = .ok (.invokevirtual 40, 3) := by decide +kernel
theorem dL_calls_177 : decode cL_calls 177 = .ok (.i2l, 1) := by decide +kernel
theorem dL_calls_178 : decode cL_calls 178 = .ok (.lreturn, 1) := by decide +kernel
theorem dL_calls_179 : decode cL_calls 179 = .ok (.aload_n 0, 1) := by decide +kernel
theorem dL_calls_180 : decode cL_calls 180 = .ok (.iload_n 2, 1) := by decide +kernel
theorem dL_calls_181 : decode cL_calls 181 = .ok (.iload_n 3, 1) := by decide +kernel
theorem dL_calls_182 : decode cL_calls 182 = .ok (.invokevirtual 43, 3) := by decide +kernel
theorem dL_calls_185 : decode cL_calls 185 = .ok (.i2l, 1) := by decide +kernel
theorem dL_calls_186 : decode cL_calls 186 = .ok (.lreturn, 1) := by decide +kernel
theorem dL_calls_187 : decode cL_calls 187 = .ok (.aload_n 0, 1) := by decide +kernel
theorem dL_calls_188 : decode cL_calls 188 = .ok (.iload_n 2, 1) := by decide +kernel
theorem dL_calls_189 : decode cL_calls 189 = .ok (.iload_n 3, 1) := by decide +kernel
theorem dL_calls_190 : decode cL_calls 190 = .ok (.invokevirtual 47, 3) := by decide +kernel
theorem dL_calls_193 : decode cL_calls 193 = .ok (.i2l, 1) := by decide +kernel
theorem dL_calls_194 : decode cL_calls 194 = .ok (.lreturn, 1) := by decide +kernel
theorem dL_calls_195 : decode cL_calls 195 = .ok (.aload_n 0, 1) := by decide +kernel
theorem dL_calls_196 : decode cL_calls 196 = .ok (.iload_n 2, 1) := by decide +kernel
theorem dL_calls_197 : decode cL_calls 197 = .ok (.iload_n 3, 1) := by decide +kernel
theorem dL_calls_198 : decode cL_calls 198 = .ok (.iload 4, 2) := by decide +kernel
theorem dL_calls_200 : decode cL_calls 200 = .ok (.invokevirtual 50, 3) := by decide +kernel
theorem dL_calls_203 : decode cL_calls 203 = .ok (.i2l, 1) := by decide +kernel
theorem dL_calls_204 : decode cL_calls 204 = .ok (.lreturn, 1) := by decide +kernel
theorem dL_calls_205 : decode cL_calls 205 = .ok (.aload_n 0, 1) := by decide +kernel
theorem dL_calls_206 : decode cL_calls 206 = .ok (.iload_n 2, 1) := by decide +kernel
theorem dL_calls_207 : decode cL_calls 207 = .ok (.invokevirtual 53, 3) := by decide +kernel
theorem dL_calls_210 : decode cL_calls 210 = .ok (.i2l, 1) := by decide +kernel
theorem dL_calls_211 : decode cL_calls 211 = .ok (.lreturn, 1) := by decide +kernel
theorem dL_calls_212 : decode cL_calls 212 = .ok (.aload_n 0, 1) := by decide +kernel
theorem dL_calls_213 : decode cL_calls 213 = .ok (.iload_n 2, 1) := by decide +kernel
theorem dL_calls_214 : decode cL_calls 214 = .ok (.invokevirtual 56, 3) := by decide +kernel
theorem dL_calls_217 : decode cL_calls 217 = .ok (.i2l, 1) := by decide +kernel
theorem dL_calls_218 : decode cL_calls 218 = .ok (.lreturn, 1) := by decide +kernel
theorem dL_calls_219 : decode cL_calls 219 = .ok (.aload_n 0, 1) := by decide +kernel
theorem dL_calls_220 : decode cL_calls 220 = .ok (.iload_n 2, 1) := by decide +kernel
theorem dL_calls_221 : decode cL_calls 221 = .ok (.iload_n 3, 1) := by decide +kernel
theorem dL_calls_222 : decode cL_calls 222 = .ok (.invokevirtual 59, 3) := by decide +kernel
theorem dL_calls_225 : decode cL_calls 225 = .ok (.i2l, 1) := by decide +kernel
theorem dL_calls_226 : decode cL_calls 226 = .ok (.lreturn, 1) := by decide +kernel
theorem dL_calls_227 : decode cL_calls 227 = .ok (.aload_n 0, 1) := by decide +kernel
theorem dL_calls_228 : decode cL_calls 228 = .ok (.iload_n 2, 1) := by decide +kernel
theorem dL_calls_229 : decode cL_calls 229 = .ok (.iload_n 3, 1) := by decide +kernel
theorem dL_calls_230 : decode cL_calls 230 = .ok (.iload 4, 2) := by decide +kernel
theorem dL_calls_232 : decode cL_calls 232 = .ok (.invokevirtual 62, 3) := by decide +kernel
theorem dL_calls_235 : decode cL_calls 235 = .ok (.i2l, 1) := by decide +kernel
theorem dL_calls_236 : decode cL_calls 236 = .ok (.lreturn, 1) := by decide +kernel
theorem dL_calls_237 : decode cL_calls 237 = .ok (.aload_n 0, 1) := by decide +kernel
theorem dL_calls_238 : decode cL_calls 238 = .ok (.iload_n 2, 1) := by decide +kernel
theorem dL_calls_239 : decode cL_calls 239 = .ok (.iload_n 3, 1) := by decide +kernel
theorem dL_calls_240 : decode cL_calls 240 = .ok (.iload 4, 2) := by decide +kernel
theorem dL_calls_242 : decode cL_calls 242 = .ok (.invokevirtual 65, 3) := by decide +kernel
theorem dL_calls_245 : decode cL_calls 245 = .ok (.i2l, 1) := by decide +kernel
theorem dL_calls_246 : decode cL_calls 246 = .ok (.lreturn, 1) := by decide +kernel
theorem dL_calls_247 : decode cL_calls 247 = .ok (.aload_n 0, 1) := by decide +kernel
theorem dL_calls_248 : decode cL_calls 248 = .ok (.iload_n 2, 1) := by decide +kernel
theorem dL_calls_249 : decode cL_calls 249 = .ok (.iload_n 3, 1) := by decide +kernel
theorem dL_calls_250 : decode cL_calls 250 = .ok (.iconst 1, 1) := by decide +kernel
theorem dL_calls_251 : decode cL_calls 251 = .ok (.if_icmp .ne 7, 3) := by decide +kernel
theorem dL_calls_254 : decode cL_calls 254 = .ok (.iconst 1, 1) := by decide +kernel
theorem dL_calls_255 : decode cL_calls 255 = .ok (.goto 4, 3) := by decide +kernel
theorem dL_calls_258 : decode cL_calls 258 = .ok (.iconst 0, 1) := by decide +kernel
theorem dL_calls_259 : decode cL_calls 259 = .ok (.iload 4, 2) := by decide +kernel
theorem dL_calls_261 : decode cL_calls 261 = .ok (.invokevirtual 68, 3) := by decide +kernel
theorem dL_calls_264 : decode cL_calls 264 = .ok (.i2l, 1) := by decide +kernel
theorem dL_calls_265 : decode cL_calls 265 = .ok (.lreturn, 1) := by decide +kernel
theorem dL_calls_266 : decode cL_calls 266 = .ok (.aload_n 0, 1) := by decide +kernel
theorem dL_calls_267 : decode cL_calls 267 = .ok (.iload_n 2, 1) := by decide +kernel
theorem dL_calls_268 : decode cL_calls 268 = .ok (.iload_n 3, 1) := by decide +kernel
theorem dL_calls_269 : decode cL_calls 269 = .ok (.invokevirtual 72, 3) := by decide +kernel
theorem dL_calls_272 : decode cL_calls 272 = .ok (.ifCond .eq 7, 3) := by decide +kernel
theorem dL_calls_275 : decode cL_calls 275 = .ok (.lconst 1, 1) := by decide +kernel
theorem dL_calls_276 : decode cL_calls 276 = .ok (.goto 4, 3) := by decide +kernel
theorem dL_calls_279 : decode cL_calls 279 = .ok (.lconst 0, 1) := by decide +kernel
theorem dL_calls_280 : decode cL_calls 280 = .ok (.lreturn, 1) := by decide +kernel
theorem dL_calls_281 : decode cL_calls 281 = .ok (.aload_n 0, 1) := by decide +kernel
theorem dL_calls_282 : decode cL_calls 282 = .ok (.iload_n 2, 1) := by decide +kernel
theorem dL_calls_283 : decode cL_calls 283 = .ok (.invokevirtual 76, 3) := by decide +kernel
theorem dL_calls_286 : decode cL_calls 286 = .ok (.i2l, 1) := by decide +kernel
theorem dL_calls_287 : decode cL_calls 287 = .ok (.lreturn, 1) := by decide +kernel
theorem dL_calls_288 : decode cL_calls 288 = .ok (.aload_n 0, 1) := by decide +kernel
theorem dL_calls_289 : decode cL_calls 289 = .ok (.iload_n 2, 1) := by decide +kernel
theorem dL_calls_290 : decode cL_calls 290 = .ok (.iload_n 3, 1) := by decide +kernel
theorem dL_calls_291 : decode cL_calls 291 = .ok (.iload 4, 2) := by decide +kernel
theorem dL_calls_293 : decode cL_calls 293 = .ok (.invokevirtual 79, 3) := by decide +kernel
theorem dL_calls_296 : decode cL_calls 296 = .ok (.i2l, 1) := by decide +kernel
theorem dL_calls_297 : decode cL_calls 297 = .ok (.lreturn, 1) := by decide +kernel
theorem dL_calls_298 : decode cL_calls 298 = .ok (.aload_n 0, 1) := by decide +kernel
theorem dL_calls_299 : decode cL_calls 299 = .ok (.iload_n 2, 1) := by decide +kernel
theorem dL_calls_300 : decode cL_calls 300 = .ok (.iload_n 3, 1) := by decide +kernel
theorem dL_calls_301 : decode cL_calls 301 = .ok (.invokevirtual 82, 3) := by decide +kernel
theorem dL_calls_304 : decode cL_calls 304 = .ok (.i2l, 1) := by decide +kernel
theorem dL_calls_305 : decode cL_calls 305 = .ok (.lreturn, 1) := by decide +kernel
theorem dL_calls_306 : decode cL_calls 306 = .ok (.aload_n 0, 1) := by decide +kernel
theorem dL_calls_307 : decode cL_calls 307 = .ok (.iload_n 2, 1) := by decide +kernel
theorem dL_calls_308 : decode cL_calls 308 = .ok (.iload_n 3, 1) := by decide +kernel
theorem dL_calls_309 : decode cL_calls 309 = .ok (.invokevirtual 85, 3) := by decide +kernel
theorem dL_calls_312 : decode cL_calls 312 = .ok (.i2l, 1) := by decide +kernel
theorem dL_calls_313 : decode cL_calls 313 = .ok (.lreturn, 1) := by decide +kernel
theorem dL_calls_314 : decode cL_calls 314 = .ok (.aload_n 0, 1) := by decide +kernel
theorem dL_calls_315 : decode cL_calls 315 = .ok (.iload_n 2, 1) := by decide +kernel
theorem dL_calls_316 : decode cL_calls 316 = .ok (.iload_n 3, 1) := by decide +kernel
theorem dL_calls_317 : decode cL_calls 317 = .ok (.iload 4, 2) := by decide +kernel
theorem dL_calls_319 : decode cL_calls 319 = .ok (.invokevirtual 88, 3) := by decide +kernel
theorem dL_calls_322 : decode cL_calls 322 = .ok (.i2l, 1) := by decide +kernel
theorem dL_calls_323 : decode cL_calls 323 = .ok (.lreturn, 1) := by decide +kernel
theorem dL_calls_324 : decode cL_calls 324 = .ok (.aload_n 0, 1) := by decide +kernel
theorem dL_calls_325 : decode cL_calls 325 = .ok (.iload_n 2, 1) := by decide +kernel
theorem dL_calls_326 : decode cL_calls 326 = .ok (.iload_n 3, 1) := by decide +kernel
theorem dL_calls_327 : decode cL_calls 327 = .ok (.invokevirtual 91, 3) := by decide +kernel
theorem dL_calls_330 : decode cL_calls 330 = .ok (.i2l, 1) := by decide +kernel
theorem dL_calls_331 : decode cL_calls 331 = .ok (.lreturn, 1) := by decide +kernel
theorem dL_calls_332 : decode cL_calls 332 = .ok (.aload_n 0, 1) := by decide +kernel
theorem dL_calls_333 : decode cL_calls 333 = .ok (.iload_n 2, 1) := by decide +kernel
theorem dL_calls_334 : decode cL_calls 334 = .ok (.iload_n 3, 1) := by decide +kernel
theorem dL_calls_335 : decode cL_calls 335 = .ok (.invokevirtual 94, 3) := by decide +kernel
theorem dL_calls_338 : decode cL_calls 338 = .ok (.i2l, 1) := by decide +kernel
theorem dL_calls_339 : decode cL_calls 339 = .ok (.lreturn, 1) := by decide +kernel
theorem dL_calls_340 : decode cL_calls 340 = .ok (.aload_n 0, 1) := by decide +kernel
theorem dL_calls_341 : decode cL_calls 341 = .ok (.iload_n 2, 1) := by decide +kernel
theorem dL_calls_342 : decode cL_calls 342 = .ok (.iload_n 3, 1) := by decide +kernel
theorem dL_calls_343 : decode cL_calls 343 = .ok (.invokevirtual 97, 3) := by decide +kernel
theorem dL_calls_346 : decode cL_calls 346 = .ok (.i2l, 1) := by decide +kernel
theorem dL_calls_347 : decode cL_calls 347 = .ok (.lreturn, 1) := by decide +kernel
theorem dL_calls_348 : decode cL_calls 348 = .ok (.aload_n 0, 1) := by decide +kernel
theorem dL_calls_349 : decode cL_calls 349 = .ok (.iload_n 2, 1) := by decide +kernel
theorem dL_calls_350 : decode cL_calls 350 = .ok (.iload_n 3, 1) := by decide +kernel
theorem dL_calls_351 : decode cL_calls 351 = .ok (.iload 4, 2) := by decide +kernel
theorem dL_calls_353 : decode cL_calls 353 = .ok (.invokevirtual 100, 3) := by decide +kernel
theorem dL_calls_356 : decode cL_calls 356 = .ok (.i2l, 1) := by decide +kernel
theorem dL_calls_357 : decode cL_calls 357 = .ok (.lreturn, 1) := by decide +kernel
theorem dL_calls_358 : decode cL_calls 358 = .ok (.aload_n 0, 1) := by decide +kernel
theorem dL_calls_359 : decode cL_calls 359 = .ok (.iload_n 2, 1) := by decide +kernel
theorem dL_calls_360 : decode cL_calls 360 = .ok (.invokevirtual 103, 3) := by decide +kernel
theorem dL_calls_363 : decode cL_calls 363 = .ok (.i2l, 1) := by decide +kernel
theorem dL_calls_364 : decode cL_calls 364 = .ok (.lreturn, 1) := by decide +kernel
theorem dL_calls_365 : decode cL_calls 365 = .ok (.aload_n 0, 1) := by decide +kernel
theorem dL_calls_366 : decode cL_calls 366 = .ok (.iload_n 2, 1) := by decide +kernel
theorem dL_calls_367 : decode cL_calls 367 = .ok (.invokevirtual 106, 3) := by decide +kernel
theorem dL_calls_370 : decode cL_calls 370 = .ok (.i2l, 1) := by decide +kernel
theorem dL_calls_371 : decode cL_calls 371 = .ok (.lreturn, 1) := by decide +kernel
theorem dL_calls_372 : decode cL_calls 372 = .ok (.aload_n 0, 1) := by decide +kernel
theorem dL_calls_373 : decode cL_calls 373 = .ok (.iload_n 2, 1) := by decide +kernel
theorem dL_calls_374 : decode cL_calls 374 = .ok (.iload_n 3, 1) := by decide +kernel
theorem dL_calls_375 : decode cL_calls 375 = .ok (.iload 4, 2) := by decide +kernel
theorem dL_calls_377 : decode cL_calls 377 = .ok (.invokevirtual 109, 3) := by decide +kernel
theorem dL_calls_380 : decode cL_calls 380 = .ok (.i2l, 1) := by decide +kernel
theorem dL_calls_381 : decode cL_calls 381 = .ok (.lreturn, 1) := by decide +kernel
theorem dL_calls_382 : decode cL_calls 382 = .ok (.aload_n 0, 1) := by decide +kernel
theorem dL_calls_383 : decode cL_calls 383 = .ok (.iload_n 2, 1) := by decide +kernel
theorem dL_calls_384 : decode cL_calls 384 = .ok (.iload_n 3, 1) := by decide +kernel
theorem dL_calls_385 : decode cL_calls 385 = .ok (.iload 4, 2) := by decide +kernel
theorem dL_calls_387 : decode cL_calls 387 = .ok (.iload 5, 2) := by decide +kernel
theorem dL_calls_389 : decode cL_calls 389 = .ok (.invokevirtual 112, 3) := by decide +kernel
theorem dL_calls_392 : decode cL_calls 392 = .ok (.i2l, 1) := by decide +kernel
theorem dL_calls_393 : decode cL_calls 393 = .ok (.lreturn, 1) := by decide +kernel
theorem dL_calls_394 : decode cL_calls 394 = .ok (.aload_n 0, 1) := by decide +kernel
theorem dL_calls_395 : decode cL_calls 395 = .ok (.iload_n 2, 1) := by decide +kernel
theorem dL_calls_396 : decode cL_calls 396 = .ok (.invokevirtual 116, 3) := by decide +kernel
theorem dL_calls_399 : decode cL_calls 399 = .ok (.i2l, 1) := by decide +kernel
theorem dL_calls_400 : decode cL_calls 400 = .ok (.lreturn, 1) := by decide +kernel
theorem dL_calls_401 : decode cL_calls 401 = .ok (.aload_n 0, 1) := by decide +kernel
theorem dL_calls_402 : decode cL_calls 402 = .ok (.iload_n 2, 1) := by decide +kernel
theorem dL_calls_403 : decode cL_calls 403 = .ok (.invokevirtual 119, 3) := by decide +kernel
theorem dL_calls_406 : decode cL_calls 406 = .ok (.i2l, 1) := by decide +kernel
theorem dL_calls_407 : decode cL_calls 407 = .ok (.lreturn, 1) := by decide +kernel
theorem dL_calls_408 : decode cL_calls 408 = .ok (.aload_n 0, 1) := by decide +kernel
theorem dL_calls_409 : decode cL_calls 409 = .ok (.iload_n 2, 1) := by decide +kernel
theorem dL_calls_410 : decode cL_calls 410 = .ok (.iload_n 3, 1) := by decide +kernel
theorem dL_calls_411 : decode cL_calls 411 = .ok (.iload 4, 2) := by decide +kernel
theorem dL_calls_413 : decode cL_calls 413 = .ok (.invokevirtual 122, 3) := by decide +kernel
theorem dL_calls_416 : decode cL_calls 416 = .ok (.i2l, 1) := by decide +kernel
theorem dL_calls_417 : decode cL_calls 417 = .ok (.lreturn, 1) := by decide +kernel
theorem dL_calls_418 : decode cL_calls 418 = .ok (.aload_n 0, 1) := by decide +kernel
theorem dL_calls_419 : decode cL_calls 419 = .ok (.iload_n 2, 1) := by decide +kernel
theorem dL_calls_420 : decode cL_calls 420 = .ok (.iload_n 3, 1) := by decide +kernel
theorem dL_calls_421 : decode cL_calls 421 = .ok (.iload 4, 2) := by decide +kernel
theorem dL_calls_423 : decode cL_calls 423 = .ok (.invokevirtual 125, 3) := by decide +kernel
theorem dL_calls_426 : decode cL_calls 426 = .ok (.i2l, 1) := by decide +kernel
theorem dL_calls_427 : decode cL_calls 427 = .ok (.lreturn, 1) := by decide +kernel
theorem dL_calls_428 : decode cL_calls 428 = .ok (.aload_n 0, 1) := by decide +kernel
theorem dL_calls_429 : decode cL_calls 429 = .ok (.invokevirtual 128, 3) := by decide +kernel
theorem dL_calls_432 : decode cL_calls 432 = .ok (.i2l, 1) := by decide +kernel
theorem dL_calls_433 : decode cL_calls 433 = .ok (.lreturn, 1) := by decide +kernel
theorem dL_calls_434 : decode cL_calls 434 = .ok (.aload_n 0, 1) := by decide +kernel
theorem dL_calls_435 : decode cL_calls 435 = .ok (.iload_n 2, 1) := by decide +kernel
theorem dL_calls_436 : decode cL_calls 436 = .ok (.invokevirtual 131, 3) := by decide +kernel
theorem dL_calls_439 : decode cL_calls 439 = .ok (.i2l, 1) := by decide +kernel
theorem dL_calls_440 : decode cL_calls 440 = .ok (.lreturn, 1) := by decide +kernel
theorem dL_calls_441 : decode cL_calls 441 = .ok (.aload_n 0, 1) := by decide +kernel
theorem dL_calls_442 : decode cL_calls 442 = .ok (.iload_n 2, 1) := by decide +kernel
theorem dL_calls_443 : decode cL_calls 443 = .ok (.invokevirtual 134, 3) := by decide +kernel
theorem dL_calls_446 : decode cL_calls 446 = .ok (.i2l, 1) := by decide +kernel
theorem dL_calls_447 : decode cL_calls 447 = .ok (.lreturn, 1) := by decide +kernel
theorem dL_calls_448 : decode cL_calls 448 = .ok (.aload_n 0, 1) := by decide +kernel
theorem dL_calls_449 : decode cL_calls 449 = .ok (.iload_n 2, 1) := by decide +kernel
theorem dL_calls_450 : decode cL_calls 450 = .ok (.invokevirtual 29, 3) := by decide +kernel
theorem dL_calls_453 : decode cL_calls 453 = .ok (.i2l, 1) := by decide +kernel
theorem dL_calls_454 : decode cL_calls 454 = .ok (.lreturn, 1) := by decide +kernel
theorem dL_calls_455 : decode cL_calls 455 = .ok (.aload_n 0, 1) := by decide +kernel
theorem dL_calls_456 : decode cL_calls 456 = .ok (.iload_n 2, 1) := by decide +kernel
theorem dL_calls_457 : decode cL_calls 457 = .ok (.invokevirtual 137, 3) := by decide +kernel
theorem dL_calls_460 : decode cL_calls 460 = .ok (.i2l, 1) := by decide +kernel
theorem dL_calls_461 : decode cL_calls 461 = .ok (.lreturn, 1) := by decide +kernel
theorem dL_thrown_0 : decode cL_thrown 0 = .ok (.aload_n 0, 1) := by decide +kernel
theorem dL_thrown_1 : decode cL_thrown 1 = .ok (.iload_n 1, 1) := by decide +kernel
theorem dL_thrown_2 : decode cL_thrown 2 = .ok (.iload_n 2, 1) := by decide +kernel
theorem dL_thrown_3 : decode cL_thrown 3 = .ok (.iload_n 3, 1) := by decide +kernel
theorem dL_thrown_4 : decode cL_thrown 4 = .ok (.iload 4, 2) := by decide +kernel
theorem dL_thrown_6 : decode cL_thrown 6 = .ok (.iload 5, 2) := by decide +kernel
theorem dL_thrown_8 : decode cL_thrown 8 = .ok (.invokestatic 140, 3) := by decide +kernel
theorem dL_thrown_11 : decode cL_thrown 11 = .ok (.ldc2_w 144, 3) := by decide +kernel
theorem dL_thrown_14 : decode cL_thrown 14 = .ok (.lcmp, 1) := by decide +kernel
theorem dL_thrown_15 : decode cL_thrown 15 = .ok (.ifCond .ne 7, 3) := by decide +kernel
theorem dL_thrown_18 : decode cL_thrown 18 = .ok (.iconst 0, 1) := by decide +kernel
theorem dL_thrown_19 : decode cL_thrown 19 = .ok (.goto 4, 3) := by decide +kernel
theorem dL_thrown_22 : decode cL_thrown 22 = .ok (.iconst 0, 1) := by decide +kernel
theorem dL_thrown_23 : decode cL_thrown 23 = .ok (.ireturn, 1) := by decide +kernel
theorem dL_thrown_24 : decode cL_thrown 24 = .ok (.astore 6, 2) := by decide +kernel
theorem dL_thrown_26 : decode cL_thrown 26 = .ok (.iconst 1, 1) := by decide +kernel
theorem dL_thrown_27 : decode cL_thrown 27 = .ok (.ireturn, 1) := by decide +kernel
theorem dL_thrown_28 : decode cL_thrown 28 = .ok (.astore 6, 2) := by decide +kernel
theorem dL_thrown_30 : decode cL_thrown 30 = .ok (.iconst 2, 1) := by decide +kernel
theorem dL_thrown_31 : decode cL_thrown 31 = .ok (.ireturn, 1) := by decide +kernel
theorem dL_thrown_32 : decode cL_thrown 32 = .ok (.astore 6, 2) := by decide +kernel
theorem dL_thrown_34 : decode cL_thrown 34 = .ok (.iconst 3, 1) := by decide +kernel
theorem dL_thrown_35 : decode cL_thrown 35 = .ok (.ireturn, 1) := by decide +kernel
theorem dL_cyclic_0 : decode cL_cyclic 0 = .ok (.iload_n 0, 1) := by decide +kernel
theorem dL_cyclic_1 : decode cL_cyclic 1 = .ok (.iload_n 0, 1) := by decide +kernel
theorem dL_cyclic_2 : decode cL_cyclic 2 = .ok (.multianewarray 152 2, 4) := by decide +kernel
theorem dL_cyclic_6 : decode cL_cyclic 6 = .ok (.astore_n 1, 1) := by decide +kernel
theorem dL_cyclic_7 : decode cL_cyclic 7 = .ok (.iconst 0, 1) := by decide +kernel
theorem dL_cyclic_8 : decode cL_cyclic 8 = .ok (.istore_n 2, 1) := by decide +kernel
theorem dL_cyclic_9 : decode cL_cyclic 9 = .ok (.iload_n 2, 1) := by decide +kernel
theorem dL_cyclic_10 : decode cL_cyclic 10 = .ok (.iload_n 0, 1) := by decide +kernel
theorem dL_cyclic_11 : decode cL_cyclic 11 = .ok (.if_icmp .ge 32, 3) := by decide +kernel
theorem dL_cyclic_14 : decode cL_cyclic 14 = .ok (.iconst 0, 1) := by decide +kernel
theorem dL_cyclic_15 : decode cL_cyclic 15 = .ok (.istore_n 3, 1) := by decide +kernel
theorem dL_cyclic_16 : decode cL_cyclic 16 = .ok (.iload_n 3, 1) := by decide +kernel
theorem dL_cyclic_17 : decode cL_cyclic 17 = .ok (.iload_n 0, 1) := by decide +kernel
theorem dL_cyclic_18 : decode cL_cyclic 18 = .ok (.if_icmp .ge 19, 3) := by decide +kernel
theorem dL_cyclic_21 : decode cL_cyclic 21 = .ok (.aload_n 1, 1) := by decide +kernel
theorem dL_cyclic_22 : decode cL_cyclic 22 = .ok (.iload_n 2, 1) := by decide +kernel
theorem dL_cyclic_23 : decode cL_cyclic 23 = .ok (.aaload, 1) := by decide +kernel
theorem dL_cyclic_24 : decode cL_cyclic 24 = .ok (.iload_n 3, 1) := by decide +kernel
theorem dL_cyclic_25 : decode cL_cyclic 25 = .ok (.iload_n 2, 1) := by decide +kernel
theorem dL_cyclic_26 : decode cL_cyclic 26 = .ok (.iload_n 3, 1) := by decide +kernel
theorem dL_cyclic_27 : decode cL_cyclic 27 = .ok (.iadd, 1) := by decide +kernel
theorem dL_cyclic_28 : decode cL_cyclic 28 = .ok (.iload_n 0, 1) := by decide +kernel
theorem dL_cyclic_29 : decode cL_cyclic 29 = .ok (.irem, 1) := by decide +kernel
theorem dL_cyclic_30 : decode cL_cyclic 30 = .ok (.iastore, 1) := by decide +kernel
theorem dL_cyclic_31 : decode cL_cyclic 31 = .ok (.iinc 3 1, 3) := by decide +kernel
theorem dL_cyclic_34 : decode cL_cyclic 34 = .ok (.goto (-18), 3) := by decide +kernel
theorem dL_cyclic_37 : decode cL_cyclic 37 = .ok (.iinc 2 1, 3) := by decide +kernel
theorem dL_cyclic_40 : decode cL_cyclic 40 = .ok (.goto (-31), 3) := by decide +kernel
theorem dL_cyclic_43 : decode cL_cyclic 43 = .ok (.aload_n 1, 1) := by decide +kernel
theorem dL_cyclic_44 : decode cL_cyclic 44 = .ok (.areturn, 1) := by decide +kernel
theorem dL_dihedral_0 : decode cL_dihedral 0 = .ok (.iconst 2, 1) := by decide +kernel
theorem dL_dihedral_1 : decode cL_dihedral 1 = .ok (.iload_n 0, 1) := by decide +kernel
theorem dL_dihedral_2 : decode cL_dihedral 2 = .ok (.imul, 1) := by decide +kernel
theorem dL_dihedral_3 : decode cL_dihedral 3 = .ok (.iconst 2, 1) := by decide +kernel
theorem dL_dihedral_4 : decode cL_dihedral 4 = .ok (.iload_n 0, 1) := by decide +kernel
theorem dL_dihedral_5 : decode cL_dihedral 5 = .ok (.imul, 1) := by decide +kernel
theorem dL_dihedral_6 : decode cL_dihedral 6 = .ok (.multianewarray 152 2, 4) := by decide +kernel
theorem dL_dihedral_10 : decode cL_dihedral 10 = .ok (.astore_n 1, 1) := by decide +kernel
theorem dL_dihedral_11 : decode cL_dihedral 11 = .ok (.iconst 0, 1) := by decide +kernel
theorem dL_dihedral_12 : decode cL_dihedral 12 = .ok (.istore_n 2, 1) := by decide +kernel
theorem dL_dihedral_13 : decode cL_dihedral 13 = .ok (.iload_n 2, 1) := by decide +kernel
theorem dL_dihedral_14 : decode cL_dihedral 14 = .ok (.iconst 2, 1) := by decide +kernel
theorem dL_dihedral_15 : decode cL_dihedral 15 = .ok (.iload_n 0, 1) := by decide +kernel
theorem dL_dihedral_16 : decode cL_dihedral 16 = .ok (.imul, 1) := by decide +kernel
theorem dL_dihedral_17 : decode cL_dihedral 17 = .ok (.if_icmp .ge 86, 3) := by decide +kernel
theorem dL_dihedral_20 : decode cL_dihedral 20 = .ok (.iconst 0, 1) := by decide +kernel
theorem dL_dihedral_21 : decode cL_dihedral 21 = .ok (.istore_n 3, 1) := by decide +kernel
theorem dL_dihedral_22 : decode cL_dihedral 22 = .ok (.iload_n 3, 1) := by decide +kernel
theorem dL_dihedral_23 : decode cL_dihedral 23 = .ok (.iconst 2, 1) := by decide +kernel
theorem dL_dihedral_24 : decode cL_dihedral 24 = .ok (.iload_n 0, 1) := by decide +kernel
theorem dL_dihedral_25 : decode cL_dihedral 25 = .ok (.imul, 1) := by decide +kernel
theorem dL_dihedral_26 : decode cL_dihedral 26 = .ok (.if_icmp .ge 71, 3) := by decide +kernel
theorem dL_dihedral_29 : decode cL_dihedral 29 = .ok (.iload_n 2, 1) := by decide +kernel
theorem dL_dihedral_30 : decode cL_dihedral 30 = .ok (.iload_n 0, 1) := by decide +kernel
theorem dL_dihedral_31 : decode cL_dihedral 31 = .ok (.if_icmp .ge 11, 3) := by decide +kernel
theorem dL_dihedral_34 : decode cL_dihedral 34 = .ok (.iload_n 2, 1) := by decide +kernel
theorem dL_dihedral_35 : decode cL_dihedral 35 = .ok (.iload_n 3, 1) := by decide +kernel
theorem dL_dihedral_36 : decode cL_dihedral 36 = .ok (.iload_n 0, 1) := by decide +kernel
theorem dL_dihedral_37 : decode cL_dihedral 37 = .ok (.irem, 1) := by decide +kernel
theorem dL_dihedral_38 : decode cL_dihedral 38 = .ok (.iadd, 1) := by decide +kernel
theorem dL_dihedral_39 : decode cL_dihedral 39 = .ok (.goto 12, 3) := by decide +kernel
theorem dL_dihedral_42 : decode cL_dihedral 42 = .ok (.iload_n 2, 1) := by decide +kernel
theorem dL_dihedral_43 : decode cL_dihedral 43 = .ok (.iload_n 0, 1) := by decide +kernel
theorem dL_dihedral_44 : decode cL_dihedral 44 = .ok (.isub, 1) := by decide +kernel
theorem dL_dihedral_45 : decode cL_dihedral 45 = .ok (.iload_n 0, 1) := by decide +kernel
theorem dL_dihedral_46 : decode cL_dihedral 46 = .ok (.iadd, 1) := by decide +kernel
theorem dL_dihedral_47 : decode cL_dihedral 47 = .ok (.iload_n 3, 1) := by decide +kernel
theorem dL_dihedral_48 : decode cL_dihedral 48 = .ok (.iload_n 0, 1) := by decide +kernel
theorem dL_dihedral_49 : decode cL_dihedral 49 = .ok (.irem, 1) := by decide +kernel
theorem dL_dihedral_50 : decode cL_dihedral 50 = .ok (.isub, 1) := by decide +kernel
theorem dL_dihedral_51 : decode cL_dihedral 51 = .ok (.istore 4, 2) := by decide +kernel
theorem dL_dihedral_53 : decode cL_dihedral 53 = .ok (.aload_n 1, 1) := by decide +kernel
theorem dL_dihedral_54 : decode cL_dihedral 54 = .ok (.iload_n 2, 1) := by decide +kernel
theorem dL_dihedral_55 : decode cL_dihedral 55 = .ok (.aaload, 1) := by decide +kernel
theorem dL_dihedral_56 : decode cL_dihedral 56 = .ok (.iload_n 3, 1) := by decide +kernel
theorem dL_dihedral_57 : decode cL_dihedral 57 = .ok (.iload 4, 2) := by decide +kernel
theorem dL_dihedral_59 : decode cL_dihedral 59 = .ok (.iload_n 0, 1) := by decide +kernel
theorem dL_dihedral_60 : decode cL_dihedral 60 = .ok (.irem, 1) := by decide +kernel
theorem dL_dihedral_61 : decode cL_dihedral 61 = .ok (.iload_n 2, 1) := by decide +kernel
theorem dL_dihedral_62 : decode cL_dihedral 62 = .ok (.iload_n 0, 1) := by decide +kernel
theorem dL_dihedral_63 : decode cL_dihedral 63 = .ok (.if_icmp .ge 7, 3) := by decide +kernel
theorem dL_dihedral_66 : decode cL_dihedral 66 = .ok (.iconst 1, 1) := by decide +kernel
theorem dL_dihedral_67 : decode cL_dihedral 67 = .ok (.goto 4, 3) := by decide +kernel
theorem dL_dihedral_70 : decode cL_dihedral 70 = .ok (.iconst 0, 1) := by decide +kernel
theorem dL_dihedral_71 : decode cL_dihedral 71 = .ok (.iload_n 3, 1) := by decide +kernel
theorem dL_dihedral_72 : decode cL_dihedral 72 = .ok (.iload_n 0, 1) := by decide +kernel
theorem dL_dihedral_73 : decode cL_dihedral 73 = .ok (.if_icmp .ge 7, 3) := by decide +kernel
theorem dL_dihedral_76 : decode cL_dihedral 76 = .ok (.iconst 1, 1) := by decide +kernel
theorem dL_dihedral_77 : decode cL_dihedral 77 = .ok (.goto 4, 3) := by decide +kernel
theorem dL_dihedral_80 : decode cL_dihedral 80 = .ok (.iconst 0, 1) := by decide +kernel
theorem dL_dihedral_81 : decode cL_dihedral 81 = .ok (.if_icmp .ne 7, 3) := by decide +kernel
theorem dL_dihedral_84 : decode cL_dihedral 84 = .ok (.iconst 0, 1) := by decide +kernel
theorem dL_dihedral_85 : decode cL_dihedral 85 = .ok (.goto 4, 3) := by decide +kernel
theorem dL_dihedral_88 : decode cL_dihedral 88 = .ok (.iload_n 0, 1) := by decide +kernel
theorem dL_dihedral_89 : decode cL_dihedral 89 = .ok (.iadd, 1) := by decide +kernel
theorem dL_dihedral_90 : decode cL_dihedral 90 = .ok (.iastore, 1) := by decide +kernel
theorem dL_dihedral_91 : decode cL_dihedral 91 = .ok (.iinc 3 1, 3) := by decide +kernel
theorem dL_dihedral_94 : decode cL_dihedral 94 = .ok (.goto (-72), 3) := by decide +kernel
theorem dL_dihedral_97 : decode cL_dihedral 97 = .ok (.iinc 2 1, 3) := by decide +kernel
theorem dL_dihedral_100 : decode cL_dihedral 100 = .ok (.goto (-87), 3) := by decide +kernel
theorem dL_dihedral_103 : decode cL_dihedral 103 = .ok (.aload_n 1, 1) := by decide +kernel
theorem dL_dihedral_104 : decode cL_dihedral 104 = .ok (.areturn, 1) := by decide +kernel
theorem dL_quaternion_0 : decode cL_quaternion 0 = .ok (.iconst 4, 1) := by decide +kernel
theorem dL_quaternion_1 : decode cL_quaternion 1 = .ok (.anewarray 154, 3) := by decide +kernel
theorem dL_quaternion_4 : decode cL_quaternion 4 = .ok (.dup, 1) := by decide +kernel
theorem dL_quaternion_5 : decode cL_quaternion 5 = .ok (.iconst 0, 1) := by decide +kernel
theorem dL_quaternion_6 : decode cL_quaternion 6 = .ok (.iconst 4, 1) := by decide +kernel
theorem dL_quaternion_7 : decode cL_quaternion 7 = .ok (.newarray .int, 2) := by decide +kernel
theorem dL_quaternion_9 : decode cL_quaternion 9 = .ok (.dup, 1) := by decide +kernel
theorem dL_quaternion_10 : decode cL_quaternion 10 = .ok (.iconst 0, 1) := by decide +kernel
theorem dL_quaternion_11 : decode cL_quaternion 11 = .ok (.iconst 0, 1) := by decide +kernel
theorem dL_quaternion_12 : decode cL_quaternion 12 = .ok (.iastore, 1) := by decide +kernel
theorem dL_quaternion_13 : decode cL_quaternion 13 = .ok (.dup, 1) := by decide +kernel
theorem dL_quaternion_14 : decode cL_quaternion 14 = .ok (.iconst 1, 1) := by decide +kernel
theorem dL_quaternion_15 : decode cL_quaternion 15 = .ok (.iconst 1, 1) := by decide +kernel
theorem dL_quaternion_16 : decode cL_quaternion 16 = .ok (.iastore, 1) := by decide +kernel
theorem dL_quaternion_17 : decode cL_quaternion 17 = .ok (.dup, 1) := by decide +kernel
theorem dL_quaternion_18 : decode cL_quaternion 18 = .ok (.iconst 2, 1) := by decide +kernel
theorem dL_quaternion_19 : decode cL_quaternion 19 = .ok (.iconst 2, 1) := by decide +kernel
theorem dL_quaternion_20 : decode cL_quaternion 20 = .ok (.iastore, 1) := by decide +kernel
theorem dL_quaternion_21 : decode cL_quaternion 21 = .ok (.dup, 1) := by decide +kernel
theorem dL_quaternion_22 : decode cL_quaternion 22 = .ok (.iconst 3, 1) := by decide +kernel
theorem dL_quaternion_23 : decode cL_quaternion 23 = .ok (.iconst 3, 1) := by decide +kernel
theorem dL_quaternion_24 : decode cL_quaternion 24 = .ok (.iastore, 1) := by decide +kernel
theorem dL_quaternion_25 : decode cL_quaternion 25 = .ok (.aastore, 1) := by decide +kernel
theorem dL_quaternion_26 : decode cL_quaternion 26 = .ok (.dup, 1) := by decide +kernel
theorem dL_quaternion_27 : decode cL_quaternion 27 = .ok (.iconst 1, 1) := by decide +kernel
theorem dL_quaternion_28 : decode cL_quaternion 28 = .ok (.iconst 4, 1) := by decide +kernel
theorem dL_quaternion_29 : decode cL_quaternion 29 = .ok (.newarray .int, 2) := by decide +kernel
theorem dL_quaternion_31 : decode cL_quaternion 31 = .ok (.dup, 1) := by decide +kernel
theorem dL_quaternion_32 : decode cL_quaternion 32 = .ok (.iconst 0, 1) := by decide +kernel
theorem dL_quaternion_33 : decode cL_quaternion 33 = .ok (.iconst 1, 1) := by decide +kernel
theorem dL_quaternion_34 : decode cL_quaternion 34 = .ok (.iastore, 1) := by decide +kernel
theorem dL_quaternion_35 : decode cL_quaternion 35 = .ok (.dup, 1) := by decide +kernel
theorem dL_quaternion_36 : decode cL_quaternion 36 = .ok (.iconst 1, 1) := by decide +kernel
theorem dL_quaternion_37 : decode cL_quaternion 37 = .ok (.iconst 4, 1) := by decide +kernel
theorem dL_quaternion_38 : decode cL_quaternion 38 = .ok (.iastore, 1) := by decide +kernel
theorem dL_quaternion_39 : decode cL_quaternion 39 = .ok (.dup, 1) := by decide +kernel
theorem dL_quaternion_40 : decode cL_quaternion 40 = .ok (.iconst 2, 1) := by decide +kernel
theorem dL_quaternion_41 : decode cL_quaternion 41 = .ok (.iconst 3, 1) := by decide +kernel
theorem dL_quaternion_42 : decode cL_quaternion 42 = .ok (.iastore, 1) := by decide +kernel
theorem dL_quaternion_43 : decode cL_quaternion 43 = .ok (.dup, 1) := by decide +kernel
theorem dL_quaternion_44 : decode cL_quaternion 44 = .ok (.iconst 3, 1) := by decide +kernel
theorem dL_quaternion_45 : decode cL_quaternion 45 = .ok (.bipush 6, 2) := by decide +kernel
theorem dL_quaternion_47 : decode cL_quaternion 47 = .ok (.iastore, 1) := by decide +kernel
theorem dL_quaternion_48 : decode cL_quaternion 48 = .ok (.aastore, 1) := by decide +kernel
theorem dL_quaternion_49 : decode cL_quaternion 49 = .ok (.dup, 1) := by decide +kernel
theorem dL_quaternion_50 : decode cL_quaternion 50 = .ok (.iconst 2, 1) := by decide +kernel
theorem dL_quaternion_51 : decode cL_quaternion 51 = .ok (.iconst 4, 1) := by decide +kernel
theorem dL_quaternion_52 : decode cL_quaternion 52 = .ok (.newarray .int, 2) := by decide +kernel
theorem dL_quaternion_54 : decode cL_quaternion 54 = .ok (.dup, 1) := by decide +kernel
theorem dL_quaternion_55 : decode cL_quaternion 55 = .ok (.iconst 0, 1) := by decide +kernel
theorem dL_quaternion_56 : decode cL_quaternion 56 = .ok (.iconst 2, 1) := by decide +kernel
theorem dL_quaternion_57 : decode cL_quaternion 57 = .ok (.iastore, 1) := by decide +kernel
theorem dL_quaternion_58 : decode cL_quaternion 58 = .ok (.dup, 1) := by decide +kernel
theorem dL_quaternion_59 : decode cL_quaternion 59 = .ok (.iconst 1, 1) := by decide +kernel
theorem dL_quaternion_60 : decode cL_quaternion 60 = .ok (.bipush 7, 2) := by decide +kernel
theorem dL_quaternion_62 : decode cL_quaternion 62 = .ok (.iastore, 1) := by decide +kernel
theorem dL_quaternion_63 : decode cL_quaternion 63 = .ok (.dup, 1) := by decide +kernel
theorem dL_quaternion_64 : decode cL_quaternion 64 = .ok (.iconst 2, 1) := by decide +kernel
theorem dL_quaternion_65 : decode cL_quaternion 65 = .ok (.iconst 4, 1) := by decide +kernel
theorem dL_quaternion_66 : decode cL_quaternion 66 = .ok (.iastore, 1) := by decide +kernel
theorem dL_quaternion_67 : decode cL_quaternion 67 = .ok (.dup, 1) := by decide +kernel
theorem dL_quaternion_68 : decode cL_quaternion 68 = .ok (.iconst 3, 1) := by decide +kernel
theorem dL_quaternion_69 : decode cL_quaternion 69 = .ok (.iconst 1, 1) := by decide +kernel
theorem dL_quaternion_70 : decode cL_quaternion 70 = .ok (.iastore, 1) := by decide +kernel
theorem dL_quaternion_71 : decode cL_quaternion 71 = .ok (.aastore, 1) := by decide +kernel
theorem dL_quaternion_72 : decode cL_quaternion 72 = .ok (.dup, 1) := by decide +kernel
theorem dL_quaternion_73 : decode cL_quaternion 73 = .ok (.iconst 3, 1) := by decide +kernel
theorem dL_quaternion_74 : decode cL_quaternion 74 = .ok (.iconst 4, 1) := by decide +kernel
theorem dL_quaternion_75 : decode cL_quaternion 75 = .ok (.newarray .int, 2) := by decide +kernel
theorem dL_quaternion_77 : decode cL_quaternion 77 = .ok (.dup, 1) := by decide +kernel
theorem dL_quaternion_78 : decode cL_quaternion 78 = .ok (.iconst 0, 1) := by decide +kernel
theorem dL_quaternion_79 : decode cL_quaternion 79 = .ok (.iconst 3, 1) := by decide +kernel
theorem dL_quaternion_80 : decode cL_quaternion 80 = .ok (.iastore, 1) := by decide +kernel
theorem dL_quaternion_81 : decode cL_quaternion 81 = .ok (.dup, 1) := by decide +kernel
theorem dL_quaternion_82 : decode cL_quaternion 82 = .ok (.iconst 1, 1) := by decide +kernel
theorem dL_quaternion_83 : decode cL_quaternion 83 = .ok (.iconst 2, 1) := by decide +kernel
theorem dL_quaternion_84 : decode cL_quaternion 84 = .ok (.iastore, 1) := by decide +kernel
theorem dL_quaternion_85 : decode cL_quaternion 85 = .ok (.dup, 1) := by decide +kernel
theorem dL_quaternion_86 : decode cL_quaternion 86 = .ok (.iconst 2, 1) := by decide +kernel
theorem dL_quaternion_87 : decode cL_quaternion 87 = .ok (.iconst 5, 1) := by decide +kernel
theorem dL_quaternion_88 : decode cL_quaternion 88 = .ok (.iastore, 1) := by decide +kernel
theorem dL_quaternion_89 : decode cL_quaternion 89 = .ok (.dup, 1) := by decide +kernel
theorem dL_quaternion_90 : decode cL_quaternion 90 = .ok (.iconst 3, 1) := by decide +kernel
theorem dL_quaternion_91 : decode cL_quaternion 91 = .ok (.iconst 4, 1) := by decide +kernel
theorem dL_quaternion_92 : decode cL_quaternion 92 = .ok (.iastore, 1) := by decide +kernel
theorem dL_quaternion_93 : decode cL_quaternion 93 = .ok (.aastore, 1) := by decide +kernel
theorem dL_quaternion_94 : decode cL_quaternion 94 = .ok (.astore_n 0, 1) := by decide +kernel
theorem dL_quaternion_95 : decode cL_quaternion 95 = .ok (.bipush 8, 2) := by decide +kernel
theorem dL_quaternion_97 : decode cL_quaternion 97 = .ok (.bipush 8, 2) := by decide +kernel
theorem dL_quaternion_99 : decode cL_quaternion 99 = .ok (.multianewarray 152 2, 4) := by decide +kernel
theorem dL_quaternion_103 : decode cL_quaternion 103 = .ok (.astore_n 1, 1) := by decide +kernel
theorem dL_quaternion_104 : decode cL_quaternion 104 = .ok (.iconst 0, 1) := by decide +kernel
theorem dL_quaternion_105 : decode cL_quaternion 105 = .ok (.istore_n 2, 1) := by decide +kernel
theorem dL_quaternion_106 : decode cL_quaternion 106 = .ok (.iload_n 2, 1) := by decide +kernel
theorem dL_quaternion_107 : decode cL_quaternion 107 = .ok (.bipush 8, 2) := by decide +kernel
theorem dL_quaternion_109 : decode cL_quaternion 109 = .ok (.if_icmp .ge 43, 3) := by decide +kernel
theorem dL_quaternion_112 : decode cL_quaternion 112 = .ok (.iconst 0, 1) := by decide +kernel
theorem dL_quaternion_113 : decode cL_quaternion 113 = .ok (.istore_n 3, 1) := by decide +kernel
theorem dL_quaternion_114 : decode cL_quaternion 114 = .ok (.iload_n 3, 1) := by decide +kernel
theorem dL_quaternion_115 : decode cL_quaternion 115 = .ok (.bipush 8, 2) := by decide +kernel
theorem dL_quaternion_117 : decode cL_quaternion 117 = .ok (.if_icmp .ge 29, 3) := by decide +kernel
theorem dL_quaternion_120 : decode cL_quaternion 120 = .ok (.aload_n 1, 1) := by decide +kernel
theorem dL_quaternion_121 : decode cL_quaternion 121 = .ok (.iload_n 2, 1) := by decide +kernel
theorem dL_quaternion_122 : decode cL_quaternion 122 = .ok (.aaload, 1) := by decide +kernel
theorem dL_quaternion_123 : decode cL_quaternion 123 = .ok (.iload_n 3, 1) := by decide +kernel
theorem dL_quaternion_124 : decode cL_quaternion 124 = .ok (.aload_n 0, 1) := by decide +kernel
theorem dL_quaternion_125 : decode cL_quaternion 125 = .ok (.iload_n 2, 1) := by decide +kernel
theorem dL_quaternion_126 : decode cL_quaternion 126 = .ok (.iconst 4, 1) := by decide +kernel
theorem dL_quaternion_127 : decode cL_quaternion 127 = .ok (.irem, 1) := by decide +kernel
theorem dL_quaternion_128 : decode cL_quaternion 128 = .ok (.aaload, 1) := by decide +kernel
theorem dL_quaternion_129 : decode cL_quaternion 129 = .ok (.iload_n 3, 1) := by decide +kernel
theorem dL_quaternion_130 : decode cL_quaternion 130 = .ok (.iconst 4, 1) := by decide +kernel
theorem dL_quaternion_131 : decode cL_quaternion 131 = .ok (.irem, 1) := by decide +kernel
theorem dL_quaternion_132 : decode cL_quaternion 132 = .ok (.iaload, 1) := by decide +kernel
theorem dL_quaternion_133 : decode cL_quaternion 133 = .ok (.iload_n 2, 1) := by decide +kernel
theorem dL_quaternion_134 : decode cL_quaternion 134 = .ok (.iload_n 3, 1) := by decide +kernel
theorem dL_quaternion_135 : decode cL_quaternion 135 = .ok (.ixor, 1) := by decide +kernel
theorem dL_quaternion_136 : decode cL_quaternion 136 = .ok (.iconst 4, 1) := by decide +kernel
theorem dL_quaternion_137 : decode cL_quaternion 137 = .ok (.iand, 1) := by decide +kernel
theorem dL_quaternion_138 : decode cL_quaternion 138 = .ok (.ixor, 1) := by decide +kernel
theorem dL_quaternion_139 : decode cL_quaternion 139 = .ok (.iastore, 1) := by decide +kernel
theorem dL_quaternion_140 : decode cL_quaternion 140 = .ok (.iinc 3 1, 3) := by decide +kernel
theorem dL_quaternion_143 : decode cL_quaternion 143 = .ok (.goto (-29), 3) := by decide +kernel
theorem dL_quaternion_146 : decode cL_quaternion 146 = .ok (.iinc 2 1, 3) := by decide +kernel
theorem dL_quaternion_149 : decode cL_quaternion 149 = .ok (.goto (-43), 3) := by decide +kernel
theorem dL_quaternion_152 : decode cL_quaternion 152 = .ok (.aload_n 1, 1) := by decide +kernel
theorem dL_quaternion_153 : decode cL_quaternion 153 = .ok (.areturn, 1) := by decide +kernel
theorem dL_product_0 : decode cL_product 0 = .ok (.aload_n 1, 1) := by decide +kernel
theorem dL_product_1 : decode cL_product 1 = .ok (.arraylength, 1) := by decide +kernel
theorem dL_product_2 : decode cL_product 2 = .ok (.istore_n 2, 1) := by decide +kernel
theorem dL_product_3 : decode cL_product 3 = .ok (.aload_n 0, 1) := by decide +kernel
theorem dL_product_4 : decode cL_product 4 = .ok (.arraylength, 1) := by decide +kernel
theorem dL_product_5 : decode cL_product 5 = .ok (.iload_n 2, 1) := by decide +kernel
theorem dL_product_6 : decode cL_product 6 = .ok (.imul, 1) := by decide +kernel
theorem dL_product_7 : decode cL_product 7 = .ok (.aload_n 0, 1) := by decide +kernel
theorem dL_product_8 : decode cL_product 8 = .ok (.arraylength, 1) := by decide +kernel
theorem dL_product_9 : decode cL_product 9 = .ok (.iload_n 2, 1) := by decide +kernel
theorem dL_product_10 : decode cL_product 10 = .ok (.imul, 1) := by decide +kernel
theorem dL_product_11 : decode cL_product 11 = .ok (.multianewarray 152 2, 4) := by decide +kernel
theorem dL_product_15 : decode cL_product 15 = .ok (.astore_n 3, 1) := by decide +kernel
theorem dL_product_16 : decode cL_product 16 = .ok (.iconst 0, 1) := by decide +kernel
theorem dL_product_17 : decode cL_product 17 = .ok (.istore 4, 2) := by decide +kernel
theorem dL_product_19 : decode cL_product 19 = .ok (.iload 4, 2) := by decide +kernel
theorem dL_product_21 : decode cL_product 21 = .ok (.aload_n 3, 1) := by decide +kernel
theorem dL_product_22 : decode cL_product 22 = .ok (.arraylength, 1) := by decide +kernel
theorem dL_product_23 : decode cL_product 23 = .ok (.if_icmp .ge 57, 3) := by decide +kernel
theorem dL_product_26 : decode cL_product 26 = .ok (.iconst 0, 1) := by decide +kernel
theorem dL_product_27 : decode cL_product 27 = .ok (.istore 5, 2) := by decide +kernel
theorem dL_product_29 : decode cL_product 29 = .ok (.iload 5, 2) := by decide +kernel
theorem dL_product_31 : decode cL_product 31 = .ok (.aload_n 3, 1) := by decide +kernel
theorem dL_product_32 : decode cL_product 32 = .ok (.arraylength, 1) := by decide +kernel
theorem dL_product_33 : decode cL_product 33 = .ok (.if_icmp .ge 41, 3) := by decide +kernel
theorem dL_product_36 : decode cL_product 36 = .ok (.aload_n 3, 1) := by decide +kernel
theorem dL_product_37 : decode cL_product 37 = .ok (.iload 4, 2) := by decide +kernel
theorem dL_product_39 : decode cL_product 39 = .ok (.aaload, 1) := by decide +kernel
theorem dL_product_40 : decode cL_product 40 = .ok (.iload 5, 2) := by decide +kernel
theorem dL_product_42 : decode cL_product 42 = .ok (.aload_n 0, 1) := by decide +kernel
theorem dL_product_43 : decode cL_product 43 = .ok (.iload 4, 2) := by decide +kernel
theorem dL_product_45 : decode cL_product 45 = .ok (.iload_n 2, 1) := by decide +kernel
theorem dL_product_46 : decode cL_product 46 = .ok (.idiv, 1) := by decide +kernel
theorem dL_product_47 : decode cL_product 47 = .ok (.aaload, 1) := by decide +kernel
theorem dL_product_48 : decode cL_product 48 = .ok (.iload 5, 2) := by decide +kernel
theorem dL_product_50 : decode cL_product 50 = .ok (.iload_n 2, 1) := by decide +kernel
theorem dL_product_51 : decode cL_product 51 = .ok (.idiv, 1) := by decide +kernel
theorem dL_product_52 : decode cL_product 52 = .ok (.iaload, 1) := by decide +kernel
theorem dL_product_53 : decode cL_product 53 = .ok (.iload_n 2, 1) := by decide +kernel
theorem dL_product_54 : decode cL_product 54 = .ok (.imul, 1) := by decide +kernel
theorem dL_product_55 : decode cL_product 55 = .ok (.aload_n 1, 1) := by decide +kernel
theorem dL_product_56 : decode cL_product 56 = .ok (.iload 4, 2) := by decide +kernel
theorem dL_product_58 : decode cL_product 58 = .ok (.iload_n 2, 1) := by decide +kernel
theorem dL_product_59 : decode cL_product 59 = .ok (.irem, 1) := by decide +kernel
theorem dL_product_60 : decode cL_product 60 = .ok (.aaload, 1) := by decide +kernel
theorem dL_product_61 : decode cL_product 61 = .ok (.iload 5, 2) := by decide +kernel
theorem dL_product_63 : decode cL_product 63 = .ok (.iload_n 2, 1) := by decide +kernel
theorem dL_product_64 : decode cL_product 64 = .ok (.irem, 1) := by decide +kernel
theorem dL_product_65 : decode cL_product 65 = .ok (.iaload, 1) := by decide +kernel
theorem dL_product_66 : decode cL_product 66 = .ok (.iadd, 1) := by decide +kernel
theorem dL_product_67 : decode cL_product 67 = .ok (.iastore, 1) := by decide +kernel
theorem dL_product_68 : decode cL_product 68 = .ok (.iinc 5 1, 3) := by decide +kernel
theorem dL_product_71 : decode cL_product 71 = .ok (.goto (-42), 3) := by decide +kernel
theorem dL_product_74 : decode cL_product 74 = .ok (.iinc 4 1, 3) := by decide +kernel
theorem dL_product_77 : decode cL_product 77 = .ok (.goto (-58), 3) := by decide +kernel
theorem dL_product_80 : decode cL_product 80 = .ok (.aload_n 3, 1) := by decide +kernel
theorem dL_product_81 : decode cL_product 81 = .ok (.areturn, 1) := by decide +kernel
theorem dL_inverse_0 : decode cL_inverse 0 = .ok (.iconst 0, 1) := by decide +kernel
theorem dL_inverse_1 : decode cL_inverse 1 = .ok (.istore_n 2, 1) := by decide +kernel
theorem dL_inverse_2 : decode cL_inverse 2 = .ok (.aload_n 0, 1) := by decide +kernel
theorem dL_inverse_3 : decode cL_inverse 3 = .ok (.iload_n 1, 1) := by decide +kernel
theorem dL_inverse_4 : decode cL_inverse 4 = .ok (.aaload, 1) := by decide +kernel
theorem dL_inverse_5 : decode cL_inverse 5 = .ok (.iload_n 2, 1) := by decide +kernel
theorem dL_inverse_6 : decode cL_inverse 6 = .ok (.iaload, 1) := by decide +kernel
theorem dL_inverse_7 : decode cL_inverse 7 = .ok (.ifCond .eq 9, 3) := by decide +kernel
theorem dL_inverse_10 : decode cL_inverse 10 = .ok (.iinc 2 1, 3) := by decide +kernel
theorem dL_inverse_13 : decode cL_inverse 13 = .ok (.goto (-11), 3) := by decide +kernel
theorem dL_inverse_16 : decode cL_inverse 16 = .ok (.iload_n 2, 1) := by decide +kernel
theorem dL_inverse_17 : decode cL_inverse 17 = .ok (.ireturn, 1) := by decide +kernel
theorem dL_isAbelian_0 : decode cL_isAbelian 0 = .ok (.iconst 1, 1) := by decide +kernel
theorem dL_isAbelian_1 : decode cL_isAbelian 1 = .ok (.istore_n 1, 1) := by decide +kernel
theorem dL_isAbelian_2 : decode cL_isAbelian 2 = .ok (.iconst 0, 1) := by decide +kernel
theorem dL_isAbelian_3 : decode cL_isAbelian 3 = .ok (.istore_n 2, 1) := by decide +kernel
theorem dL_isAbelian_4 : decode cL_isAbelian 4 = .ok (.iload_n 2, 1) := by decide +kernel
theorem dL_isAbelian_5 : decode cL_isAbelian 5 = .ok (.aload_n 0, 1) := by decide +kernel
theorem dL_isAbelian_6 : decode cL_isAbelian 6 = .ok (.arraylength, 1) := by decide +kernel
theorem dL_isAbelian_7 : decode cL_isAbelian 7 = .ok (.if_icmp .ge 43, 3) := by decide +kernel
theorem dL_isAbelian_10 : decode cL_isAbelian 10 = .ok (.iconst 0, 1) := by decide +kernel
theorem dL_isAbelian_11 : decode cL_isAbelian 11 = .ok (.istore_n 3, 1) := by decide +kernel
theorem dL_isAbelian_12 : decode cL_isAbelian 12 = .ok (.iload_n 3, 1) := by decide +kernel
theorem dL_isAbelian_13 : decode cL_isAbelian 13 = .ok (.iload_n 2, 1) := by decide +kernel
theorem dL_isAbelian_14 : decode cL_isAbelian 14 = .ok (.if_icmp .ge 30, 3) := by decide +kernel
theorem dL_isAbelian_17 : decode cL_isAbelian 17 = .ok (.iload_n 1, 1) := by decide +kernel
theorem dL_isAbelian_18 : decode cL_isAbelian 18 = .ok (.aload_n 0, 1) := by decide +kernel
theorem dL_isAbelian_19 : decode cL_isAbelian 19 = .ok (.iload_n 2, 1) := by decide +kernel
theorem dL_isAbelian_20 : decode cL_isAbelian 20 = .ok (.aaload, 1) := by decide +kernel
theorem dL_isAbelian_21 : decode cL_isAbelian 21 = .ok (.iload_n 3, 1) := by decide +kernel
theorem dL_isAbelian_22 : decode cL_isAbelian 22 = .ok (.iaload, 1) := by decide +kernel
theorem dL_isAbelian_23 : decode cL_isAbelian 23 = .ok (.aload_n 0, 1) := by decide +kernel
theorem dL_isAbelian_24 : decode cL_isAbelian 24 = .ok (.iload_n 3, 1) := by decide +kernel
theorem dL_isAbelian_25 : decode cL_isAbelian 25 = .ok (.aaload, 1) := by decide +kernel
theorem dL_isAbelian_26 : decode cL_isAbelian 26 = .ok (.iload_n 2, 1) := by decide +kernel
theorem dL_isAbelian_27 : decode cL_isAbelian 27 = .ok (.iaload, 1) := by decide +kernel
theorem dL_isAbelian_28 : decode cL_isAbelian 28 = .ok (.if_icmp .ne 7, 3) := by decide +kernel
theorem dL_isAbelian_31 : decode cL_isAbelian 31 = .ok (.iconst 1, 1) := by decide +kernel
theorem dL_isAbelian_32 : decode cL_isAbelian 32 = .ok (.goto 4, 3) := by decide +kernel
theorem dL_isAbelian_35 : decode cL_isAbelian 35 = .ok (.iconst 0, 1) := by decide +kernel
theorem dL_isAbelian_36 : decode cL_isAbelian 36 = .ok (.iand, 1) := by decide +kernel
theorem dL_isAbelian_37 : decode cL_isAbelian 37 = .ok (.istore_n 1, 1) := by decide +kernel
theorem dL_isAbelian_38 : decode cL_isAbelian 38 = .ok (.iinc 3 1, 3) := by decide +kernel
theorem dL_isAbelian_41 : decode cL_isAbelian 41 = .ok (.goto (-29), 3) := by decide +kernel
theorem dL_isAbelian_44 : decode cL_isAbelian 44 = .ok (.iinc 2 1, 3) := by decide +kernel
theorem dL_isAbelian_47 : decode cL_isAbelian 47 = .ok (.goto (-43), 3) := by decide +kernel
theorem dL_isAbelian_50 : decode cL_isAbelian 50 = .ok (.iload_n 1, 1) := by decide +kernel
theorem dL_isAbelian_51 : decode cL_isAbelian 51 = .ok (.ireturn, 1) := by decide +kernel
theorem dL_order_0 : decode cL_order 0 = .ok (.iconst 1, 1) := by decide +kernel
theorem dL_order_1 : decode cL_order 1 = .ok (.istore_n 2, 1) := by decide +kernel
theorem dL_order_2 : decode cL_order 2 = .ok (.iload_n 1, 1) := by decide +kernel
theorem dL_order_3 : decode cL_order 3 = .ok (.istore_n 3, 1) := by decide +kernel
theorem dL_order_4 : decode cL_order 4 = .ok (.iload_n 3, 1) := by decide +kernel
theorem dL_order_5 : decode cL_order 5 = .ok (.ifCond .eq 15, 3) := by decide +kernel
theorem dL_order_8 : decode cL_order 8 = .ok (.iinc 2 1, 3) := by decide +kernel
theorem dL_order_11 : decode cL_order 11 = .ok (.aload_n 0, 1) := by decide +kernel
theorem dL_order_12 : decode cL_order 12 = .ok (.iload_n 3, 1) := by decide +kernel
theorem dL_order_13 : decode cL_order 13 = .ok (.aaload, 1) := by decide +kernel
theorem dL_order_14 : decode cL_order 14 = .ok (.iload_n 1, 1) := by decide +kernel
theorem dL_order_15 : decode cL_order 15 = .ok (.iaload, 1) := by decide +kernel
theorem dL_order_16 : decode cL_order 16 = .ok (.istore_n 3, 1) := by decide +kernel
theorem dL_order_17 : decode cL_order 17 = .ok (.goto (-13), 3) := by decide +kernel
theorem dL_order_20 : decode cL_order 20 = .ok (.iload_n 2, 1) := by decide +kernel
theorem dL_order_21 : decode cL_order 21 = .ok (.ireturn, 1) := by decide +kernel
theorem dL_isLike_0 : decode cL_isLike 0 = .ok (.aload_n 0, 1) := by decide +kernel
theorem dL_isLike_1 : decode cL_isLike 1 = .ok (.iconst 0, 1) := by decide +kernel
theorem dL_isLike_2 : decode cL_isLike 2 = .ok (.invokevirtual 33, 3) := by decide +kernel
theorem dL_isLike_5 : decode cL_isLike 5 = .ok (.aload_n 1, 1) := by decide +kernel
theorem dL_isLike_6 : decode cL_isLike 6 = .ok (.getfield 156, 3) := by decide +kernel
theorem dL_isLike_9 : decode cL_isLike 9 = .ok (.if_icmp .ne 38, 3) := by decide +kernel
theorem dL_isLike_12 : decode cL_isLike 12 = .ok (.aload_n 0, 1) := by decide +kernel
theorem dL_isLike_13 : decode cL_isLike 13 = .ok (.iconst 1, 1) := by decide +kernel
theorem dL_isLike_14 : decode cL_isLike 14 = .ok (.invokevirtual 33, 3) := by decide +kernel
theorem dL_isLike_17 : decode cL_isLike 17 = .ok (.aload_n 1, 1) := by decide +kernel
theorem dL_isLike_18 : decode cL_isLike 18 = .ok (.getfield 162, 3) := by decide +kernel
theorem dL_isLike_21 : decode cL_isLike 21 = .ok (.if_icmp .ne 26, 3) := by decide +kernel
theorem dL_isLike_24 : decode cL_isLike 24 = .ok (.aload_n 0, 1) := by decide +kernel
theorem dL_isLike_25 : decode cL_isLike 25 = .ok (.iconst 2, 1) := by decide +kernel
theorem dL_isLike_26 : decode cL_isLike 26 = .ok (.invokevirtual 33, 3) := by decide +kernel
theorem dL_isLike_29 : decode cL_isLike 29 = .ok (.aload_n 1, 1) := by decide +kernel
theorem dL_isLike_30 : decode cL_isLike 30 = .ok (.getfield 165, 3) := by decide +kernel
theorem dL_isLike_33 : decode cL_isLike 33 = .ok (.if_icmp .ne 14, 3) := by decide +kernel
theorem dL_isLike_36 : decode cL_isLike 36 = .ok (.aload_n 0, 1) := by decide +kernel
theorem dL_isLike_37 : decode cL_isLike 37 = .ok (.invokevirtual 168, 3) := by decide +kernel
theorem dL_isLike_40 : decode cL_isLike 40 = .ok (.aload_n 1, 1) := by decide +kernel
theorem dL_isLike_41 : decode cL_isLike 41 = .ok (.invokevirtual 171, 3) := by decide +kernel
theorem dL_isLike_44 : decode cL_isLike 44 = .ok (.if_icmp .eq 5, 3) := by decide +kernel
theorem dL_isLike_47 : decode cL_isLike 47 = .ok (.iconst 0, 1) := by decide +kernel
theorem dL_isLike_48 : decode cL_isLike 48 = .ok (.ireturn, 1) := by decide +kernel
theorem dL_isLike_49 : decode cL_isLike 49 = .ok (.iconst 0, 1) := by decide +kernel
theorem dL_isLike_50 : decode cL_isLike 50 = .ok (.istore_n 2, 1) := by decide +kernel
theorem dL_isLike_51 : decode cL_isLike 51 = .ok (.iload_n 2, 1) := by decide +kernel
theorem dL_isLike_52 : decode cL_isLike 52 = .ok (.aload_n 1, 1) := by decide +kernel
theorem dL_isLike_53 : decode cL_isLike 53 = .ok (.getfield 162, 3) := by decide +kernel
theorem dL_isLike_56 : decode cL_isLike 56 = .ok (.if_icmp .ge 97, 3) := by decide +kernel
theorem dL_isLike_59 : decode cL_isLike 59 = .ok (.aload_n 1, 1) := by decide +kernel
theorem dL_isLike_60 : decode cL_isLike 60 = .ok (.getfield 172, 3) := by decide +kernel
theorem dL_isLike_63 : decode cL_isLike 63 = .ok (.iload_n 2, 1) := by decide +kernel
theorem dL_isLike_64 : decode cL_isLike 64 = .ok (.aaload, 1) := by decide +kernel
theorem dL_isLike_65 : decode cL_isLike 65 = .ok (.astore_n 3, 1) := by decide +kernel
theorem dL_isLike_66 : decode cL_isLike 66 = .ok (.iconst 0, 1) := by decide +kernel
theorem dL_isLike_67 : decode cL_isLike 67 = .ok (.istore 4, 2) := by decide +kernel
theorem dL_isLike_69 : decode cL_isLike 69 = .ok (.iload 4, 2) := by decide +kernel
theorem dL_isLike_71 : decode cL_isLike 71 = .ok (.aload_n 3, 1) := by decide +kernel
theorem dL_isLike_72 : decode cL_isLike 72 = .ok (.getfield 176, 3) := by decide +kernel
theorem dL_isLike_75 : decode cL_isLike 75 = .ok (.arraylength, 1) := by decide +kernel
theorem dL_isLike_76 : decode cL_isLike 76 = .ok (.if_icmp .ge 71, 3) := by decide +kernel
theorem dL_isLike_79 : decode cL_isLike 79 = .ok (.aload_n 0, 1) := by decide +kernel
theorem dL_isLike_80 : decode cL_isLike 80 = .ok (.iload_n 2, 1) := by decide +kernel
theorem dL_isLike_81 : decode cL_isLike 81 = .ok (.iload 4, 2) := by decide +kernel
theorem dL_isLike_83 : decode cL_isLike 83 = .ok (.invokevirtual 47, 3) := by decide +kernel
theorem dL_isLike_86 : decode cL_isLike 86 = .ok (.aload_n 3, 1) := by decide +kernel
theorem dL_isLike_87 : decode cL_isLike 87 = .ok (.getfield 176, 3) := by decide +kernel
theorem dL_isLike_90 : decode cL_isLike 90 = .ok (.iload 4, 2) := by decide +kernel
theorem dL_isLike_92 : decode cL_isLike 92 = .ok (.iaload, 1) := by decide +kernel
theorem dL_isLike_93 : decode cL_isLike 93 = .ok (.if_icmp .eq 5, 3) := by decide +kernel
theorem dL_isLike_96 : decode cL_isLike 96 = .ok (.iconst 0, 1) := by decide +kernel
theorem dL_isLike_97 : decode cL_isLike 97 = .ok (.ireturn, 1) := by decide +kernel
theorem dL_isLike_98 : decode cL_isLike 98 = .ok (.iconst 0, 1) := by decide +kernel
theorem dL_isLike_99 : decode cL_isLike 99 = .ok (.istore 5, 2) := by decide +kernel
theorem dL_isLike_101 : decode cL_isLike 101 = .ok (.iload 5, 2) := by decide +kernel
theorem dL_isLike_103 : decode cL_isLike 103 = .ok (.aload_n 3, 1) := by decide +kernel
theorem dL_isLike_104 : decode cL_isLike 104 = .ok (.getfield 180, 3) := by decide +kernel
theorem dL_isLike_107 : decode cL_isLike 107 = .ok (.arraylength, 1) := by decide +kernel
theorem dL_isLike_108 : decode cL_isLike 108 = .ok (.if_icmp .ge 33, 3) := by decide +kernel
theorem dL_isLike_111 : decode cL_isLike 111 = .ok (.aload_n 0, 1) := by decide +kernel
theorem dL_isLike_112 : decode cL_isLike 112 = .ok (.iload_n 2, 1) := by decide +kernel
theorem dL_isLike_113 : decode cL_isLike 113 = .ok (.iload 5, 2) := by decide +kernel
theorem dL_isLike_115 : decode cL_isLike 115 = .ok (.iload 4, 2) := by decide +kernel
theorem dL_isLike_117 : decode cL_isLike 117 = .ok (.invokevirtual 50, 3) := by decide +kernel
theorem dL_isLike_120 : decode cL_isLike 120 = .ok (.aload_n 3, 1) := by decide +kernel
theorem dL_isLike_121 : decode cL_isLike 121 = .ok (.getfield 180, 3) := by decide +kernel
theorem dL_isLike_124 : decode cL_isLike 124 = .ok (.iload 5, 2) := by decide +kernel
theorem dL_isLike_126 : decode cL_isLike 126 = .ok (.aaload, 1) := by decide +kernel
theorem dL_isLike_127 : decode cL_isLike 127 = .ok (.iload 4, 2) := by decide +kernel
theorem dL_isLike_129 : decode cL_isLike 129 = .ok (.iaload, 1) := by decide +kernel
theorem dL_isLike_130 : decode cL_isLike 130 = .ok (.if_icmp .eq 5, 3) := by decide +kernel
theorem dL_isLike_133 : decode cL_isLike 133 = .ok (.iconst 0, 1) := by decide +kernel
theorem dL_isLike_134 : decode cL_isLike 134 = .ok (.ireturn, 1) := by decide +kernel
theorem dL_isLike_135 : decode cL_isLike 135 = .ok (.iinc 5 1, 3) := by decide +kernel
theorem dL_isLike_138 : decode cL_isLike 138 = .ok (.goto (-37), 3) := by decide +kernel
theorem dL_isLike_141 : decode cL_isLike 141 = .ok (.iinc 4 1, 3) := by decide +kernel
theorem dL_isLike_144 : decode cL_isLike 144 = .ok (.goto (-75), 3) := by decide +kernel
theorem dL_isLike_147 : decode cL_isLike 147 = .ok (.iinc 2 1, 3) := by decide +kernel
theorem dL_isLike_150 : decode cL_isLike 150 = .ok (.goto (-99), 3) := by decide +kernel
theorem dL_isLike_153 : decode cL_isLike 153 = .ok (.iconst 0, 1) := by decide +kernel
theorem dL_isLike_154 : decode cL_isLike 154 = .ok (.istore_n 2, 1) := by decide +kernel
theorem dL_isLike_155 : decode cL_isLike 155 = .ok (.iload_n 2, 1) := by decide +kernel
theorem dL_isLike_156 : decode cL_isLike 156 = .ok (.aload_n 1, 1) := by decide +kernel
theorem dL_isLike_157 : decode cL_isLike 157 = .ok (.getfield 165, 3) := by decide +kernel
theorem dL_isLike_160 : decode cL_isLike 160 = .ok (.if_icmp .ge 97, 3) := by decide +kernel
theorem dL_isLike_163 : decode cL_isLike 163 = .ok (.iconst 0, 1) := by decide +kernel
theorem dL_isLike_164 : decode cL_isLike 164 = .ok (.istore_n 3, 1) := by decide +kernel
theorem dL_isLike_165 : decode cL_isLike 165 = .ok (.iload_n 3, 1) := by decide +kernel
theorem dL_isLike_166 : decode cL_isLike 166 = .ok (.aload_n 1, 1) := by decide +kernel
theorem dL_isLike_167 : decode cL_isLike 167 = .ok (.getfield 183, 3) := by decide +kernel
theorem dL_isLike_170 : decode cL_isLike 170 = .ok (.iload_n 2, 1) := by decide +kernel
theorem dL_isLike_171 : decode cL_isLike 171 = .ok (.aaload, 1) := by decide +kernel
theorem dL_isLike_172 : decode cL_isLike 172 = .ok (.getfield 187, 3) := by decide +kernel
theorem dL_isLike_175 : decode cL_isLike 175 = .ok (.arraylength, 1) := by decide +kernel
theorem dL_isLike_176 : decode cL_isLike 176 = .ok (.if_icmp .ge 31, 3) := by decide +kernel
theorem dL_isLike_179 : decode cL_isLike 179 = .ok (.aload_n 0, 1) := by decide +kernel
theorem dL_isLike_180 : decode cL_isLike 180 = .ok (.iload_n 2, 1) := by decide +kernel
theorem dL_isLike_181 : decode cL_isLike 181 = .ok (.iload_n 3, 1) := by decide +kernel
theorem dL_isLike_182 : decode cL_isLike 182 = .ok (.invokevirtual 91, 3) := by decide +kernel
theorem dL_isLike_185 : decode cL_isLike 185 = .ok (.aload_n 1, 1) := by decide +kernel
theorem dL_isLike_186 : decode cL_isLike 186 = .ok (.getfield 183, 3) := by decide +kernel
theorem dL_isLike_189 : decode cL_isLike 189 = .ok (.iload_n 2, 1) := by decide +kernel
theorem dL_isLike_190 : decode cL_isLike 190 = .ok (.aaload, 1) := by decide +kernel
theorem dL_isLike_191 : decode cL_isLike 191 = .ok (.getfield 187, 3) := by decide +kernel
theorem dL_isLike_194 : decode cL_isLike 194 = .ok (.iload_n 3, 1) := by decide +kernel
theorem dL_isLike_195 : decode cL_isLike 195 = .ok (.iaload, 1) := by decide +kernel
theorem dL_isLike_196 : decode cL_isLike 196 = .ok (.if_icmp .eq 5, 3) := by decide +kernel
theorem dL_isLike_199 : decode cL_isLike 199 = .ok (.iconst 0, 1) := by decide +kernel
theorem dL_isLike_200 : decode cL_isLike 200 = .ok (.ireturn, 1) := by decide +kernel
theorem dL_isLike_201 : decode cL_isLike 201 = .ok (.iinc 3 1, 3) := by decide +kernel
theorem dL_isLike_204 : decode cL_isLike 204 = .ok (.goto (-39), 3) := by decide +kernel
theorem dL_isLike_207 : decode cL_isLike 207 = .ok (.iconst 0, 1) := by decide +kernel
theorem dL_isLike_208 : decode cL_isLike 208 = .ok (.istore_n 3, 1) := by decide +kernel
theorem dL_isLike_209 : decode cL_isLike 209 = .ok (.iload_n 3, 1) := by decide +kernel
theorem dL_isLike_210 : decode cL_isLike 210 = .ok (.aload_n 1, 1) := by decide +kernel
theorem dL_isLike_211 : decode cL_isLike 211 = .ok (.getfield 183, 3) := by decide +kernel
theorem dL_isLike_214 : decode cL_isLike 214 = .ok (.iload_n 2, 1) := by decide +kernel
theorem dL_isLike_215 : decode cL_isLike 215 = .ok (.aaload, 1) := by decide +kernel
theorem dL_isLike_216 : decode cL_isLike 216 = .ok (.getfield 191, 3) := by decide +kernel
theorem dL_isLike_219 : decode cL_isLike 219 = .ok (.arraylength, 1) := by decide +kernel
theorem dL_isLike_220 : decode cL_isLike 220 = .ok (.if_icmp .ge 31, 3) := by decide +kernel
theorem dL_isLike_223 : decode cL_isLike 223 = .ok (.aload_n 0, 1) := by decide +kernel
theorem dL_isLike_224 : decode cL_isLike 224 = .ok (.iload_n 2, 1) := by decide +kernel
theorem dL_isLike_225 : decode cL_isLike 225 = .ok (.iload_n 3, 1) := by decide +kernel
theorem dL_isLike_226 : decode cL_isLike 226 = .ok (.invokevirtual 94, 3) := by decide +kernel
theorem dL_isLike_229 : decode cL_isLike 229 = .ok (.aload_n 1, 1) := by decide +kernel
theorem dL_isLike_230 : decode cL_isLike 230 = .ok (.getfield 183, 3) := by decide +kernel
theorem dL_isLike_233 : decode cL_isLike 233 = .ok (.iload_n 2, 1) := by decide +kernel
theorem dL_isLike_234 : decode cL_isLike 234 = .ok (.aaload, 1) := by decide +kernel
theorem dL_isLike_235 : decode cL_isLike 235 = .ok (.getfield 191, 3) := by decide +kernel
theorem dL_isLike_238 : decode cL_isLike 238 = .ok (.iload_n 3, 1) := by decide +kernel
theorem dL_isLike_239 : decode cL_isLike 239 = .ok (.iaload, 1) := by decide +kernel
theorem dL_isLike_240 : decode cL_isLike 240 = .ok (.if_icmp .eq 5, 3) := by decide +kernel
theorem dL_isLike_243 : decode cL_isLike 243 = .ok (.iconst 0, 1) := by decide +kernel
theorem dL_isLike_244 : decode cL_isLike 244 = .ok (.ireturn, 1) := by decide +kernel
theorem dL_isLike_245 : decode cL_isLike 245 = .ok (.iinc 3 1, 3) := by decide +kernel
theorem dL_isLike_248 : decode cL_isLike 248 = .ok (.goto (-39), 3) := by decide +kernel
theorem dL_isLike_251 : decode cL_isLike 251 = .ok (.iinc 2 1, 3) := by decide +kernel
theorem dL_isLike_254 : decode cL_isLike 254 = .ok (.goto (-99), 3) := by decide +kernel
theorem dL_isLike_257 : decode cL_isLike 257 = .ok (.iconst 0, 1) := by decide +kernel
theorem dL_isLike_258 : decode cL_isLike 258 = .ok (.istore_n 2, 1) := by decide +kernel
theorem dL_isLike_259 : decode cL_isLike 259 = .ok (.iload_n 2, 1) := by decide +kernel
theorem dL_isLike_260 : decode cL_isLike 260 = .ok (.iconst 3, 1) := by decide +kernel
theorem dL_isLike_261 : decode cL_isLike 261 = .ok (.if_icmp .ge 25, 3) := by decide +kernel
theorem dL_isLike_264 : decode cL_isLike 264 = .ok (.aload_n 0, 1) := by decide +kernel
theorem dL_isLike_265 : decode cL_isLike 265 = .ok (.iload_n 2, 1) := by decide +kernel
theorem dL_isLike_266 : decode cL_isLike 266 = .ok (.invokevirtual 103, 3) := by decide +kernel
theorem dL_isLike_269 : decode cL_isLike 269 = .ok (.aload_n 1, 1) := by decide +kernel
theorem dL_isLike_270 : decode cL_isLike 270 = .ok (.getfield 193, 3) := by decide +kernel
theorem dL_isLike_273 : decode cL_isLike 273 = .ok (.iload_n 2, 1) := by decide +kernel
theorem dL_isLike_274 : decode cL_isLike 274 = .ok (.iaload, 1) := by decide +kernel
theorem dL_isLike_275 : decode cL_isLike 275 = .ok (.if_icmp .eq 5, 3) := by decide +kernel
theorem dL_isLike_278 : decode cL_isLike 278 = .ok (.iconst 0, 1) := by decide +kernel
theorem dL_isLike_279 : decode cL_isLike 279 = .ok (.ireturn, 1) := by decide +kernel
theorem dL_isLike_280 : decode cL_isLike 280 = .ok (.iinc 2 1, 3) := by decide +kernel
theorem dL_isLike_283 : decode cL_isLike 283 = .ok (.goto (-24), 3) := by decide +kernel
theorem dL_isLike_286 : decode cL_isLike 286 = .ok (.iconst 1, 1) := by decide +kernel
theorem dL_isLike_287 : decode cL_isLike 287 = .ok (.ireturn, 1) := by decide +kernel
theorem dL_act_0 : decode cL_act 0 = .ok (.aload_n 2, 1) := by decide +kernel
theorem dL_act_1 : decode cL_act 1 = .ok (.iconst 0, 1) := by decide +kernel
theorem dL_act_2 : decode cL_act 2 = .ok (.bipush 9, 2) := by decide +kernel
theorem dL_act_4 : decode cL_act 4 = .ok (.invokevirtual 196, 3) := by decide +kernel
theorem dL_act_7 : decode cL_act 7 = .ok (.istore_n 3, 1) := by decide +kernel
theorem dL_act_8 : decode cL_act 8 = .ok (.aload_n 2, 1) := by decide +kernel
theorem dL_act_9 : decode cL_act 9 = .ok (.iconst 0, 1) := by decide +kernel
theorem dL_act_10 : decode cL_act 10 = .ok (.aload_n 1, 1) := by decide +kernel
theorem dL_act_11 : decode cL_act 11 = .ok (.getfield 162, 3) := by decide +kernel
theorem dL_act_14 : decode cL_act 14 = .ok (.iconst 1, 1) := by decide +kernel
theorem dL_act_15 : decode cL_act 15 = .ok (.isub, 1) := by decide +kernel
theorem dL_act_16 : decode cL_act 16 = .ok (.invokevirtual 196, 3) := by decide +kernel
theorem dL_act_19 : decode cL_act 19 = .ok (.istore 4, 2) := by decide +kernel
theorem dL_act_21 : decode cL_act 21 = .ok (.aload_n 1, 1) := by decide +kernel
theorem dL_act_22 : decode cL_act 22 = .ok (.getfield 172, 3) := by decide +kernel
theorem dL_act_25 : decode cL_act 25 = .ok (.iload 4, 2) := by decide +kernel
theorem dL_act_27 : decode cL_act 27 = .ok (.aaload, 1) := by decide +kernel
theorem dL_act_28 : decode cL_act 28 = .ok (.astore 5, 2) := by decide +kernel
theorem dL_act_30 : decode cL_act 30 = .ok (.iload_n 3, 1) := by decide +kernel
theorem dL_act_31 : decode cL_act 31 = .ok (.iconst 5, 1) := by decide +kernel
theorem dL_act_32 : decode cL_act 32 = .ok (.if_icmp .le 39, 3) := by decide +kernel
theorem dL_act_35 : decode cL_act 35 = .ok (.aload_n 1, 1) := by decide +kernel
theorem dL_act_36 : decode cL_act 36 = .ok (.getfield 165, 3) := by decide +kernel
theorem dL_act_39 : decode cL_act 39 = .ok (.ifCond .le 12, 3) := by decide +kernel
theorem dL_act_42 : decode cL_act 42 = .ok (.aload_n 0, 1) := by decide +kernel
theorem dL_act_43 : decode cL_act 43 = .ok (.aload_n 1, 1) := by decide +kernel
theorem dL_act_44 : decode cL_act 44 = .ok (.aload_n 2, 1) := by decide +kernel
theorem dL_act_45 : decode cL_act 45 = .ok (.invokestatic 201, 3) := by decide +kernel
theorem dL_act_48 : decode cL_act 48 = .ok (.goto 22, 3) := by decide +kernel
theorem dL_act_51 : decode cL_act 51 = .ok (.aload_n 0, 1) := by decide +kernel
theorem dL_act_52 : decode cL_act 52 = .ok (.bipush 28, 2) := by decide +kernel
theorem dL_act_54 : decode cL_act 54 = .ok (.iconst 0, 1) := by decide +kernel
theorem dL_act_55 : decode cL_act 55 = .ok (.iconst 0, 1) := by decide +kernel
theorem dL_act_56 : decode cL_act 56 = .ok (.iconst 0, 1) := by decide +kernel
theorem dL_act_57 : decode cL_act 57 = .ok (.iconst 0, 1) := by decide +kernel
theorem dL_act_58 : decode cL_act 58 = .ok (.invokestatic 205, 3) := by decide +kernel
theorem dL_act_61 : decode cL_act 61 = .ok (.iconst 2, 1) := by decide +kernel
theorem dL_act_62 : decode cL_act 62 = .ok (.if_icmp .ne 7, 3) := by decide +kernel
theorem dL_act_65 : decode cL_act 65 = .ok (.iconst 1, 1) := by decide +kernel
theorem dL_act_66 : decode cL_act 66 = .ok (.goto 4, 3) := by decide +kernel
theorem dL_act_69 : decode cL_act 69 = .ok (.iconst 0, 1) := by decide +kernel
theorem dL_act_70 : decode cL_act 70 = .ok (.ireturn, 1) := by decide +kernel
theorem dL_act_71 : decode cL_act 71 = .ok (.iload_n 3, 1) := by decide +kernel
theorem dL_act_72 : decode cL_act 72 = .ok (.iconst 1, 1) := by decide +kernel
theorem dL_act_73 : decode cL_act 73 = .ok (.if_icmp .ne 37, 3) := by decide +kernel
theorem dL_act_76 : decode cL_act 76 = .ok (.aload 5, 2) := by decide +kernel
theorem dL_act_78 : decode cL_act 78 = .ok (.getfield 209, 3) := by decide +kernel
theorem dL_act_81 : decode cL_act 81 = .ok (.aload 5, 2) := by decide +kernel
theorem dL_act_83 : decode cL_act 83 = .ok (.getfield 212, 3) := by decide +kernel
theorem dL_act_86 : decode cL_act 86 = .ok (.if_icmp .eq 24, 3) := by decide +kernel
theorem dL_act_89 : decode cL_act 89 = .ok (.aload_n 0, 1) := by decide +kernel
theorem dL_act_90 : decode cL_act 90 = .ok (.bipush 27, 2) := by decide +kernel
theorem dL_act_92 : decode cL_act 92 = .ok (.iload 4, 2) := by decide +kernel
theorem dL_act_94 : decode cL_act 94 = .ok (.iconst 0, 1) := by decide +kernel
theorem dL_act_95 : decode cL_act 95 = .ok (.iconst 0, 1) := by decide +kernel
theorem dL_act_96 : decode cL_act 96 = .ok (.iconst 0, 1) := by decide +kernel
theorem dL_act_97 : decode cL_act 97 = .ok (.invokestatic 205, 3) := by decide +kernel
theorem dL_act_100 : decode cL_act 100 = .ok (.iconst 3, 1) := by decide +kernel
theorem dL_act_101 : decode cL_act 101 = .ok (.if_icmp .ne 7, 3) := by decide +kernel
theorem dL_act_104 : decode cL_act 104 = .ok (.iconst 1, 1) := by decide +kernel
theorem dL_act_105 : decode cL_act 105 = .ok (.goto 4, 3) := by decide +kernel
theorem dL_act_108 : decode cL_act 108 = .ok (.iconst 0, 1) := by decide +kernel
theorem dL_act_109 : decode cL_act 109 = .ok (.ireturn, 1) := by decide +kernel
theorem dL_act_110 : decode cL_act 110 = .ok (.aload 5, 2) := by decide +kernel
theorem dL_act_112 : decode cL_act 112 = .ok (.invokevirtual 215, 3) := by decide +kernel
theorem dL_act_115 : decode cL_act 115 = .ok (.ifCond .ne 7, 3) := by decide +kernel
theorem dL_act_118 : decode cL_act 118 = .ok (.iconst 1, 1) := by decide +kernel
theorem dL_act_119 : decode cL_act 119 = .ok (.goto 4, 3) := by decide +kernel
theorem dL_act_122 : decode cL_act 122 = .ok (.iconst 0, 1) := by decide +kernel
theorem dL_act_123 : decode cL_act 123 = .ok (.istore 6, 2) := by decide +kernel
theorem dL_act_125 : decode cL_act 125 = .ok (.aload_n 1, 1) := by decide +kernel
theorem dL_act_126 : decode cL_act 126 = .ok (.getfield 193, 3) := by decide +kernel
theorem dL_act_129 : decode cL_act 129 = .ok (.iconst 0, 1) := by decide +kernel
theorem dL_act_130 : decode cL_act 130 = .ok (.dup2, 1) := by decide +kernel
theorem dL_act_131 : decode cL_act 131 = .ok (.iaload, 1) := by decide +kernel
theorem dL_act_132 : decode cL_act 132 = .ok (.iconst 1, 1) := by decide +kernel
theorem dL_act_133 : decode cL_act 133 = .ok (.iadd, 1) := by decide +kernel
theorem dL_act_134 : decode cL_act 134 = .ok (.iastore, 1) := by decide +kernel
theorem dL_act_135 : decode cL_act 135 = .ok (.aload_n 0, 1) := by decide +kernel
theorem dL_act_136 : decode cL_act 136 = .ok (.aload 5, 2) := by decide +kernel
theorem dL_act_138 : decode cL_act 138 = .ok (.iload 4, 2) := by decide +kernel
theorem dL_act_140 : decode cL_act 140 = .ok (.iload_n 3, 1) := by decide +kernel
theorem dL_act_141 : decode cL_act 141 = .ok (.aload_n 2, 1) := by decide +kernel
theorem dL_act_142 : decode cL_act 142 = .ok (.invokestatic 217, 3) := by decide +kernel
theorem dL_act_145 : decode cL_act 145 = .ok (.istore 7, 2) := by decide +kernel
theorem dL_act_147 : decode cL_act 147 = .ok (.aload 5, 2) := by decide +kernel
theorem dL_act_149 : decode cL_act 149 = .ok (.invokevirtual 215, 3) := by decide +kernel
theorem dL_act_152 : decode cL_act 152 = .ok (.ifCond .ne 7, 3) := by decide +kernel
theorem dL_act_155 : decode cL_act 155 = .ok (.iconst 1, 1) := by decide +kernel
theorem dL_act_156 : decode cL_act 156 = .ok (.goto 4, 3) := by decide +kernel
theorem dL_act_159 : decode cL_act 159 = .ok (.iconst 0, 1) := by decide +kernel
theorem dL_act_160 : decode cL_act 160 = .ok (.istore 8, 2) := by decide +kernel
theorem dL_act_162 : decode cL_act 162 = .ok (.aload_n 1, 1) := by decide +kernel
theorem dL_act_163 : decode cL_act 163 = .ok (.getfield 193, 3) := by decide +kernel
theorem dL_act_166 : decode cL_act 166 = .ok (.iconst 1, 1) := by decide +kernel
theorem dL_act_167 : decode cL_act 167 = .ok (.dup2, 1) := by decide +kernel
theorem dL_act_168 : decode cL_act 168 = .ok (.iaload, 1) := by decide +kernel
theorem dL_act_169 : decode cL_act 169 = .ok (.iload 6, 2) := by decide +kernel
theorem dL_act_171 : decode cL_act 171 = .ok (.ifCond .eq 12, 3) := by decide +kernel
theorem dL_act_174 : decode cL_act 174 = .ok (.iload 8, 2) := by decide +kernel
theorem dL_act_176 : decode cL_act 176 = .ok (.ifCond .ne 7, 3) := by decide +kernel
theorem dL_act_179 : decode cL_act 179 = .ok (.iconst 1, 1) := by decide +kernel
theorem dL_act_180 : decode cL_act 180 = .ok (.goto 4, 3) := by decide +kernel
theorem dL_act_183 : decode cL_act 183 = .ok (.iconst 0, 1) := by decide +kernel
theorem dL_act_184 : decode cL_act 184 = .ok (.iadd, 1) := by decide +kernel
theorem dL_act_185 : decode cL_act 185 = .ok (.iastore, 1) := by decide +kernel
theorem dL_act_186 : decode cL_act 186 = .ok (.aload_n 1, 1) := by decide +kernel
theorem dL_act_187 : decode cL_act 187 = .ok (.getfield 193, 3) := by decide +kernel
theorem dL_act_190 : decode cL_act 190 = .ok (.iconst 2, 1) := by decide +kernel
theorem dL_act_191 : decode cL_act 191 = .ok (.dup2, 1) := by decide +kernel
theorem dL_act_192 : decode cL_act 192 = .ok (.iaload, 1) := by decide +kernel
theorem dL_act_193 : decode cL_act 193 = .ok (.iload 6, 2) := by decide +kernel
theorem dL_act_195 : decode cL_act 195 = .ok (.ifCond .ne 12, 3) := by decide +kernel
theorem dL_act_198 : decode cL_act 198 = .ok (.iload 8, 2) := by decide +kernel
theorem dL_act_200 : decode cL_act 200 = .ok (.ifCond .eq 7, 3) := by decide +kernel
theorem dL_act_203 : decode cL_act 203 = .ok (.iconst 1, 1) := by decide +kernel
theorem dL_act_204 : decode cL_act 204 = .ok (.goto 4, 3) := by decide +kernel
theorem dL_act_207 : decode cL_act 207 = .ok (.iconst 0, 1) := by decide +kernel
theorem dL_act_208 : decode cL_act 208 = .ok (.iadd, 1) := by decide +kernel
theorem dL_act_209 : decode cL_act 209 = .ok (.iastore, 1) := by decide +kernel
theorem dL_act_210 : decode cL_act 210 = .ok (.iload 7, 2) := by decide +kernel
theorem dL_act_212 : decode cL_act 212 = .ok (.ireturn, 1) := by decide +kernel
theorem dL_moves_0 : decode cL_moves 0 = .ok (.aload 4, 2) := by decide +kernel
theorem dL_moves_2 : decode cL_moves 2 = .ok (.iconst 0, 1) := by decide +kernel
theorem dL_moves_3 : decode cL_moves 3 = .ok (.aload_n 1, 1) := by decide +kernel
theorem dL_moves_4 : decode cL_moves 4 = .ok (.getfield 176, 3) := by decide +kernel
theorem dL_moves_7 : decode cL_moves 7 = .ok (.arraylength, 1) := by decide +kernel
theorem dL_moves_8 : decode cL_moves 8 = .ok (.iconst 1, 1) := by decide +kernel
theorem dL_moves_9 : decode cL_moves 9 = .ok (.isub, 1) := by decide +kernel
theorem dL_moves_10 : decode cL_moves 10 = .ok (.invokevirtual 196, 3) := by decide +kernel
theorem dL_moves_13 : decode cL_moves 13 = .ok (.istore 5, 2) := by decide +kernel
theorem dL_moves_15 : decode cL_moves 15 = .ok (.aload 4, 2) := by decide +kernel
theorem dL_moves_17 : decode cL_moves 17 = .ok (.iconst 0, 1) := by decide +kernel
theorem dL_moves_18 : decode cL_moves 18 = .ok (.aload_n 1, 1) := by decide +kernel
theorem dL_moves_19 : decode cL_moves 19 = .ok (.getfield 180, 3) := by decide +kernel
theorem dL_moves_22 : decode cL_moves 22 = .ok (.arraylength, 1) := by decide +kernel
theorem dL_moves_23 : decode cL_moves 23 = .ok (.iconst 1, 1) := by decide +kernel
theorem dL_moves_24 : decode cL_moves 24 = .ok (.isub, 1) := by decide +kernel
theorem dL_moves_25 : decode cL_moves 25 = .ok (.invokevirtual 196, 3) := by decide +kernel
theorem dL_moves_28 : decode cL_moves 28 = .ok (.istore 6, 2) := by decide +kernel
theorem dL_moves_30 : decode cL_moves 30 = .ok (.iconst 0, 1) := by decide +kernel
theorem dL_moves_31 : decode cL_moves 31 = .ok (.istore 7, 2) := by decide +kernel
theorem dL_moves_33 : decode cL_moves 33 = .ok (.iload_n 3, 1) := by decide +kernel
theorem dL_moves_34 : decode cL_moves 34 = .ok (.iconst 2, 1) := by decide +kernel
theorem dL_moves_35 : decode cL_moves 35 = .ok (.if_icmp .ge 127, 3) := by decide +kernel
theorem dL_moves_38 : decode cL_moves 38 = .ok (.iconst 0, 1) := by decide +kernel
theorem dL_moves_39 : decode cL_moves 39 = .ok (.istore 8, 2) := by decide +kernel
theorem dL_moves_41 : decode cL_moves 41 = .ok (.iload 8, 2) := by decide +kernel
theorem dL_moves_43 : decode cL_moves 43 = .ok (.aload_n 1, 1) := by decide +kernel
theorem dL_moves_44 : decode cL_moves 44 = .ok (.getfield 180, 3) := by decide +kernel
theorem dL_moves_47 : decode cL_moves 47 = .ok (.arraylength, 1) := by decide +kernel
theorem dL_moves_48 : decode cL_moves 48 = .ok (.if_icmp .ge 85, 3) := by decide +kernel
theorem dL_moves_51 : decode cL_moves 51 = .ok (.iconst 0, 1) := by decide +kernel
theorem dL_moves_52 : decode cL_moves 52 = .ok (.istore 9, 2) := by decide +kernel
theorem dL_moves_54 : decode cL_moves 54 = .ok (.iload 9, 2) := by decide +kernel
theorem dL_moves_56 : decode cL_moves 56 = .ok (.aload_n 1, 1) := by decide +kernel
theorem dL_moves_57 : decode cL_moves 57 = .ok (.getfield 176, 3) := by decide +kernel
theorem dL_moves_60 : decode cL_moves 60 = .ok (.arraylength, 1) := by decide +kernel
theorem dL_moves_61 : decode cL_moves 61 = .ok (.if_icmp .ge 66, 3) := by decide +kernel
theorem dL_moves_64 : decode cL_moves 64 = .ok (.iload_n 3, 1) := by decide +kernel
theorem dL_moves_65 : decode cL_moves 65 = .ok (.iconst 1, 1) := by decide +kernel
theorem dL_moves_66 : decode cL_moves 66 = .ok (.if_icmp .ne 14, 3) := by decide +kernel
theorem dL_moves_69 : decode cL_moves 69 = .ok (.aload_n 1, 1) := by decide +kernel
theorem dL_moves_70 : decode cL_moves 70 = .ok (.iload 8, 2) := by decide +kernel
theorem dL_moves_72 : decode cL_moves 72 = .ok (.iload 9, 2) := by decide +kernel
theorem dL_moves_74 : decode cL_moves 74 = .ok (.invokevirtual 221, 3) := by decide +kernel
theorem dL_moves_77 : decode cL_moves 77 = .ok (.goto 5, 3) := by decide +kernel
theorem dL_moves_80 : decode cL_moves 80 = .ok (.iload 9, 2) := by decide +kernel
theorem dL_moves_82 : decode cL_moves 82 = .ok (.istore 10, 2) := by decide +kernel
theorem dL_moves_84 : decode cL_moves 84 = .ok (.iload 7, 2) := by decide +kernel
theorem dL_moves_86 : decode cL_moves 86 = .ok (.aload_n 1, 1) := by decide +kernel
theorem dL_moves_87 : decode cL_moves 87 = .ok (.getfield 180, 3) := by decide +kernel
theorem dL_moves_90 : decode cL_moves 90 = .ok (.iload 8, 2) := by decide +kernel
theorem dL_moves_92 : decode cL_moves 92 = .ok (.aaload, 1) := by decide +kernel
theorem dL_moves_93 : decode cL_moves 93 = .ok (.iload 9, 2) := by decide +kernel
theorem dL_moves_95 : decode cL_moves 95 = .ok (.iaload, 1) := by decide +kernel
theorem dL_moves_96 : decode cL_moves 96 = .ok (.iload 10, 2) := by decide +kernel
theorem dL_moves_98 : decode cL_moves 98 = .ok (.if_icmp .ne 7, 3) := by decide +kernel
theorem dL_moves_101 : decode cL_moves 101 = .ok (.iconst 0, 1) := by decide +kernel
theorem dL_moves_102 : decode cL_moves 102 = .ok (.goto 4, 3) := by decide +kernel
theorem dL_moves_105 : decode cL_moves 105 = .ok (.iconst 1, 1) := by decide +kernel
theorem dL_moves_106 : decode cL_moves 106 = .ok (.iadd, 1) := by decide +kernel
theorem dL_moves_107 : decode cL_moves 107 = .ok (.istore 7, 2) := by decide +kernel
theorem dL_moves_109 : decode cL_moves 109 = .ok (.aload_n 1, 1) := by decide +kernel
theorem dL_moves_110 : decode cL_moves 110 = .ok (.getfield 180, 3) := by decide +kernel
theorem dL_moves_113 : decode cL_moves 113 = .ok (.iload 8, 2) := by decide +kernel
theorem dL_moves_115 : decode cL_moves 115 = .ok (.aaload, 1) := by decide +kernel
theorem dL_moves_116 : decode cL_moves 116 = .ok (.iload 9, 2) := by decide +kernel
theorem dL_moves_118 : decode cL_moves 118 = .ok (.iload 10, 2) := by decide +kernel
theorem dL_moves_120 : decode cL_moves 120 = .ok (.iastore, 1) := by decide +kernel
theorem dL_moves_121 : decode cL_moves 121 = .ok (.iinc 9 1, 3) := by decide +kernel
theorem dL_moves_124 : decode cL_moves 124 = .ok (.goto (-70), 3) := by decide +kernel
theorem dL_moves_127 : decode cL_moves 127 = .ok (.iinc 8 1, 3) := by decide +kernel
theorem dL_moves_130 : decode cL_moves 130 = .ok (.goto (-89), 3) := by decide +kernel
theorem dL_moves_133 : decode cL_moves 133 = .ok (.iload_n 3, 1) := by decide +kernel
theorem dL_moves_134 : decode cL_moves 134 = .ok (.iconst 1, 1) := by decide +kernel
theorem dL_moves_135 : decode cL_moves 135 = .ok (.if_icmp .ne 11, 3) := by decide +kernel
theorem dL_moves_138 : decode cL_moves 138 = .ok (.aload_n 0, 1) := by decide +kernel
theorem dL_moves_139 : decode cL_moves 139 = .ok (.iload_n 2, 1) := by decide +kernel
theorem dL_moves_140 : decode cL_moves 140 = .ok (.invokevirtual 119, 3) := by decide +kernel
theorem dL_moves_143 : decode cL_moves 143 = .ok (.goto 8, 3) := by decide +kernel
theorem dL_moves_146 : decode cL_moves 146 = .ok (.aload_n 0, 1) := by decide +kernel
theorem dL_moves_147 : decode cL_moves 147 = .ok (.iload_n 2, 1) := by decide +kernel
theorem dL_moves_148 : decode cL_moves 148 = .ok (.invokevirtual 116, 3) := by decide +kernel
theorem dL_moves_151 : decode cL_moves 151 = .ok (.iload 7, 2) := by decide +kernel
theorem dL_moves_153 : decode cL_moves 153 = .ok (.if_icmp .ne 7, 3) := by decide +kernel
theorem dL_moves_156 : decode cL_moves 156 = .ok (.iconst 1, 1) := by decide +kernel
theorem dL_moves_157 : decode cL_moves 157 = .ok (.goto 4, 3) := by decide +kernel
theorem dL_moves_160 : decode cL_moves 160 = .ok (.iconst 0, 1) := by decide +kernel
theorem dL_moves_161 : decode cL_moves 161 = .ok (.ireturn, 1) := by decide +kernel
theorem dL_moves_162 : decode cL_moves 162 = .ok (.iload_n 3, 1) := by decide +kernel
theorem dL_moves_163 : decode cL_moves 163 = .ok (.iconst 4, 1) := by decide +kernel
theorem dL_moves_164 : decode cL_moves 164 = .ok (.if_icmp .ge 78, 3) := by decide +kernel
theorem dL_moves_167 : decode cL_moves 167 = .ok (.aload_n 1, 1) := by decide +kernel
theorem dL_moves_168 : decode cL_moves 168 = .ok (.getfield 176, 3) := by decide +kernel
theorem dL_moves_171 : decode cL_moves 171 = .ok (.iload 5, 2) := by decide +kernel
theorem dL_moves_173 : decode cL_moves 173 = .ok (.iaload, 1) := by decide +kernel
theorem dL_moves_174 : decode cL_moves 174 = .ok (.istore 8, 2) := by decide +kernel
theorem dL_moves_176 : decode cL_moves 176 = .ok (.aload 4, 2) := by decide +kernel
theorem dL_moves_178 : decode cL_moves 178 = .ok (.iconst 0, 1) := by decide +kernel
theorem dL_moves_179 : decode cL_moves 179 = .ok (.iconst 1, 1) := by decide +kernel
theorem dL_moves_180 : decode cL_moves 180 = .ok (.invokevirtual 196, 3) := by decide +kernel
theorem dL_moves_183 : decode cL_moves 183 = .ok (.ifCond .ne 7, 3) := by decide +kernel
theorem dL_moves_186 : decode cL_moves 186 = .ok (.iconst 0, 1) := by decide +kernel
theorem dL_moves_187 : decode cL_moves 187 = .ok (.goto 5, 3) := by decide +kernel
theorem dL_moves_190 : decode cL_moves 190 = .ok (.iload 6, 2) := by decide +kernel
theorem dL_moves_192 : decode cL_moves 192 = .ok (.istore 9, 2) := by decide +kernel
theorem dL_moves_194 : decode cL_moves 194 = .ok (.aload_n 1, 1) := by decide +kernel
theorem dL_moves_195 : decode cL_moves 195 = .ok (.getfield 176, 3) := by decide +kernel
theorem dL_moves_198 : decode cL_moves 198 = .ok (.iload 5, 2) := by decide +kernel
theorem dL_moves_200 : decode cL_moves 200 = .ok (.iload 9, 2) := by decide +kernel
theorem dL_moves_202 : decode cL_moves 202 = .ok (.iastore, 1) := by decide +kernel
theorem dL_moves_203 : decode cL_moves 203 = .ok (.aload_n 0, 1) := by decide +kernel
theorem dL_moves_204 : decode cL_moves 204 = .ok (.iload_n 2, 1) := by decide +kernel
theorem dL_moves_205 : decode cL_moves 205 = .ok (.iload 5, 2) := by decide +kernel
theorem dL_moves_207 : decode cL_moves 207 = .ok (.iload 9, 2) := by decide +kernel
theorem dL_moves_209 : decode cL_moves 209 = .ok (.invokevirtual 109, 3) := by decide +kernel
theorem dL_moves_212 : decode cL_moves 212 = .ok (.iload 8, 2) := by decide +kernel
theorem dL_moves_214 : decode cL_moves 214 = .ok (.if_icmp .ne 26, 3) := by decide +kernel
theorem dL_moves_217 : decode cL_moves 217 = .ok (.aload_n 0, 1) := by decide +kernel
theorem dL_moves_218 : decode cL_moves 218 = .ok (.bipush 24, 2) := by decide +kernel
theorem dL_moves_220 : decode cL_moves 220 = .ok (.iload_n 2, 1) := by decide +kernel
theorem dL_moves_221 : decode cL_moves 221 = .ok (.iload 5, 2) := by decide +kernel
theorem dL_moves_223 : decode cL_moves 223 = .ok (.aload_n 1, 1) := by decide +kernel
theorem dL_moves_224 : decode cL_moves 224 = .ok (.getfield 180, 3) := by decide +kernel
theorem dL_moves_227 : decode cL_moves 227 = .ok (.arraylength, 1) := by decide +kernel
theorem dL_moves_228 : decode cL_moves 228 = .ok (.iconst 0, 1) := by decide +kernel
theorem dL_moves_229 : decode cL_moves 229 = .ok (.invokestatic 205, 3) := by decide +kernel
theorem dL_moves_232 : decode cL_moves 232 = .ok (.iconst 2, 1) := by decide +kernel
theorem dL_moves_233 : decode cL_moves 233 = .ok (.if_icmp .ne 7, 3) := by decide +kernel
theorem dL_moves_236 : decode cL_moves 236 = .ok (.iconst 1, 1) := by decide +kernel
theorem dL_moves_237 : decode cL_moves 237 = .ok (.goto 4, 3) := by decide +kernel
theorem dL_moves_240 : decode cL_moves 240 = .ok (.iconst 0, 1) := by decide +kernel
theorem dL_moves_241 : decode cL_moves 241 = .ok (.ireturn, 1) := by decide +kernel
theorem dL_moves_242 : decode cL_moves 242 = .ok (.aload_n 1, 1) := by decide +kernel
theorem dL_moves_243 : decode cL_moves 243 = .ok (.getfield 180, 3) := by decide +kernel
theorem dL_moves_246 : decode cL_moves 246 = .ok (.iload 6, 2) := by decide +kernel
theorem dL_moves_248 : decode cL_moves 248 = .ok (.aaload, 1) := by decide +kernel
theorem dL_moves_249 : decode cL_moves 249 = .ok (.iload 5, 2) := by decide +kernel
theorem dL_moves_251 : decode cL_moves 251 = .ok (.iaload, 1) := by decide +kernel
theorem dL_moves_252 : decode cL_moves 252 = .ok (.istore 8, 2) := by decide +kernel
theorem dL_moves_254 : decode cL_moves 254 = .ok (.aload 4, 2) := by decide +kernel
theorem dL_moves_256 : decode cL_moves 256 = .ok (.iconst 0, 1) := by decide +kernel
theorem dL_moves_257 : decode cL_moves 257 = .ok (.aload_n 1, 1) := by decide +kernel
theorem dL_moves_258 : decode cL_moves 258 = .ok (.getfield 176, 3) := by decide +kernel
theorem dL_moves_261 : decode cL_moves 261 = .ok (.arraylength, 1) := by decide +kernel
theorem dL_moves_262 : decode cL_moves 262 = .ok (.iconst 1, 1) := by decide +kernel
theorem dL_moves_263 : decode cL_moves 263 = .ok (.isub, 1) := by decide +kernel
theorem dL_moves_264 : decode cL_moves 264 = .ok (.invokevirtual 196, 3) := by decide +kernel
theorem dL_moves_267 : decode cL_moves 267 = .ok (.istore 9, 2) := by decide +kernel
theorem dL_moves_269 : decode cL_moves 269 = .ok (.aload_n 1, 1) := by decide +kernel
theorem dL_moves_270 : decode cL_moves 270 = .ok (.getfield 180, 3) := by decide +kernel
theorem dL_moves_273 : decode cL_moves 273 = .ok (.iload 6, 2) := by decide +kernel
theorem dL_moves_275 : decode cL_moves 275 = .ok (.aaload, 1) := by decide +kernel
theorem dL_moves_276 : decode cL_moves 276 = .ok (.iload 5, 2) := by decide +kernel
theorem dL_moves_278 : decode cL_moves 278 = .ok (.iload 9, 2) := by decide +kernel
theorem dL_moves_280 : decode cL_moves 280 = .ok (.iastore, 1) := by decide +kernel
theorem dL_moves_281 : decode cL_moves 281 = .ok (.aload_n 0, 1) := by decide +kernel
theorem dL_moves_282 : decode cL_moves 282 = .ok (.iload_n 2, 1) := by decide +kernel
theorem dL_moves_283 : decode cL_moves 283 = .ok (.iload 6, 2) := by decide +kernel
theorem dL_moves_285 : decode cL_moves 285 = .ok (.iload 5, 2) := by decide +kernel
theorem dL_moves_287 : decode cL_moves 287 = .ok (.iload 9, 2) := by decide +kernel
theorem dL_moves_289 : decode cL_moves 289 = .ok (.invokevirtual 112, 3) := by decide +kernel
theorem dL_moves_292 : decode cL_moves 292 = .ok (.iload 8, 2) := by decide +kernel
theorem dL_moves_294 : decode cL_moves 294 = .ok (.if_icmp .ne 23, 3) := by decide +kernel
theorem dL_moves_297 : decode cL_moves 297 = .ok (.aload_n 0, 1) := by decide +kernel
theorem dL_moves_298 : decode cL_moves 298 = .ok (.bipush 25, 2) := by decide +kernel
theorem dL_moves_300 : decode cL_moves 300 = .ok (.iload_n 2, 1) := by decide +kernel
theorem dL_moves_301 : decode cL_moves 301 = .ok (.iload 6, 2) := by decide +kernel
theorem dL_moves_303 : decode cL_moves 303 = .ok (.iload 5, 2) := by decide +kernel
theorem dL_moves_305 : decode cL_moves 305 = .ok (.iconst (-1), 1) := by decide +kernel
theorem dL_moves_306 : decode cL_moves 306 = .ok (.invokestatic 205, 3) := by decide +kernel
theorem dL_moves_309 : decode cL_moves 309 = .ok (.iconst 2, 1) := by decide +kernel
theorem dL_moves_310 : decode cL_moves 310 = .ok (.if_icmp .ne 7, 3) := by decide +kernel
theorem dL_moves_313 : decode cL_moves 313 = .ok (.iconst 1, 1) := by decide +kernel
theorem dL_moves_314 : decode cL_moves 314 = .ok (.goto 4, 3) := by decide +kernel
theorem dL_moves_317 : decode cL_moves 317 = .ok (.iconst 0, 1) := by decide +kernel
theorem dL_moves_318 : decode cL_moves 318 = .ok (.ireturn, 1) := by decide +kernel
theorem dL_turns_0 : decode cL_turns 0 = .ok (.aload_n 2, 1) := by decide +kernel
theorem dL_turns_1 : decode cL_turns 1 = .ok (.iconst 0, 1) := by decide +kernel
theorem dL_turns_2 : decode cL_turns 2 = .ok (.aload_n 1, 1) := by decide +kernel
theorem dL_turns_3 : decode cL_turns 3 = .ok (.getfield 165, 3) := by decide +kernel
theorem dL_turns_6 : decode cL_turns 6 = .ok (.iconst 1, 1) := by decide +kernel
theorem dL_turns_7 : decode cL_turns 7 = .ok (.isub, 1) := by decide +kernel
theorem dL_turns_8 : decode cL_turns 8 = .ok (.invokevirtual 196, 3) := by decide +kernel
theorem dL_turns_11 : decode cL_turns 11 = .ok (.istore_n 3, 1) := by decide +kernel
theorem dL_turns_12 : decode cL_turns 12 = .ok (.aload_n 1, 1) := by decide +kernel
theorem dL_turns_13 : decode cL_turns 13 = .ok (.getfield 183, 3) := by decide +kernel
theorem dL_turns_16 : decode cL_turns 16 = .ok (.iload_n 3, 1) := by decide +kernel
theorem dL_turns_17 : decode cL_turns 17 = .ok (.aaload, 1) := by decide +kernel
theorem dL_turns_18 : decode cL_turns 18 = .ok (.astore 4, 2) := by decide +kernel
theorem dL_turns_20 : decode cL_turns 20 = .ok (.aload_n 1, 1) := by decide +kernel
theorem dL_turns_21 : decode cL_turns 21 = .ok (.getfield 193, 3) := by decide +kernel
theorem dL_turns_24 : decode cL_turns 24 = .ok (.iconst 0, 1) := by decide +kernel
theorem dL_turns_25 : decode cL_turns 25 = .ok (.dup2, 1) := by decide +kernel
theorem dL_turns_26 : decode cL_turns 26 = .ok (.iaload, 1) := by decide +kernel
theorem dL_turns_27 : decode cL_turns 27 = .ok (.iconst 1, 1) := by decide +kernel
theorem dL_turns_28 : decode cL_turns 28 = .ok (.iadd, 1) := by decide +kernel
theorem dL_turns_29 : decode cL_turns 29 = .ok (.iastore, 1) := by decide +kernel
theorem dL_turns_30 : decode cL_turns 30 = .ok (.aload_n 2, 1) := by decide +kernel
theorem dL_turns_31 : decode cL_turns 31 = .ok (.iconst 0, 1) := by decide +kernel
theorem dL_turns_32 : decode cL_turns 32 = .ok (.iconst 1, 1) := by decide +kernel
theorem dL_turns_33 : decode cL_turns 33 = .ok (.invokevirtual 196, 3) := by decide +kernel
theorem dL_turns_36 : decode cL_turns 36 = .ok (.ifCond .ne 100, 3) := by decide +kernel
theorem dL_turns_39 : decode cL_turns 39 = .ok (.aload_n 2, 1) := by decide +kernel
theorem dL_turns_40 : decode cL_turns 40 = .ok (.iconst 0, 1) := by decide +kernel
theorem dL_turns_41 : decode cL_turns 41 = .ok (.aload 4, 2) := by decide +kernel
theorem dL_turns_43 : decode cL_turns 43 = .ok (.getfield 187, 3) := by decide +kernel
theorem dL_turns_46 : decode cL_turns 46 = .ok (.arraylength, 1) := by decide +kernel
theorem dL_turns_47 : decode cL_turns 47 = .ok (.iconst 1, 1) := by decide +kernel
theorem dL_turns_48 : decode cL_turns 48 = .ok (.isub, 1) := by decide +kernel
theorem dL_turns_49 : decode cL_turns 49 = .ok (.invokevirtual 196, 3) := by decide +kernel
theorem dL_turns_52 : decode cL_turns 52 = .ok (.istore 5, 2) := by decide +kernel
theorem dL_turns_54 : decode cL_turns 54 = .ok (.aload_n 2, 1) := by decide +kernel
theorem dL_turns_55 : decode cL_turns 55 = .ok (.iconst 0, 1) := by decide +kernel
theorem dL_turns_56 : decode cL_turns 56 = .ok (.aload_n 1, 1) := by decide +kernel
theorem dL_turns_57 : decode cL_turns 57 = .ok (.getfield 172, 3) := by decide +kernel
theorem dL_turns_60 : decode cL_turns 60 = .ok (.aload 4, 2) := by decide +kernel
theorem dL_turns_62 : decode cL_turns 62 = .ok (.getfield 223, 3) := by decide +kernel
theorem dL_turns_65 : decode cL_turns 65 = .ok (.aaload, 1) := by decide +kernel
theorem dL_turns_66 : decode cL_turns 66 = .ok (.getfield 176, 3) := by decide +kernel
theorem dL_turns_69 : decode cL_turns 69 = .ok (.arraylength, 1) := by decide +kernel
theorem dL_turns_70 : decode cL_turns 70 = .ok (.iconst 1, 1) := by decide +kernel
theorem dL_turns_71 : decode cL_turns 71 = .ok (.isub, 1) := by decide +kernel
theorem dL_turns_72 : decode cL_turns 72 = .ok (.invokevirtual 196, 3) := by decide +kernel
theorem dL_turns_75 : decode cL_turns 75 = .ok (.istore 6, 2) := by decide +kernel
theorem dL_turns_77 : decode cL_turns 77 = .ok (.aload 4, 2) := by decide +kernel
theorem dL_turns_79 : decode cL_turns 79 = .ok (.getfield 187, 3) := by decide +kernel
theorem dL_turns_82 : decode cL_turns 82 = .ok (.iload 5, 2) := by decide +kernel
theorem dL_turns_84 : decode cL_turns 84 = .ok (.iaload, 1) := by decide +kernel
theorem dL_turns_85 : decode cL_turns 85 = .ok (.istore 7, 2) := by decide +kernel
theorem dL_turns_87 : decode cL_turns 87 = .ok (.aload 4, 2) := by decide +kernel
theorem dL_turns_89 : decode cL_turns 89 = .ok (.getfield 187, 3) := by decide +kernel
theorem dL_turns_92 : decode cL_turns 92 = .ok (.iload 5, 2) := by decide +kernel
theorem dL_turns_94 : decode cL_turns 94 = .ok (.iload 6, 2) := by decide +kernel
theorem dL_turns_96 : decode cL_turns 96 = .ok (.iastore, 1) := by decide +kernel
theorem dL_turns_97 : decode cL_turns 97 = .ok (.aload_n 0, 1) := by decide +kernel
theorem dL_turns_98 : decode cL_turns 98 = .ok (.iload_n 3, 1) := by decide +kernel
theorem dL_turns_99 : decode cL_turns 99 = .ok (.iload 5, 2) := by decide +kernel
theorem dL_turns_101 : decode cL_turns 101 = .ok (.iload 6, 2) := by decide +kernel
theorem dL_turns_103 : decode cL_turns 103 = .ok (.invokevirtual 122, 3) := by decide +kernel
theorem dL_turns_106 : decode cL_turns 106 = .ok (.iload 7, 2) := by decide +kernel
theorem dL_turns_108 : decode cL_turns 108 = .ok (.if_icmp .ne 26, 3) := by decide +kernel
theorem dL_turns_111 : decode cL_turns 111 = .ok (.aload_n 0, 1) := by decide +kernel
theorem dL_turns_112 : decode cL_turns 112 = .ok (.bipush 28, 2) := by decide +kernel
theorem dL_turns_114 : decode cL_turns 114 = .ok (.iload_n 3, 1) := by decide +kernel
theorem dL_turns_115 : decode cL_turns 115 = .ok (.aload 4, 2) := by decide +kernel
theorem dL_turns_117 : decode cL_turns 117 = .ok (.getfield 187, 3) := by decide +kernel
theorem dL_turns_120 : decode cL_turns 120 = .ok (.arraylength, 1) := by decide +kernel
theorem dL_turns_121 : decode cL_turns 121 = .ok (.iconst 0, 1) := by decide +kernel
theorem dL_turns_122 : decode cL_turns 122 = .ok (.iconst 0, 1) := by decide +kernel
theorem dL_turns_123 : decode cL_turns 123 = .ok (.invokestatic 205, 3) := by decide +kernel
theorem dL_turns_126 : decode cL_turns 126 = .ok (.iconst 2, 1) := by decide +kernel
theorem dL_turns_127 : decode cL_turns 127 = .ok (.if_icmp .ne 7, 3) := by decide +kernel
theorem dL_turns_130 : decode cL_turns 130 = .ok (.iconst 1, 1) := by decide +kernel
theorem dL_turns_131 : decode cL_turns 131 = .ok (.goto 4, 3) := by decide +kernel
theorem dL_turns_134 : decode cL_turns 134 = .ok (.iconst 0, 1) := by decide +kernel
theorem dL_turns_135 : decode cL_turns 135 = .ok (.ireturn, 1) := by decide +kernel
theorem dL_turns_136 : decode cL_turns 136 = .ok (.aload_n 2, 1) := by decide +kernel
theorem dL_turns_137 : decode cL_turns 137 = .ok (.iconst 0, 1) := by decide +kernel
theorem dL_turns_138 : decode cL_turns 138 = .ok (.aload 4, 2) := by decide +kernel
theorem dL_turns_140 : decode cL_turns 140 = .ok (.getfield 191, 3) := by decide +kernel
theorem dL_turns_143 : decode cL_turns 143 = .ok (.arraylength, 1) := by decide +kernel
theorem dL_turns_144 : decode cL_turns 144 = .ok (.iconst 1, 1) := by decide +kernel
theorem dL_turns_145 : decode cL_turns 145 = .ok (.isub, 1) := by decide +kernel
theorem dL_turns_146 : decode cL_turns 146 = .ok (.invokevirtual 196, 3) := by decide +kernel
theorem dL_turns_149 : decode cL_turns 149 = .ok (.istore 5, 2) := by decide +kernel
theorem dL_turns_151 : decode cL_turns 151 = .ok (.aload_n 2, 1) := by decide +kernel
theorem dL_turns_152 : decode cL_turns 152 = .ok (.iconst 0, 1) := by decide +kernel
theorem dL_turns_153 : decode cL_turns 153 = .ok (.aload_n 1, 1) := by decide +kernel
theorem dL_turns_154 : decode cL_turns 154 = .ok (.getfield 172, 3) := by decide +kernel
theorem dL_turns_157 : decode cL_turns 157 = .ok (.aload 4, 2) := by decide +kernel
theorem dL_turns_159 : decode cL_turns 159 = .ok (.getfield 223, 3) := by decide +kernel
theorem dL_turns_162 : decode cL_turns 162 = .ok (.aaload, 1) := by decide +kernel
theorem dL_turns_163 : decode cL_turns 163 = .ok (.getfield 180, 3) := by decide +kernel
theorem dL_turns_166 : decode cL_turns 166 = .ok (.arraylength, 1) := by decide +kernel
theorem dL_turns_167 : decode cL_turns 167 = .ok (.iconst 1, 1) := by decide +kernel
theorem dL_turns_168 : decode cL_turns 168 = .ok (.isub, 1) := by decide +kernel
theorem dL_turns_169 : decode cL_turns 169 = .ok (.invokevirtual 196, 3) := by decide +kernel
theorem dL_turns_172 : decode cL_turns 172 = .ok (.istore 6, 2) := by decide +kernel
theorem dL_turns_174 : decode cL_turns 174 = .ok (.aload 4, 2) := by decide +kernel
theorem dL_turns_176 : decode cL_turns 176 = .ok (.getfield 191, 3) := by decide +kernel
theorem dL_turns_179 : decode cL_turns 179 = .ok (.iload 5, 2) := by decide +kernel
theorem dL_turns_181 : decode cL_turns 181 = .ok (.iaload, 1) := by decide +kernel
theorem dL_turns_182 : decode cL_turns 182 = .ok (.istore 7, 2) := by decide +kernel
theorem dL_turns_184 : decode cL_turns 184 = .ok (.aload 4, 2) := by decide +kernel
theorem dL_turns_186 : decode cL_turns 186 = .ok (.getfield 191, 3) := by decide +kernel
theorem dL_turns_189 : decode cL_turns 189 = .ok (.iload 5, 2) := by decide +kernel
theorem dL_turns_191 : decode cL_turns 191 = .ok (.iload 6, 2) := by decide +kernel
theorem dL_turns_193 : decode cL_turns 193 = .ok (.iastore, 1) := by decide +kernel
theorem dL_turns_194 : decode cL_turns 194 = .ok (.aload_n 0, 1) := by decide +kernel
theorem dL_turns_195 : decode cL_turns 195 = .ok (.iload_n 3, 1) := by decide +kernel
theorem dL_turns_196 : decode cL_turns 196 = .ok (.iload 5, 2) := by decide +kernel
theorem dL_turns_198 : decode cL_turns 198 = .ok (.iload 6, 2) := by decide +kernel
theorem dL_turns_200 : decode cL_turns 200 = .ok (.invokevirtual 125, 3) := by decide +kernel
theorem dL_turns_203 : decode cL_turns 203 = .ok (.iload 7, 2) := by decide +kernel
theorem dL_turns_205 : decode cL_turns 205 = .ok (.if_icmp .ne 21, 3) := by decide +kernel
theorem dL_turns_208 : decode cL_turns 208 = .ok (.aload_n 0, 1) := by decide +kernel
theorem dL_turns_209 : decode cL_turns 209 = .ok (.bipush 29, 2) := by decide +kernel
theorem dL_turns_211 : decode cL_turns 211 = .ok (.iload_n 3, 1) := by decide +kernel
theorem dL_turns_212 : decode cL_turns 212 = .ok (.iconst 0, 1) := by decide +kernel
theorem dL_turns_213 : decode cL_turns 213 = .ok (.iconst (-1), 1) := by decide +kernel
theorem dL_turns_214 : decode cL_turns 214 = .ok (.iconst 0, 1) := by decide +kernel
theorem dL_turns_215 : decode cL_turns 215 = .ok (.invokestatic 205, 3) := by decide +kernel
theorem dL_turns_218 : decode cL_turns 218 = .ok (.iconst 2, 1) := by decide +kernel
theorem dL_turns_219 : decode cL_turns 219 = .ok (.if_icmp .ne 7, 3) := by decide +kernel
theorem dL_turns_222 : decode cL_turns 222 = .ok (.iconst 1, 1) := by decide +kernel
theorem dL_turns_223 : decode cL_turns 223 = .ok (.goto 4, 3) := by decide +kernel
theorem dL_turns_226 : decode cL_turns 226 = .ok (.iconst 0, 1) := by decide +kernel
theorem dL_turns_227 : decode cL_turns 227 = .ok (.ireturn, 1) := by decide +kernel
theorem dL_isText_0 : decode cL_isText 0 = .ok (.iconst 0, 1) := by decide +kernel
theorem dL_isText_1 : decode cL_isText 1 = .ok (.istore_n 2, 1) := by decide +kernel
theorem dL_isText_2 : decode cL_isText 2 = .ok (.iload_n 2, 1) := by decide +kernel
theorem dL_isText_3 : decode cL_isText 3 = .ok (.aload_n 1, 1) := by decide +kernel
theorem dL_isText_4 : decode cL_isText 4 = .ok (.invokevirtual 226, 3) := by decide +kernel
theorem dL_isText_7 : decode cL_isText 7 = .ok (.if_icmp .ge 24, 3) := by decide +kernel
theorem dL_isText_10 : decode cL_isText 10 = .ok (.aload_n 0, 1) := by decide +kernel
theorem dL_isText_11 : decode cL_isText 11 = .ok (.iload_n 2, 1) := by decide +kernel
theorem dL_isText_12 : decode cL_isText 12 = .ok (.invokevirtual 106, 3) := by decide +kernel
theorem dL_isText_15 : decode cL_isText 15 = .ok (.aload_n 1, 1) := by decide +kernel
theorem dL_isText_16 : decode cL_isText 16 = .ok (.iload_n 2, 1) := by decide +kernel
theorem dL_isText_17 : decode cL_isText 17 = .ok (.invokevirtual 229, 3) := by decide +kernel
theorem dL_isText_20 : decode cL_isText 20 = .ok (.if_icmp .eq 5, 3) := by decide +kernel
theorem dL_isText_23 : decode cL_isText 23 = .ok (.iconst 0, 1) := by decide +kernel
theorem dL_isText_24 : decode cL_isText 24 = .ok (.ireturn, 1) := by decide +kernel
theorem dL_isText_25 : decode cL_isText 25 = .ok (.iinc 2 1, 3) := by decide +kernel
theorem dL_isText_28 : decode cL_isText 28 = .ok (.goto (-26), 3) := by decide +kernel
theorem dL_isText_31 : decode cL_isText 31 = .ok (.aload_n 0, 1) := by decide +kernel
theorem dL_isText_32 : decode cL_isText 32 = .ok (.bipush 23, 2) := by decide +kernel
theorem dL_isText_34 : decode cL_isText 34 = .ok (.aload_n 1, 1) := by decide +kernel
theorem dL_isText_35 : decode cL_isText 35 = .ok (.invokevirtual 226, 3) := by decide +kernel
theorem dL_isText_38 : decode cL_isText 38 = .ok (.iconst 0, 1) := by decide +kernel
theorem dL_isText_39 : decode cL_isText 39 = .ok (.iconst 0, 1) := by decide +kernel
theorem dL_isText_40 : decode cL_isText 40 = .ok (.iconst 0, 1) := by decide +kernel
theorem dL_isText_41 : decode cL_isText 41 = .ok (.invokestatic 205, 3) := by decide +kernel
theorem dL_isText_44 : decode cL_isText 44 = .ok (.iconst 2, 1) := by decide +kernel
theorem dL_isText_45 : decode cL_isText 45 = .ok (.if_icmp .ne 7, 3) := by decide +kernel
theorem dL_isText_48 : decode cL_isText 48 = .ok (.iconst 1, 1) := by decide +kernel
theorem dL_isText_49 : decode cL_isText 49 = .ok (.goto 4, 3) := by decide +kernel
theorem dL_isText_52 : decode cL_isText 52 = .ok (.iconst 0, 1) := by decide +kernel
theorem dL_isText_53 : decode cL_isText 53 = .ok (.ireturn, 1) := by decide +kernel
theorem dL_groups_0 : decode cL_groups 0 = .ok (.iconst 0, 1) := by decide +kernel
theorem dL_groups_1 : decode cL_groups 1 = .ok (.istore_n 2, 1) := by decide +kernel
theorem dL_groups_2 : decode cL_groups 2 = .ok (.iload_n 2, 1) := by decide +kernel
theorem dL_groups_3 : decode cL_groups 3 = .ok (.aload_n 1, 1) := by decide +kernel
theorem dL_groups_4 : decode cL_groups 4 = .ok (.getfield 156, 3) := by decide +kernel
theorem dL_groups_7 : decode cL_groups 7 = .ok (.if_icmp .ge 304, 3) := by decide +kernel
theorem dL_groups_10 : decode cL_groups 10 = .ok (.aload_n 1, 1) := by decide +kernel
theorem dL_groups_11 : decode cL_groups 11 = .ok (.getfield 230, 3) := by decide +kernel
theorem dL_groups_14 : decode cL_groups 14 = .ok (.iload_n 2, 1) := by decide +kernel
theorem dL_groups_15 : decode cL_groups 15 = .ok (.aaload, 1) := by decide +kernel
theorem dL_groups_16 : decode cL_groups 16 = .ok (.astore_n 3, 1) := by decide +kernel
theorem dL_groups_17 : decode cL_groups 17 = .ok (.iconst 0, 1) := by decide +kernel
theorem dL_groups_18 : decode cL_groups 18 = .ok (.istore 4, 2) := by decide +kernel
theorem dL_groups_20 : decode cL_groups 20 = .ok (.new 227, 3) := by decide +kernel
theorem dL_groups_23 : decode cL_groups 23 = .ok (.dup, 1) := by decide +kernel
theorem dL_groups_24 : decode cL_groups 24 = .ok (.invokespecial 234, 3) := by decide +kernel
theorem dL_groups_27 : decode cL_groups 27 = .ok (.astore 5, 2) := by decide +kernel
theorem dL_groups_29 : decode cL_groups 29 = .ok (.iconst 0, 1) := by decide +kernel
theorem dL_groups_30 : decode cL_groups 30 = .ok (.istore 6, 2) := by decide +kernel
theorem dL_groups_32 : decode cL_groups 32 = .ok (.iload 6, 2) := by decide +kernel
theorem dL_groups_34 : decode cL_groups 34 = .ok (.aload_n 3, 1) := by decide +kernel
theorem dL_groups_35 : decode cL_groups 35 = .ok (.arraylength, 1) := by decide +kernel
theorem dL_groups_36 : decode cL_groups 36 = .ok (.if_icmp .ge 154, 3) := by decide +kernel
theorem dL_groups_39 : decode cL_groups 39 = .ok (.iconst 1, 1) := by decide +kernel
theorem dL_groups_40 : decode cL_groups 40 = .ok (.istore 7, 2) := by decide +kernel
theorem dL_groups_42 : decode cL_groups 42 = .ok (.iload 6, 2) := by decide +kernel
theorem dL_groups_44 : decode cL_groups 44 = .ok (.ifCond .le 11, 3) := by decide +kernel
theorem dL_groups_47 : decode cL_groups 47 = .ok (.aload 5, 2) := by decide +kernel
theorem dL_groups_49 : decode cL_groups 49 = .ok (.bipush 47, 2) := by decide +kernel
theorem dL_groups_51 : decode cL_groups 51 = .ok (.invokevirtual 235, 3) := by decide +kernel
theorem dL_groups_54 : decode cL_groups 54 = .ok (.pop, 1) := by decide +kernel
theorem dL_groups_55 : decode cL_groups 55 = .ok (.iconst 0, 1) := by decide +kernel
theorem dL_groups_56 : decode cL_groups 56 = .ok (.istore 8, 2) := by decide +kernel
theorem dL_groups_58 : decode cL_groups 58 = .ok (.iload 8, 2) := by decide +kernel
theorem dL_groups_60 : decode cL_groups 60 = .ok (.aload_n 3, 1) := by decide +kernel
theorem dL_groups_61 : decode cL_groups 61 = .ok (.arraylength, 1) := by decide +kernel
theorem dL_groups_62 : decode cL_groups 62 = .ok (.if_icmp .ge 70, 3) := by decide +kernel
theorem dL_groups_65 : decode cL_groups 65 = .ok (.aload_n 0, 1) := by decide +kernel
theorem dL_groups_66 : decode cL_groups 66 = .ok (.iload_n 2, 1) := by decide +kernel
theorem dL_groups_67 : decode cL_groups 67 = .ok (.iload 6, 2) := by decide +kernel
theorem dL_groups_69 : decode cL_groups 69 = .ok (.iload 8, 2) := by decide +kernel
theorem dL_groups_71 : decode cL_groups 71 = .ok (.invokevirtual 40, 3) := by decide +kernel
theorem dL_groups_74 : decode cL_groups 74 = .ok (.aload_n 3, 1) := by decide +kernel
theorem dL_groups_75 : decode cL_groups 75 = .ok (.iload 6, 2) := by decide +kernel
theorem dL_groups_77 : decode cL_groups 77 = .ok (.aaload, 1) := by decide +kernel
theorem dL_groups_78 : decode cL_groups 78 = .ok (.iload 8, 2) := by decide +kernel
theorem dL_groups_80 : decode cL_groups 80 = .ok (.iaload, 1) := by decide +kernel
theorem dL_groups_81 : decode cL_groups 81 = .ok (.if_icmp .eq 5, 3) := by decide +kernel
theorem dL_groups_84 : decode cL_groups 84 = .ok (.iconst 0, 1) := by decide +kernel
theorem dL_groups_85 : decode cL_groups 85 = .ok (.ireturn, 1) := by decide +kernel
theorem dL_groups_86 : decode cL_groups 86 = .ok (.iload 7, 2) := by decide +kernel
theorem dL_groups_88 : decode cL_groups 88 = .ok (.aload_n 3, 1) := by decide +kernel
theorem dL_groups_89 : decode cL_groups 89 = .ok (.iload 6, 2) := by decide +kernel
theorem dL_groups_91 : decode cL_groups 91 = .ok (.aaload, 1) := by decide +kernel
theorem dL_groups_92 : decode cL_groups 92 = .ok (.iload 8, 2) := by decide +kernel
theorem dL_groups_94 : decode cL_groups 94 = .ok (.iaload, 1) := by decide +kernel
theorem dL_groups_95 : decode cL_groups 95 = .ok (.aload_n 3, 1) := by decide +kernel
theorem dL_groups_96 : decode cL_groups 96 = .ok (.iload 8, 2) := by decide +kernel
theorem dL_groups_98 : decode cL_groups 98 = .ok (.aaload, 1) := by decide +kernel
theorem dL_groups_99 : decode cL_groups 99 = .ok (.iload 6, 2) := by decide +kernel
theorem dL_groups_101 : decode cL_groups 101 = .ok (.iaload, 1) := by decide +kernel
theorem dL_groups_102 : decode cL_groups 102 = .ok (.if_icmp .ne 7, 3) := by decide +kernel
theorem dL_groups_105 : decode cL_groups 105 = .ok (.iconst 1, 1) := by decide +kernel
theorem dL_groups_106 : decode cL_groups 106 = .ok (.goto 4, 3) := by decide +kernel
theorem dL_groups_109 : decode cL_groups 109 = .ok (.iconst 0, 1) := by decide +kernel
theorem dL_groups_110 : decode cL_groups 110 = .ok (.iand, 1) := by decide +kernel
theorem dL_groups_111 : decode cL_groups 111 = .ok (.istore 7, 2) := by decide +kernel
theorem dL_groups_113 : decode cL_groups 113 = .ok (.aload 5, 2) := by decide +kernel
theorem dL_groups_115 : decode cL_groups 115 = .ok (.aload_n 3, 1) := by decide +kernel
theorem dL_groups_116 : decode cL_groups 116 = .ok (.iload 6, 2) := by decide +kernel
theorem dL_groups_118 : decode cL_groups 118 = .ok (.aaload, 1) := by decide +kernel
theorem dL_groups_119 : decode cL_groups 119 = .ok (.iload 8, 2) := by decide +kernel
theorem dL_groups_121 : decode cL_groups 121 = .ok (.iaload, 1) := by decide +kernel
theorem dL_groups_122 : decode cL_groups 122 = .ok (.invokevirtual 238, 3) := by decide +kernel
theorem dL_groups_125 : decode cL_groups 125 = .ok (.pop, 1) := by decide +kernel
theorem dL_groups_126 : decode cL_groups 126 = .ok (.iinc 8 1, 3) := by decide +kernel
theorem dL_groups_129 : decode cL_groups 129 = .ok (.goto (-71), 3) := by decide +kernel
theorem dL_groups_132 : decode cL_groups 132 = .ok (.iload 4, 2) := by decide +kernel
theorem dL_groups_134 : decode cL_groups 134 = .ok (.iload 7, 2) := by decide +kernel
theorem dL_groups_136 : decode cL_groups 136 = .ok (.ifCond .eq 10, 3) := by decide +kernel
theorem dL_groups_139 : decode cL_groups 139 = .ok (.iconst 1, 1) := by decide +kernel
theorem dL_groups_140 : decode cL_groups 140 = .ok (.iload 6, 2) := by decide +kernel
theorem dL_groups_142 : decode cL_groups 142 = .ok (.ishl, 1) := by decide +kernel
theorem dL_groups_143 : decode cL_groups 143 = .ok (.goto 4, 3) := by decide +kernel
theorem dL_groups_146 : decode cL_groups 146 = .ok (.iconst 0, 1) := by decide +kernel
theorem dL_groups_147 : decode cL_groups 147 = .ok (.ior, 1) := by decide +kernel
theorem dL_groups_148 : decode cL_groups 148 = .ok (.istore 4, 2) := by decide +kernel
theorem dL_groups_150 : decode cL_groups 150 = .ok (.aload_n 0, 1) := by decide +kernel
theorem dL_groups_151 : decode cL_groups 151 = .ok (.iload_n 2, 1) := by decide +kernel
theorem dL_groups_152 : decode cL_groups 152 = .ok (.iload 6, 2) := by decide +kernel
theorem dL_groups_154 : decode cL_groups 154 = .ok (.invokevirtual 241, 3) := by decide +kernel
theorem dL_groups_157 : decode cL_groups 157 = .ok (.aload_n 3, 1) := by decide +kernel
theorem dL_groups_158 : decode cL_groups 158 = .ok (.iload 6, 2) := by decide +kernel
theorem dL_groups_160 : decode cL_groups 160 = .ok (.invokestatic 244, 3) := by decide +kernel
theorem dL_groups_163 : decode cL_groups 163 = .ok (.if_icmp .ne 19, 3) := by decide +kernel
theorem dL_groups_166 : decode cL_groups 166 = .ok (.aload_n 0, 1) := by decide +kernel
theorem dL_groups_167 : decode cL_groups 167 = .ok (.iload_n 2, 1) := by decide +kernel
theorem dL_groups_168 : decode cL_groups 168 = .ok (.iload 6, 2) := by decide +kernel
theorem dL_groups_170 : decode cL_groups 170 = .ok (.invokevirtual 247, 3) := by decide +kernel
theorem dL_groups_173 : decode cL_groups 173 = .ok (.aload_n 3, 1) := by decide +kernel
theorem dL_groups_174 : decode cL_groups 174 = .ok (.iload 6, 2) := by decide +kernel
theorem dL_groups_176 : decode cL_groups 176 = .ok (.invokestatic 250, 3) := by decide +kernel
theorem dL_groups_179 : decode cL_groups 179 = .ok (.if_icmp .eq 5, 3) := by decide +kernel
theorem dL_groups_182 : decode cL_groups 182 = .ok (.iconst 0, 1) := by decide +kernel
theorem dL_groups_183 : decode cL_groups 183 = .ok (.ireturn, 1) := by decide +kernel
theorem dL_groups_184 : decode cL_groups 184 = .ok (.iinc 6 1, 3) := by decide +kernel
theorem dL_groups_187 : decode cL_groups 187 = .ok (.goto (-155), 3) := by decide +kernel
theorem dL_groups_190 : decode cL_groups 190 = .ok (.aload_n 0, 1) := by decide +kernel
theorem dL_groups_191 : decode cL_groups 191 = .ok (.iload_n 2, 1) := by decide +kernel
theorem dL_groups_192 : decode cL_groups 192 = .ok (.invokevirtual 253, 3) := by decide +kernel
theorem dL_groups_195 : decode cL_groups 195 = .ok (.aload_n 3, 1) := by decide +kernel
theorem dL_groups_196 : decode cL_groups 196 = .ok (.arraylength, 1) := by decide +kernel
theorem dL_groups_197 : decode cL_groups 197 = .ok (.if_icmp .ne 61, 3) := by decide +kernel
theorem dL_groups_200 : decode cL_groups 200 = .ok (.aload_n 0, 1) := by decide +kernel
theorem dL_groups_201 : decode cL_groups 201 = .ok (.iload_n 2, 1) := by decide +kernel
theorem dL_groups_202 : decode cL_groups 202 = .ok (.invokevirtual 256, 3) := by decide +kernel
theorem dL_groups_205 : decode cL_groups 205 = .ok (.iload 4, 2) := by decide +kernel
theorem dL_groups_207 : decode cL_groups 207 = .ok (.if_icmp .ne 51, 3) := by decide +kernel
theorem dL_groups_210 : decode cL_groups 210 = .ok (.aload_n 0, 1) := by decide +kernel
theorem dL_groups_211 : decode cL_groups 211 = .ok (.iconst 0, 1) := by decide +kernel
theorem dL_groups_212 : decode cL_groups 212 = .ok (.iload_n 2, 1) := by decide +kernel
theorem dL_groups_213 : decode cL_groups 213 = .ok (.iconst 0, 1) := by decide +kernel
theorem dL_groups_214 : decode cL_groups 214 = .ok (.invokevirtual 36, 3) := by decide +kernel
theorem dL_groups_217 : decode cL_groups 217 = .ok (.bipush 103, 2) := by decide +kernel
theorem dL_groups_219 : decode cL_groups 219 = .ok (.if_icmp .ne 39, 3) := by decide +kernel
theorem dL_groups_222 : decode cL_groups 222 = .ok (.aload_n 0, 1) := by decide +kernel
theorem dL_groups_223 : decode cL_groups 223 = .ok (.iconst 0, 1) := by decide +kernel
theorem dL_groups_224 : decode cL_groups 224 = .ok (.iload_n 2, 1) := by decide +kernel
theorem dL_groups_225 : decode cL_groups 225 = .ok (.iconst 1, 1) := by decide +kernel
theorem dL_groups_226 : decode cL_groups 226 = .ok (.invokevirtual 36, 3) := by decide +kernel
theorem dL_groups_229 : decode cL_groups 229 = .ok (.bipush 97, 2) := by decide +kernel
theorem dL_groups_231 : decode cL_groups 231 = .ok (.iload_n 2, 1) := by decide +kernel
theorem dL_groups_232 : decode cL_groups 232 = .ok (.iadd, 1) := by decide +kernel
theorem dL_groups_233 : decode cL_groups 233 = .ok (.if_icmp .ne 25, 3) := by decide +kernel
theorem dL_groups_236 : decode cL_groups 236 = .ok (.aload_n 0, 1) := by decide +kernel
theorem dL_groups_237 : decode cL_groups 237 = .ok (.iload_n 2, 1) := by decide +kernel
theorem dL_groups_238 : decode cL_groups 238 = .ok (.invokevirtual 259, 3) := by decide +kernel
theorem dL_groups_241 : decode cL_groups 241 = .ok (.aload 5, 2) := by decide +kernel
theorem dL_groups_243 : decode cL_groups 243 = .ok (.invokevirtual 226, 3) := by decide +kernel
theorem dL_groups_246 : decode cL_groups 246 = .ok (.if_icmp .ne 12, 3) := by decide +kernel
theorem dL_groups_249 : decode cL_groups 249 = .ok (.aload_n 0, 1) := by decide +kernel
theorem dL_groups_250 : decode cL_groups 250 = .ok (.aload 5, 2) := by decide +kernel
theorem dL_groups_252 : decode cL_groups 252 = .ok (.invokestatic 262, 3) := by decide +kernel
theorem dL_groups_255 : decode cL_groups 255 = .ok (.ifCond .ne 5, 3) := by decide +kernel
theorem dL_groups_258 : decode cL_groups 258 = .ok (.iconst 0, 1) := by decide +kernel
theorem dL_groups_259 : decode cL_groups 259 = .ok (.ireturn, 1) := by decide +kernel
theorem dL_groups_260 : decode cL_groups 260 = .ok (.aload_n 0, 1) := by decide +kernel
theorem dL_groups_261 : decode cL_groups 261 = .ok (.iconst 2, 1) := by decide +kernel
theorem dL_groups_262 : decode cL_groups 262 = .ok (.iload_n 2, 1) := by decide +kernel
theorem dL_groups_263 : decode cL_groups 263 = .ok (.aload_n 3, 1) := by decide +kernel
theorem dL_groups_264 : decode cL_groups 264 = .ok (.arraylength, 1) := by decide +kernel
theorem dL_groups_265 : decode cL_groups 265 = .ok (.iconst 0, 1) := by decide +kernel
theorem dL_groups_266 : decode cL_groups 266 = .ok (.iconst 0, 1) := by decide +kernel
theorem dL_groups_267 : decode cL_groups 267 = .ok (.invokestatic 205, 3) := by decide +kernel
theorem dL_groups_270 : decode cL_groups 270 = .ok (.iconst 2, 1) := by decide +kernel
theorem dL_groups_271 : decode cL_groups 271 = .ok (.if_icmp .ne 32, 3) := by decide +kernel
theorem dL_groups_274 : decode cL_groups 274 = .ok (.aload_n 0, 1) := by decide +kernel
theorem dL_groups_275 : decode cL_groups 275 = .ok (.iconst 3, 1) := by decide +kernel
theorem dL_groups_276 : decode cL_groups 276 = .ok (.iload_n 2, 1) := by decide +kernel
theorem dL_groups_277 : decode cL_groups 277 = .ok (.iconst 1, 1) := by decide +kernel
theorem dL_groups_278 : decode cL_groups 278 = .ok (.aload_n 3, 1) := by decide +kernel
theorem dL_groups_279 : decode cL_groups 279 = .ok (.arraylength, 1) := by decide +kernel
theorem dL_groups_280 : decode cL_groups 280 = .ok (.ishl, 1) := by decide +kernel
theorem dL_groups_281 : decode cL_groups 281 = .ok (.iconst 0, 1) := by decide +kernel
theorem dL_groups_282 : decode cL_groups 282 = .ok (.iconst 0, 1) := by decide +kernel
theorem dL_groups_283 : decode cL_groups 283 = .ok (.invokestatic 205, 3) := by decide +kernel
theorem dL_groups_286 : decode cL_groups 286 = .ok (.iconst 3, 1) := by decide +kernel
theorem dL_groups_287 : decode cL_groups 287 = .ok (.if_icmp .ne 16, 3) := by decide +kernel
theorem dL_groups_290 : decode cL_groups 290 = .ok (.aload_n 0, 1) := by decide +kernel
theorem dL_groups_291 : decode cL_groups 291 = .ok (.iconst 1, 1) := by decide +kernel
theorem dL_groups_292 : decode cL_groups 292 = .ok (.iconst 0, 1) := by decide +kernel
theorem dL_groups_293 : decode cL_groups 293 = .ok (.iload_n 2, 1) := by decide +kernel
theorem dL_groups_294 : decode cL_groups 294 = .ok (.iconst 2, 1) := by decide +kernel
theorem dL_groups_295 : decode cL_groups 295 = .ok (.iconst 0, 1) := by decide +kernel
theorem dL_groups_296 : decode cL_groups 296 = .ok (.invokestatic 205, 3) := by decide +kernel
theorem dL_groups_299 : decode cL_groups 299 = .ok (.iconst 2, 1) := by decide +kernel
theorem dL_groups_300 : decode cL_groups 300 = .ok (.if_icmp .eq 5, 3) := by decide +kernel
theorem dL_groups_303 : decode cL_groups 303 = .ok (.iconst 0, 1) := by decide +kernel
theorem dL_groups_304 : decode cL_groups 304 = .ok (.ireturn, 1) := by decide +kernel
theorem dL_groups_305 : decode cL_groups 305 = .ok (.iinc 2 1, 3) := by decide +kernel
theorem dL_groups_308 : decode cL_groups 308 = .ok (.goto (-306), 3) := by decide +kernel
theorem dL_groups_311 : decode cL_groups 311 = .ok (.iconst 1, 1) := by decide +kernel
theorem dL_groups_312 : decode cL_groups 312 = .ok (.ireturn, 1) := by decide +kernel
theorem dL_modules_0 : decode cL_modules 0 = .ok (.iconst 0, 1) := by decide +kernel
theorem dL_modules_1 : decode cL_modules 1 = .ok (.istore_n 2, 1) := by decide +kernel
theorem dL_modules_2 : decode cL_modules 2 = .ok (.iconst 0, 1) := by decide +kernel
theorem dL_modules_3 : decode cL_modules 3 = .ok (.istore_n 3, 1) := by decide +kernel
theorem dL_modules_4 : decode cL_modules 4 = .ok (.iload_n 3, 1) := by decide +kernel
theorem dL_modules_5 : decode cL_modules 5 = .ok (.aload_n 1, 1) := by decide +kernel
theorem dL_modules_6 : decode cL_modules 6 = .ok (.getfield 162, 3) := by decide +kernel
theorem dL_modules_9 : decode cL_modules 9 = .ok (.if_icmp .ge 430, 3) := by decide +kernel
theorem dL_modules_12 : decode cL_modules 12 = .ok (.aload_n 1, 1) := by decide +kernel
theorem dL_modules_13 : decode cL_modules 13 = .ok (.getfield 172, 3) := by decide +kernel
theorem dL_modules_16 : decode cL_modules 16 = .ok (.iload_n 3, 1) := by decide +kernel
theorem dL_modules_17 : decode cL_modules 17 = .ok (.aaload, 1) := by decide +kernel
theorem dL_modules_18 : decode cL_modules 18 = .ok (.astore 4, 2) := by decide +kernel
theorem dL_modules_20 : decode cL_modules 20 = .ok (.aload 4, 2) := by decide +kernel
theorem dL_modules_22 : decode cL_modules 22 = .ok (.invokevirtual 215, 3) := by decide +kernel
theorem dL_modules_25 : decode cL_modules 25 = .ok (.istore 5, 2) := by decide +kernel
theorem dL_modules_27 : decode cL_modules 27 = .ok (.new 227, 3) := by decide +kernel
theorem dL_modules_30 : decode cL_modules 30 = .ok (.dup, 1) := by decide +kernel
theorem dL_modules_31 : decode cL_modules 31 = .ok (.ldc_w 266, 3) := by decide +kernel
theorem dL_modules_34 : decode cL_modules 34 = .ok (.invokespecial 268, 3) := by decide +kernel
theorem dL_modules_37 : decode cL_modules 37 = .ok (.bipush 97, 2) := by decide +kernel
theorem dL_modules_39 : decode cL_modules 39 = .ok (.iload_n 3, 1) := by decide +kernel
theorem dL_modules_40 : decode cL_modules 40 = .ok (.iadd, 1) := by decide +kernel
theorem dL_modules_41 : decode cL_modules 41 = .ok (.i2c, 1) := by decide +kernel
theorem dL_modules_42 : decode cL_modules 42 = .ok (.invokevirtual 235, 3) := by decide +kernel
theorem dL_modules_45 : decode cL_modules 45 = .ok (.astore 6, 2) := by decide +kernel
theorem dL_modules_47 : decode cL_modules 47 = .ok (.iconst 0, 1) := by decide +kernel
theorem dL_modules_48 : decode cL_modules 48 = .ok (.istore 7, 2) := by decide +kernel
theorem dL_modules_50 : decode cL_modules 50 = .ok (.iload 7, 2) := by decide +kernel
theorem dL_modules_52 : decode cL_modules 52 = .ok (.aload 4, 2) := by decide +kernel
theorem dL_modules_54 : decode cL_modules 54 = .ok (.getfield 176, 3) := by decide +kernel
theorem dL_modules_57 : decode cL_modules 57 = .ok (.arraylength, 1) := by decide +kernel
theorem dL_modules_58 : decode cL_modules 58 = .ok (.if_icmp .ge 137, 3) := by decide +kernel
theorem dL_modules_61 : decode cL_modules 61 = .ok (.iconst 0, 1) := by decide +kernel
theorem dL_modules_62 : decode cL_modules 62 = .ok (.istore 8, 2) := by decide +kernel
theorem dL_modules_64 : decode cL_modules 64 = .ok (.iconst 0, 1) := by decide +kernel
theorem dL_modules_65 : decode cL_modules 65 = .ok (.istore 9, 2) := by decide +kernel
theorem dL_modules_67 : decode cL_modules 67 = .ok (.aload 6, 2) := by decide +kernel
theorem dL_modules_69 : decode cL_modules 69 = .ok (.iload 7, 2) := by decide +kernel
theorem dL_modules_71 : decode cL_modules 71 = .ok (.ifCond .ne 8, 3) := by decide +kernel
theorem dL_modules_74 : decode cL_modules 74 = .ok (.bipush 58, 2) := by decide +kernel
theorem dL_modules_76 : decode cL_modules 76 = .ok (.goto 5, 3) := by decide +kernel
theorem dL_modules_79 : decode cL_modules 79 = .ok (.bipush 44, 2) := by decide +kernel
theorem dL_modules_81 : decode cL_modules 81 = .ok (.invokevirtual 235, 3) := by decide +kernel
theorem dL_modules_84 : decode cL_modules 84 = .ok (.aload 4, 2) := by decide +kernel
theorem dL_modules_86 : decode cL_modules 86 = .ok (.getfield 176, 3) := by decide +kernel
theorem dL_modules_89 : decode cL_modules 89 = .ok (.iload 7, 2) := by decide +kernel
theorem dL_modules_91 : decode cL_modules 91 = .ok (.iaload, 1) := by decide +kernel
theorem dL_modules_92 : decode cL_modules 92 = .ok (.invokevirtual 238, 3) := by decide +kernel
theorem dL_modules_95 : decode cL_modules 95 = .ok (.pop, 1) := by decide +kernel
theorem dL_modules_96 : decode cL_modules 96 = .ok (.iconst 0, 1) := by decide +kernel
theorem dL_modules_97 : decode cL_modules 97 = .ok (.istore 10, 2) := by decide +kernel
theorem dL_modules_99 : decode cL_modules 99 = .ok (.iload 10, 2) := by decide +kernel
theorem dL_modules_101 : decode cL_modules 101 = .ok (.aload 4, 2) := by decide +kernel
theorem dL_modules_103 : decode cL_modules 103 = .ok (.getfield 180, 3) := by decide +kernel
theorem dL_modules_106 : decode cL_modules 106 = .ok (.arraylength, 1) := by decide +kernel
theorem dL_modules_107 : decode cL_modules 107 = .ok (.if_icmp .ge 56, 3) := by decide +kernel
theorem dL_modules_110 : decode cL_modules 110 = .ok (.iload 8, 2) := by decide +kernel
theorem dL_modules_112 : decode cL_modules 112 = .ok (.aload 4, 2) := by decide +kernel
theorem dL_modules_114 : decode cL_modules 114 = .ok (.getfield 180, 3) := by decide +kernel
theorem dL_modules_117 : decode cL_modules 117 = .ok (.iload 10, 2) := by decide +kernel
theorem dL_modules_119 : decode cL_modules 119 = .ok (.aaload, 1) := by decide +kernel
theorem dL_modules_120 : decode cL_modules 120 = .ok (.iload 7, 2) := by decide +kernel
theorem dL_modules_122 : decode cL_modules 122 = .ok (.iaload, 1) := by decide +kernel
theorem dL_modules_123 : decode cL_modules 123 = .ok (.iload 7, 2) := by decide +kernel
theorem dL_modules_125 : decode cL_modules 125 = .ok (.if_icmp .ne 10, 3) := by decide +kernel
theorem dL_modules_128 : decode cL_modules 128 = .ok (.iconst 1, 1) := by decide +kernel
theorem dL_modules_129 : decode cL_modules 129 = .ok (.iload 10, 2) := by decide +kernel
theorem dL_modules_131 : decode cL_modules 131 = .ok (.ishl, 1) := by decide +kernel
theorem dL_modules_132 : decode cL_modules 132 = .ok (.goto 4, 3) := by decide +kernel
theorem dL_modules_135 : decode cL_modules 135 = .ok (.iconst 0, 1) := by decide +kernel
theorem dL_modules_136 : decode cL_modules 136 = .ok (.ior, 1) := by decide +kernel
theorem dL_modules_137 : decode cL_modules 137 = .ok (.istore 8, 2) := by decide +kernel
theorem dL_modules_139 : decode cL_modules 139 = .ok (.iload 9, 2) := by decide +kernel
theorem dL_modules_141 : decode cL_modules 141 = .ok (.iconst 1, 1) := by decide +kernel
theorem dL_modules_142 : decode cL_modules 142 = .ok (.aload 4, 2) := by decide +kernel
theorem dL_modules_144 : decode cL_modules 144 = .ok (.getfield 180, 3) := by decide +kernel
theorem dL_modules_147 : decode cL_modules 147 = .ok (.iload 10, 2) := by decide +kernel
theorem dL_modules_149 : decode cL_modules 149 = .ok (.aaload, 1) := by decide +kernel
theorem dL_modules_150 : decode cL_modules 150 = .ok (.iload 7, 2) := by decide +kernel
theorem dL_modules_152 : decode cL_modules 152 = .ok (.iaload, 1) := by decide +kernel
theorem dL_modules_153 : decode cL_modules 153 = .ok (.ishl, 1) := by decide +kernel
theorem dL_modules_154 : decode cL_modules 154 = .ok (.ior, 1) := by decide +kernel
theorem dL_modules_155 : decode cL_modules 155 = .ok (.istore 9, 2) := by decide +kernel
theorem dL_modules_157 : decode cL_modules 157 = .ok (.iinc 10 1, 3) := by decide +kernel
theorem dL_modules_160 : decode cL_modules 160 = .ok (.goto (-61), 3) := by decide +kernel
theorem dL_modules_163 : decode cL_modules 163 = .ok (.aload_n 0, 1) := by decide +kernel
theorem dL_modules_164 : decode cL_modules 164 = .ok (.iload_n 3, 1) := by decide +kernel
theorem dL_modules_165 : decode cL_modules 165 = .ok (.iload 7, 2) := by decide +kernel
theorem dL_modules_167 : decode cL_modules 167 = .ok (.invokevirtual 271, 3) := by decide +kernel
theorem dL_modules_170 : decode cL_modules 170 = .ok (.iload 8, 2) := by decide +kernel
theorem dL_modules_172 : decode cL_modules 172 = .ok (.if_icmp .ne 15, 3) := by decide +kernel
theorem dL_modules_175 : decode cL_modules 175 = .ok (.aload_n 0, 1) := by decide +kernel
theorem dL_modules_176 : decode cL_modules 176 = .ok (.iload_n 3, 1) := by decide +kernel
theorem dL_modules_177 : decode cL_modules 177 = .ok (.iload 7, 2) := by decide +kernel
theorem dL_modules_179 : decode cL_modules 179 = .ok (.invokevirtual 274, 3) := by decide +kernel
theorem dL_modules_182 : decode cL_modules 182 = .ok (.iload 9, 2) := by decide +kernel
theorem dL_modules_184 : decode cL_modules 184 = .ok (.if_icmp .eq 5, 3) := by decide +kernel
theorem dL_modules_187 : decode cL_modules 187 = .ok (.iconst 0, 1) := by decide +kernel
theorem dL_modules_188 : decode cL_modules 188 = .ok (.ireturn, 1) := by decide +kernel
theorem dL_modules_189 : decode cL_modules 189 = .ok (.iinc 7 1, 3) := by decide +kernel
theorem dL_modules_192 : decode cL_modules 192 = .ok (.goto (-142), 3) := by decide +kernel
theorem dL_modules_195 : decode cL_modules 195 = .ok (.iload 5, 2) := by decide +kernel
theorem dL_modules_197 : decode cL_modules 197 = .ok (.ifCond .le 16, 3) := by decide +kernel
theorem dL_modules_200 : decode cL_modules 200 = .ok (.aload 6, 2) := by decide +kernel
theorem dL_modules_202 : decode cL_modules 202 = .ok (.bipush 59, 2) := by decide +kernel
theorem dL_modules_204 : decode cL_modules 204 = .ok (.invokevirtual 235, 3) := by decide +kernel
theorem dL_modules_207 : decode cL_modules 207 = .ok (.iload 5, 2) := by decide +kernel
theorem dL_modules_209 : decode cL_modules 209 = .ok (.invokevirtual 238, 3) := by decide +kernel
theorem dL_modules_212 : decode cL_modules 212 = .ok (.pop, 1) := by decide +kernel
theorem dL_modules_213 : decode cL_modules 213 = .ok (.aload_n 0, 1) := by decide +kernel
theorem dL_modules_214 : decode cL_modules 214 = .ok (.iload_n 3, 1) := by decide +kernel
theorem dL_modules_215 : decode cL_modules 215 = .ok (.invokevirtual 53, 3) := by decide +kernel
theorem dL_modules_218 : decode cL_modules 218 = .ok (.iload 5, 2) := by decide +kernel
theorem dL_modules_220 : decode cL_modules 220 = .ok (.if_icmp .ne 79, 3) := by decide +kernel
theorem dL_modules_223 : decode cL_modules 223 = .ok (.aload_n 0, 1) := by decide +kernel
theorem dL_modules_224 : decode cL_modules 224 = .ok (.iload_n 3, 1) := by decide +kernel
theorem dL_modules_225 : decode cL_modules 225 = .ok (.invokevirtual 277, 3) := by decide +kernel
theorem dL_modules_228 : decode cL_modules 228 = .ok (.aload 4, 2) := by decide +kernel
theorem dL_modules_230 : decode cL_modules 230 = .ok (.invokevirtual 280, 3) := by decide +kernel
theorem dL_modules_233 : decode cL_modules 233 = .ok (.if_icmp .ne 66, 3) := by decide +kernel
theorem dL_modules_236 : decode cL_modules 236 = .ok (.aload_n 0, 1) := by decide +kernel
theorem dL_modules_237 : decode cL_modules 237 = .ok (.iload_n 3, 1) := by decide +kernel
theorem dL_modules_238 : decode cL_modules 238 = .ok (.invokevirtual 282, 3) := by decide +kernel
theorem dL_modules_241 : decode cL_modules 241 = .ok (.aload 4, 2) := by decide +kernel
theorem dL_modules_243 : decode cL_modules 243 = .ok (.invokevirtual 285, 3) := by decide +kernel
theorem dL_modules_246 : decode cL_modules 246 = .ok (.if_icmp .ne 53, 3) := by decide +kernel
theorem dL_modules_249 : decode cL_modules 249 = .ok (.aload_n 0, 1) := by decide +kernel
theorem dL_modules_250 : decode cL_modules 250 = .ok (.iload_n 3, 1) := by decide +kernel
theorem dL_modules_251 : decode cL_modules 251 = .ok (.iconst 0, 1) := by decide +kernel
theorem dL_modules_252 : decode cL_modules 252 = .ok (.invokevirtual 287, 3) := by decide +kernel
theorem dL_modules_255 : decode cL_modules 255 = .ok (.aload 4, 2) := by decide +kernel
theorem dL_modules_257 : decode cL_modules 257 = .ok (.getfield 209, 3) := by decide +kernel
theorem dL_modules_260 : decode cL_modules 260 = .ok (.if_icmp .ne 39, 3) := by decide +kernel
theorem dL_modules_263 : decode cL_modules 263 = .ok (.aload_n 0, 1) := by decide +kernel
theorem dL_modules_264 : decode cL_modules 264 = .ok (.iload_n 3, 1) := by decide +kernel
theorem dL_modules_265 : decode cL_modules 265 = .ok (.iconst 1, 1) := by decide +kernel
theorem dL_modules_266 : decode cL_modules 266 = .ok (.invokevirtual 287, 3) := by decide +kernel
theorem dL_modules_269 : decode cL_modules 269 = .ok (.aload 4, 2) := by decide +kernel
theorem dL_modules_271 : decode cL_modules 271 = .ok (.getfield 212, 3) := by decide +kernel
theorem dL_modules_274 : decode cL_modules 274 = .ok (.if_icmp .ne 25, 3) := by decide +kernel
theorem dL_modules_277 : decode cL_modules 277 = .ok (.aload_n 0, 1) := by decide +kernel
theorem dL_modules_278 : decode cL_modules 278 = .ok (.iload_n 3, 1) := by decide +kernel
theorem dL_modules_279 : decode cL_modules 279 = .ok (.invokevirtual 291, 3) := by decide +kernel
theorem dL_modules_282 : decode cL_modules 282 = .ok (.aload 6, 2) := by decide +kernel
theorem dL_modules_284 : decode cL_modules 284 = .ok (.invokevirtual 226, 3) := by decide +kernel
theorem dL_modules_287 : decode cL_modules 287 = .ok (.if_icmp .ne 12, 3) := by decide +kernel
theorem dL_modules_290 : decode cL_modules 290 = .ok (.aload_n 0, 1) := by decide +kernel
theorem dL_modules_291 : decode cL_modules 291 = .ok (.aload 6, 2) := by decide +kernel
theorem dL_modules_293 : decode cL_modules 293 = .ok (.invokestatic 262, 3) := by decide +kernel
theorem dL_modules_296 : decode cL_modules 296 = .ok (.ifCond .ne 5, 3) := by decide +kernel
theorem dL_modules_299 : decode cL_modules 299 = .ok (.iconst 0, 1) := by decide +kernel
theorem dL_modules_300 : decode cL_modules 300 = .ok (.ireturn, 1) := by decide +kernel
theorem dL_modules_301 : decode cL_modules 301 = .ok (.aload_n 0, 1) := by decide +kernel
theorem dL_modules_302 : decode cL_modules 302 = .ok (.iload_n 3, 1) := by decide +kernel
theorem dL_modules_303 : decode cL_modules 303 = .ok (.invokevirtual 294, 3) := by decide +kernel
theorem dL_modules_306 : decode cL_modules 306 = .ok (.aload 4, 2) := by decide +kernel
theorem dL_modules_308 : decode cL_modules 308 = .ok (.invokevirtual 280, 3) := by decide +kernel
theorem dL_modules_311 : decode cL_modules 311 = .ok (.aload_n 0, 1) := by decide +kernel
theorem dL_modules_312 : decode cL_modules 312 = .ok (.aload 4, 2) := by decide +kernel
theorem dL_modules_314 : decode cL_modules 314 = .ok (.getfield 209, 3) := by decide +kernel
theorem dL_modules_317 : decode cL_modules 317 = .ok (.invokevirtual 256, 3) := by decide +kernel
theorem dL_modules_320 : decode cL_modules 320 = .ok (.iconst (-1), 1) := by decide +kernel
theorem dL_modules_321 : decode cL_modules 321 = .ok (.ixor, 1) := by decide +kernel
theorem dL_modules_322 : decode cL_modules 322 = .ok (.iand, 1) := by decide +kernel
theorem dL_modules_323 : decode cL_modules 323 = .ok (.ifCond .ne 7, 3) := by decide +kernel
theorem dL_modules_326 : decode cL_modules 326 = .ok (.iconst 1, 1) := by decide +kernel
theorem dL_modules_327 : decode cL_modules 327 = .ok (.goto 4, 3) := by decide +kernel
theorem dL_modules_330 : decode cL_modules 330 = .ok (.iconst 0, 1) := by decide +kernel
theorem dL_modules_331 : decode cL_modules 331 = .ok (.if_icmp .eq 5, 3) := by decide +kernel
theorem dL_modules_334 : decode cL_modules 334 = .ok (.iconst 0, 1) := by decide +kernel
theorem dL_modules_335 : decode cL_modules 335 = .ok (.ireturn, 1) := by decide +kernel
theorem dL_modules_336 : decode cL_modules 336 = .ok (.iload 5, 2) := by decide +kernel
theorem dL_modules_338 : decode cL_modules 338 = .ok (.ifCond .ne 15, 3) := by decide +kernel
theorem dL_modules_341 : decode cL_modules 341 = .ok (.aload_n 0, 1) := by decide +kernel
theorem dL_modules_342 : decode cL_modules 342 = .ok (.aload_n 1, 1) := by decide +kernel
theorem dL_modules_343 : decode cL_modules 343 = .ok (.iload_n 3, 1) := by decide +kernel
theorem dL_modules_344 : decode cL_modules 344 = .ok (.invokestatic 298, 3) := by decide +kernel
theorem dL_modules_347 : decode cL_modules 347 = .ok (.ifCond .ne 64, 3) := by decide +kernel
theorem dL_modules_350 : decode cL_modules 350 = .ok (.goto 59, 3) := by decide +kernel
theorem dL_modules_353 : decode cL_modules 353 = .ok (.aload_n 0, 1) := by decide +kernel
theorem dL_modules_354 : decode cL_modules 354 = .ok (.bipush 7, 2) := by decide +kernel
theorem dL_modules_356 : decode cL_modules 356 = .ok (.iload_n 3, 1) := by decide +kernel
theorem dL_modules_357 : decode cL_modules 357 = .ok (.iconst 0, 1) := by decide +kernel
theorem dL_modules_358 : decode cL_modules 358 = .ok (.iconst 0, 1) := by decide +kernel
theorem dL_modules_359 : decode cL_modules 359 = .ok (.iconst 0, 1) := by decide +kernel
theorem dL_modules_360 : decode cL_modules 360 = .ok (.invokestatic 205, 3) := by decide +kernel
theorem dL_modules_363 : decode cL_modules 363 = .ok (.iconst 3, 1) := by decide +kernel
theorem dL_modules_364 : decode cL_modules 364 = .ok (.if_icmp .ne 45, 3) := by decide +kernel
theorem dL_modules_367 : decode cL_modules 367 = .ok (.aload_n 0, 1) := by decide +kernel
theorem dL_modules_368 : decode cL_modules 368 = .ok (.bipush 11, 2) := by decide +kernel
theorem dL_modules_370 : decode cL_modules 370 = .ok (.iload_n 3, 1) := by decide +kernel
theorem dL_modules_371 : decode cL_modules 371 = .ok (.iconst 0, 1) := by decide +kernel
theorem dL_modules_372 : decode cL_modules 372 = .ok (.iconst 1, 1) := by decide +kernel
theorem dL_modules_373 : decode cL_modules 373 = .ok (.iconst 0, 1) := by decide +kernel
theorem dL_modules_374 : decode cL_modules 374 = .ok (.invokestatic 205, 3) := by decide +kernel
theorem dL_modules_377 : decode cL_modules 377 = .ok (.iconst 3, 1) := by decide +kernel
theorem dL_modules_378 : decode cL_modules 378 = .ok (.if_icmp .ne 31, 3) := by decide +kernel
theorem dL_modules_381 : decode cL_modules 381 = .ok (.aload_n 0, 1) := by decide +kernel
theorem dL_modules_382 : decode cL_modules 382 = .ok (.bipush 14, 2) := by decide +kernel
theorem dL_modules_384 : decode cL_modules 384 = .ok (.iload_n 3, 1) := by decide +kernel
theorem dL_modules_385 : decode cL_modules 385 = .ok (.iconst 0, 1) := by decide +kernel
theorem dL_modules_386 : decode cL_modules 386 = .ok (.iconst 0, 1) := by decide +kernel
theorem dL_modules_387 : decode cL_modules 387 = .ok (.iconst 0, 1) := by decide +kernel
theorem dL_modules_388 : decode cL_modules 388 = .ok (.invokestatic 205, 3) := by decide +kernel
theorem dL_modules_391 : decode cL_modules 391 = .ok (.iconst 3, 1) := by decide +kernel
theorem dL_modules_392 : decode cL_modules 392 = .ok (.if_icmp .ne 17, 3) := by decide +kernel
theorem dL_modules_395 : decode cL_modules 395 = .ok (.aload_n 0, 1) := by decide +kernel
theorem dL_modules_396 : decode cL_modules 396 = .ok (.bipush 13, 2) := by decide +kernel
theorem dL_modules_398 : decode cL_modules 398 = .ok (.iload_n 3, 1) := by decide +kernel
theorem dL_modules_399 : decode cL_modules 399 = .ok (.iconst 0, 1) := by decide +kernel
theorem dL_modules_400 : decode cL_modules 400 = .ok (.iconst 0, 1) := by decide +kernel
theorem dL_modules_401 : decode cL_modules 401 = .ok (.iconst 0, 1) := by decide +kernel
theorem dL_modules_402 : decode cL_modules 402 = .ok (.invokestatic 205, 3) := by decide +kernel
theorem dL_modules_405 : decode cL_modules 405 = .ok (.iconst 3, 1) := by decide +kernel
theorem dL_modules_406 : decode cL_modules 406 = .ok (.if_icmp .eq 5, 3) := by decide +kernel
theorem dL_modules_409 : decode cL_modules 409 = .ok (.iconst 0, 1) := by decide +kernel
theorem dL_modules_410 : decode cL_modules 410 = .ok (.ireturn, 1) := by decide +kernel
theorem dL_modules_411 : decode cL_modules 411 = .ok (.iload_n 2, 1) := by decide +kernel
theorem dL_modules_412 : decode cL_modules 412 = .ok (.iload 5, 2) := by decide +kernel
theorem dL_modules_414 : decode cL_modules 414 = .ok (.ifCond .ne 16, 3) := by decide +kernel
theorem dL_modules_417 : decode cL_modules 417 = .ok (.aload_n 1, 1) := by decide +kernel
theorem dL_modules_418 : decode cL_modules 418 = .ok (.iload_n 3, 1) := by decide +kernel
theorem dL_modules_419 : decode cL_modules 419 = .ok (.invokestatic 302, 3) := by decide +kernel
theorem dL_modules_422 : decode cL_modules 422 = .ok (.iload_n 3, 1) := by decide +kernel
theorem dL_modules_423 : decode cL_modules 423 = .ok (.if_icmp .ne 7, 3) := by decide +kernel
theorem dL_modules_426 : decode cL_modules 426 = .ok (.iconst 1, 1) := by decide +kernel
theorem dL_modules_427 : decode cL_modules 427 = .ok (.goto 4, 3) := by decide +kernel
theorem dL_modules_430 : decode cL_modules 430 = .ok (.iconst 0, 1) := by decide +kernel
theorem dL_modules_431 : decode cL_modules 431 = .ok (.iadd, 1) := by decide +kernel
theorem dL_modules_432 : decode cL_modules 432 = .ok (.istore_n 2, 1) := by decide +kernel
theorem dL_modules_433 : decode cL_modules 433 = .ok (.iinc 3 1, 3) := by decide +kernel
theorem dL_modules_436 : decode cL_modules 436 = .ok (.goto (-432), 3) := by decide +kernel
theorem dL_modules_439 : decode cL_modules 439 = .ok (.aload_n 0, 1) := by decide +kernel
theorem dL_modules_440 : decode cL_modules 440 = .ok (.invokevirtual 306, 3) := by decide +kernel
theorem dL_modules_443 : decode cL_modules 443 = .ok (.iload_n 2, 1) := by decide +kernel
theorem dL_modules_444 : decode cL_modules 444 = .ok (.if_icmp .ne 7, 3) := by decide +kernel
theorem dL_modules_447 : decode cL_modules 447 = .ok (.iconst 1, 1) := by decide +kernel
theorem dL_modules_448 : decode cL_modules 448 = .ok (.goto 4, 3) := by decide +kernel
theorem dL_modules_451 : decode cL_modules 451 = .ok (.iconst 0, 1) := by decide +kernel
theorem dL_modules_452 : decode cL_modules 452 = .ok (.ireturn, 1) := by decide +kernel
theorem dL_areLike_0 : decode cL_areLike 0 = .ok (.aload_n 0, 1) := by decide +kernel
theorem dL_areLike_1 : decode cL_areLike 1 = .ok (.invokevirtual 309, 3) := by decide +kernel
theorem dL_areLike_4 : decode cL_areLike 4 = .ok (.astore_n 2, 1) := by decide +kernel
theorem dL_areLike_5 : decode cL_areLike 5 = .ok (.aload_n 1, 1) := by decide +kernel
theorem dL_areLike_6 : decode cL_areLike 6 = .ok (.invokevirtual 309, 3) := by decide +kernel
theorem dL_areLike_9 : decode cL_areLike 9 = .ok (.astore_n 3, 1) := by decide +kernel
theorem dL_areLike_10 : decode cL_areLike 10 = .ok (.iconst 1, 1) := by decide +kernel
theorem dL_areLike_11 : decode cL_areLike 11 = .ok (.istore 4, 2) := by decide +kernel
theorem dL_areLike_13 : decode cL_areLike 13 = .ok (.iconst 0, 1) := by decide +kernel
theorem dL_areLike_14 : decode cL_areLike 14 = .ok (.istore 5, 2) := by decide +kernel
theorem dL_areLike_16 : decode cL_areLike 16 = .ok (.iload 5, 2) := by decide +kernel
theorem dL_areLike_18 : decode cL_areLike 18 = .ok (.bipush 18, 2) := by decide +kernel
theorem dL_areLike_20 : decode cL_areLike 20 = .ok (.if_icmp .ge 30, 3) := by decide +kernel
theorem dL_areLike_23 : decode cL_areLike 23 = .ok (.iload 4, 2) := by decide +kernel
theorem dL_areLike_25 : decode cL_areLike 25 = .ok (.aload_n 2, 1) := by decide +kernel
theorem dL_areLike_26 : decode cL_areLike 26 = .ok (.iload 5, 2) := by decide +kernel
theorem dL_areLike_28 : decode cL_areLike 28 = .ok (.iaload, 1) := by decide +kernel
theorem dL_areLike_29 : decode cL_areLike 29 = .ok (.aload_n 3, 1) := by decide +kernel
theorem dL_areLike_30 : decode cL_areLike 30 = .ok (.iload 5, 2) := by decide +kernel
theorem dL_areLike_32 : decode cL_areLike 32 = .ok (.iaload, 1) := by decide +kernel
theorem dL_areLike_33 : decode cL_areLike 33 = .ok (.if_icmp .ne 7, 3) := by decide +kernel
theorem dL_areLike_36 : decode cL_areLike 36 = .ok (.iconst 1, 1) := by decide +kernel
theorem dL_areLike_37 : decode cL_areLike 37 = .ok (.goto 4, 3) := by decide +kernel
theorem dL_areLike_40 : decode cL_areLike 40 = .ok (.iconst 0, 1) := by decide +kernel
theorem dL_areLike_41 : decode cL_areLike 41 = .ok (.iand, 1) := by decide +kernel
theorem dL_areLike_42 : decode cL_areLike 42 = .ok (.istore 4, 2) := by decide +kernel
theorem dL_areLike_44 : decode cL_areLike 44 = .ok (.iinc 5 1, 3) := by decide +kernel
theorem dL_areLike_47 : decode cL_areLike 47 = .ok (.goto (-31), 3) := by decide +kernel
theorem dL_areLike_50 : decode cL_areLike 50 = .ok (.iload 4, 2) := by decide +kernel
theorem dL_areLike_52 : decode cL_areLike 52 = .ok (.ireturn, 1) := by decide +kernel
theorem dL_like_0 : decode cL_like 0 = .ok (.iconst 0, 1) := by decide +kernel
theorem dL_like_1 : decode cL_like 1 = .ok (.istore_n 2, 1) := by decide +kernel
theorem dL_like_2 : decode cL_like 2 = .ok (.aload_n 0, 1) := by decide +kernel
theorem dL_like_3 : decode cL_like 3 = .ok (.getfield 172, 3) := by decide +kernel
theorem dL_like_6 : decode cL_like 6 = .ok (.iload_n 2, 1) := by decide +kernel
theorem dL_like_7 : decode cL_like 7 = .ok (.aaload, 1) := by decide +kernel
theorem dL_like_8 : decode cL_like 8 = .ok (.invokevirtual 215, 3) := by decide +kernel
theorem dL_like_11 : decode cL_like 11 = .ok (.ifCond .ne 21, 3) := by decide +kernel
theorem dL_like_14 : decode cL_like 14 = .ok (.aload_n 0, 1) := by decide +kernel
theorem dL_like_15 : decode cL_like 15 = .ok (.getfield 172, 3) := by decide +kernel
theorem dL_like_18 : decode cL_like 18 = .ok (.iload_n 2, 1) := by decide +kernel
theorem dL_like_19 : decode cL_like 19 = .ok (.aaload, 1) := by decide +kernel
theorem dL_like_20 : decode cL_like 20 = .ok (.aload_n 0, 1) := by decide +kernel
theorem dL_like_21 : decode cL_like 21 = .ok (.getfield 172, 3) := by decide +kernel
theorem dL_like_24 : decode cL_like 24 = .ok (.iload_n 1, 1) := by decide +kernel
theorem dL_like_25 : decode cL_like 25 = .ok (.aaload, 1) := by decide +kernel
theorem dL_like_26 : decode cL_like 26 = .ok (.invokestatic 313, 3) := by decide +kernel
theorem dL_like_29 : decode cL_like 29 = .ok (.ifCond .ne 9, 3) := by decide +kernel
theorem dL_like_32 : decode cL_like 32 = .ok (.iinc 2 1, 3) := by decide +kernel
theorem dL_like_35 : decode cL_like 35 = .ok (.goto (-33), 3) := by decide +kernel
theorem dL_like_38 : decode cL_like 38 = .ok (.iload_n 2, 1) := by decide +kernel
theorem dL_like_39 : decode cL_like 39 = .ok (.ireturn, 1) := by decide +kernel
theorem dL_pairs_0 : decode cL_pairs 0 = .ok (.aload_n 1, 1) := by decide +kernel
theorem dL_pairs_1 : decode cL_pairs 1 = .ok (.getfield 172, 3) := by decide +kernel
theorem dL_pairs_4 : decode cL_pairs 4 = .ok (.iload_n 2, 1) := by decide +kernel
theorem dL_pairs_5 : decode cL_pairs 5 = .ok (.aaload, 1) := by decide +kernel
theorem dL_pairs_6 : decode cL_pairs 6 = .ok (.astore_n 3, 1) := by decide +kernel
theorem dL_pairs_7 : decode cL_pairs 7 = .ok (.aload_n 3, 1) := by decide +kernel
theorem dL_pairs_8 : decode cL_pairs 8 = .ok (.invokevirtual 317, 3) := by decide +kernel
theorem dL_pairs_11 : decode cL_pairs 11 = .ok (.astore 4, 2) := by decide +kernel
theorem dL_pairs_13 : decode cL_pairs 13 = .ok (.aload_n 3, 1) := by decide +kernel
theorem dL_pairs_14 : decode cL_pairs 14 = .ok (.invokevirtual 309, 3) := by decide +kernel
theorem dL_pairs_17 : decode cL_pairs 17 = .ok (.astore 5, 2) := by decide +kernel
theorem dL_pairs_19 : decode cL_pairs 19 = .ok (.aload_n 3, 1) := by decide +kernel
theorem dL_pairs_20 : decode cL_pairs 20 = .ok (.invokevirtual 319, 3) := by decide +kernel
theorem dL_pairs_23 : decode cL_pairs 23 = .ok (.istore 6, 2) := by decide +kernel
theorem dL_pairs_25 : decode cL_pairs 25 = .ok (.aload_n 0, 1) := by decide +kernel
theorem dL_pairs_26 : decode cL_pairs 26 = .ok (.iload_n 2, 1) := by decide +kernel
theorem dL_pairs_27 : decode cL_pairs 27 = .ok (.invokevirtual 56, 3) := by decide +kernel
theorem dL_pairs_30 : decode cL_pairs 30 = .ok (.iload 6, 2) := by decide +kernel
theorem dL_pairs_32 : decode cL_pairs 32 = .ok (.if_icmp .ne 16, 3) := by decide +kernel
theorem dL_pairs_35 : decode cL_pairs 35 = .ok (.aload_n 0, 1) := by decide +kernel
theorem dL_pairs_36 : decode cL_pairs 36 = .ok (.iload_n 2, 1) := by decide +kernel
theorem dL_pairs_37 : decode cL_pairs 37 = .ok (.invokevirtual 76, 3) := by decide +kernel
theorem dL_pairs_40 : decode cL_pairs 40 = .ok (.aload_n 1, 1) := by decide +kernel
theorem dL_pairs_41 : decode cL_pairs 41 = .ok (.iload_n 2, 1) := by decide +kernel
theorem dL_pairs_42 : decode cL_pairs 42 = .ok (.invokestatic 302, 3) := by decide +kernel
theorem dL_pairs_45 : decode cL_pairs 45 = .ok (.if_icmp .eq 5, 3) := by decide +kernel
theorem dL_pairs_48 : decode cL_pairs 48 = .ok (.iconst 0, 1) := by decide +kernel
theorem dL_pairs_49 : decode cL_pairs 49 = .ok (.ireturn, 1) := by decide +kernel
theorem dL_pairs_50 : decode cL_pairs 50 = .ok (.iconst 0, 1) := by decide +kernel
theorem dL_pairs_51 : decode cL_pairs 51 = .ok (.istore 7, 2) := by decide +kernel
theorem dL_pairs_53 : decode cL_pairs 53 = .ok (.iload 7, 2) := by decide +kernel
theorem dL_pairs_55 : decode cL_pairs 55 = .ok (.aload 4, 2) := by decide +kernel
theorem dL_pairs_57 : decode cL_pairs 57 = .ok (.arraylength, 1) := by decide +kernel
theorem dL_pairs_58 : decode cL_pairs 58 = .ok (.if_icmp .ge 26, 3) := by decide +kernel
theorem dL_pairs_61 : decode cL_pairs 61 = .ok (.aload_n 0, 1) := by decide +kernel
theorem dL_pairs_62 : decode cL_pairs 62 = .ok (.iload_n 2, 1) := by decide +kernel
theorem dL_pairs_63 : decode cL_pairs 63 = .ok (.iload 7, 2) := by decide +kernel
theorem dL_pairs_65 : decode cL_pairs 65 = .ok (.invokevirtual 59, 3) := by decide +kernel
theorem dL_pairs_68 : decode cL_pairs 68 = .ok (.aload 4, 2) := by decide +kernel
theorem dL_pairs_70 : decode cL_pairs 70 = .ok (.iload 7, 2) := by decide +kernel
theorem dL_pairs_72 : decode cL_pairs 72 = .ok (.iaload, 1) := by decide +kernel
theorem dL_pairs_73 : decode cL_pairs 73 = .ok (.if_icmp .eq 5, 3) := by decide +kernel
theorem dL_pairs_76 : decode cL_pairs 76 = .ok (.iconst 0, 1) := by decide +kernel
theorem dL_pairs_77 : decode cL_pairs 77 = .ok (.ireturn, 1) := by decide +kernel
theorem dL_pairs_78 : decode cL_pairs 78 = .ok (.iinc 7 1, 3) := by decide +kernel
theorem dL_pairs_81 : decode cL_pairs 81 = .ok (.goto (-28), 3) := by decide +kernel
theorem dL_pairs_84 : decode cL_pairs 84 = .ok (.iconst 0, 1) := by decide +kernel
theorem dL_pairs_85 : decode cL_pairs 85 = .ok (.istore 7, 2) := by decide +kernel
theorem dL_pairs_87 : decode cL_pairs 87 = .ok (.iload 7, 2) := by decide +kernel
theorem dL_pairs_89 : decode cL_pairs 89 = .ok (.iload 6, 2) := by decide +kernel
theorem dL_pairs_91 : decode cL_pairs 91 = .ok (.if_icmp .ge 136, 3) := by decide +kernel
theorem dL_pairs_94 : decode cL_pairs 94 = .ok (.iconst 0, 1) := by decide +kernel
theorem dL_pairs_95 : decode cL_pairs 95 = .ok (.istore 8, 2) := by decide +kernel
theorem dL_pairs_97 : decode cL_pairs 97 = .ok (.iload 8, 2) := by decide +kernel
theorem dL_pairs_99 : decode cL_pairs 99 = .ok (.iload 6, 2) := by decide +kernel
theorem dL_pairs_101 : decode cL_pairs 101 = .ok (.if_icmp .ge 44, 3) := by decide +kernel
theorem dL_pairs_104 : decode cL_pairs 104 = .ok (.aload_n 0, 1) := by decide +kernel
theorem dL_pairs_105 : decode cL_pairs 105 = .ok (.iload_n 2, 1) := by decide +kernel
theorem dL_pairs_106 : decode cL_pairs 106 = .ok (.iload 7, 2) := by decide +kernel
theorem dL_pairs_108 : decode cL_pairs 108 = .ok (.iload 8, 2) := by decide +kernel
theorem dL_pairs_110 : decode cL_pairs 110 = .ok (.invokevirtual 62, 3) := by decide +kernel
theorem dL_pairs_113 : decode cL_pairs 113 = .ok (.aload 4, 2) := by decide +kernel
theorem dL_pairs_115 : decode cL_pairs 115 = .ok (.aload_n 3, 1) := by decide +kernel
theorem dL_pairs_116 : decode cL_pairs 116 = .ok (.getfield 321, 3) := by decide +kernel
theorem dL_pairs_119 : decode cL_pairs 119 = .ok (.aload_n 3, 1) := by decide +kernel
theorem dL_pairs_120 : decode cL_pairs 120 = .ok (.iload 7, 2) := by decide +kernel
theorem dL_pairs_122 : decode cL_pairs 122 = .ok (.invokevirtual 324, 3) := by decide +kernel
theorem dL_pairs_125 : decode cL_pairs 125 = .ok (.aaload, 1) := by decide +kernel
theorem dL_pairs_126 : decode cL_pairs 126 = .ok (.aload_n 3, 1) := by decide +kernel
theorem dL_pairs_127 : decode cL_pairs 127 = .ok (.iload 8, 2) := by decide +kernel
theorem dL_pairs_129 : decode cL_pairs 129 = .ok (.invokevirtual 324, 3) := by decide +kernel
theorem dL_pairs_132 : decode cL_pairs 132 = .ok (.iaload, 1) := by decide +kernel
theorem dL_pairs_133 : decode cL_pairs 133 = .ok (.iaload, 1) := by decide +kernel
theorem dL_pairs_134 : decode cL_pairs 134 = .ok (.if_icmp .eq 5, 3) := by decide +kernel
theorem dL_pairs_137 : decode cL_pairs 137 = .ok (.iconst 0, 1) := by decide +kernel
theorem dL_pairs_138 : decode cL_pairs 138 = .ok (.ireturn, 1) := by decide +kernel
theorem dL_pairs_139 : decode cL_pairs 139 = .ok (.iinc 8 1, 3) := by decide +kernel
theorem dL_pairs_142 : decode cL_pairs 142 = .ok (.goto (-45), 3) := by decide +kernel
theorem dL_pairs_145 : decode cL_pairs 145 = .ok (.iconst 0, 1) := by decide +kernel
theorem dL_pairs_146 : decode cL_pairs 146 = .ok (.istore 8, 2) := by decide +kernel
theorem dL_pairs_148 : decode cL_pairs 148 = .ok (.iload 8, 2) := by decide +kernel
theorem dL_pairs_150 : decode cL_pairs 150 = .ok (.aload_n 3, 1) := by decide +kernel
theorem dL_pairs_151 : decode cL_pairs 151 = .ok (.getfield 176, 3) := by decide +kernel
theorem dL_pairs_154 : decode cL_pairs 154 = .ok (.arraylength, 1) := by decide +kernel
theorem dL_pairs_155 : decode cL_pairs 155 = .ok (.if_icmp .ge 66, 3) := by decide +kernel
theorem dL_pairs_158 : decode cL_pairs 158 = .ok (.aload_n 3, 1) := by decide +kernel
theorem dL_pairs_159 : decode cL_pairs 159 = .ok (.getfield 176, 3) := by decide +kernel
theorem dL_pairs_162 : decode cL_pairs 162 = .ok (.iload 8, 2) := by decide +kernel
theorem dL_pairs_164 : decode cL_pairs 164 = .ok (.iaload, 1) := by decide +kernel
theorem dL_pairs_165 : decode cL_pairs 165 = .ok (.ifCond .ne 32, 3) := by decide +kernel
theorem dL_pairs_168 : decode cL_pairs 168 = .ok (.aload_n 0, 1) := by decide +kernel
theorem dL_pairs_169 : decode cL_pairs 169 = .ok (.iload_n 2, 1) := by decide +kernel
theorem dL_pairs_170 : decode cL_pairs 170 = .ok (.iload 7, 2) := by decide +kernel
theorem dL_pairs_172 : decode cL_pairs 172 = .ok (.iload 8, 2) := by decide +kernel
theorem dL_pairs_174 : decode cL_pairs 174 = .ok (.invokevirtual 65, 3) := by decide +kernel
theorem dL_pairs_177 : decode cL_pairs 177 = .ok (.aload_n 3, 1) := by decide +kernel
theorem dL_pairs_178 : decode cL_pairs 178 = .ok (.getfield 180, 3) := by decide +kernel
theorem dL_pairs_181 : decode cL_pairs 181 = .ok (.aload_n 3, 1) := by decide +kernel
theorem dL_pairs_182 : decode cL_pairs 182 = .ok (.iload 7, 2) := by decide +kernel
theorem dL_pairs_184 : decode cL_pairs 184 = .ok (.invokevirtual 324, 3) := by decide +kernel
theorem dL_pairs_187 : decode cL_pairs 187 = .ok (.aaload, 1) := by decide +kernel
theorem dL_pairs_188 : decode cL_pairs 188 = .ok (.iload 8, 2) := by decide +kernel
theorem dL_pairs_190 : decode cL_pairs 190 = .ok (.iaload, 1) := by decide +kernel
theorem dL_pairs_191 : decode cL_pairs 191 = .ok (.if_icmp .eq 24, 3) := by decide +kernel
theorem dL_pairs_194 : decode cL_pairs 194 = .ok (.goto 19, 3) := by decide +kernel
theorem dL_pairs_197 : decode cL_pairs 197 = .ok (.aload_n 0, 1) := by decide +kernel
theorem dL_pairs_198 : decode cL_pairs 198 = .ok (.bipush 10, 2) := by decide +kernel
theorem dL_pairs_200 : decode cL_pairs 200 = .ok (.iload_n 2, 1) := by decide +kernel
theorem dL_pairs_201 : decode cL_pairs 201 = .ok (.iload 7, 2) := by decide +kernel
theorem dL_pairs_203 : decode cL_pairs 203 = .ok (.iload 8, 2) := by decide +kernel
theorem dL_pairs_205 : decode cL_pairs 205 = .ok (.iconst 0, 1) := by decide +kernel
theorem dL_pairs_206 : decode cL_pairs 206 = .ok (.invokestatic 205, 3) := by decide +kernel
theorem dL_pairs_209 : decode cL_pairs 209 = .ok (.iconst 3, 1) := by decide +kernel
theorem dL_pairs_210 : decode cL_pairs 210 = .ok (.if_icmp .eq 5, 3) := by decide +kernel
theorem dL_pairs_213 : decode cL_pairs 213 = .ok (.iconst 0, 1) := by decide +kernel
theorem dL_pairs_214 : decode cL_pairs 214 = .ok (.ireturn, 1) := by decide +kernel
theorem dL_pairs_215 : decode cL_pairs 215 = .ok (.iinc 8 1, 3) := by decide +kernel
theorem dL_pairs_218 : decode cL_pairs 218 = .ok (.goto (-70), 3) := by decide +kernel
theorem dL_pairs_221 : decode cL_pairs 221 = .ok (.iinc 7 1, 3) := by decide +kernel
theorem dL_pairs_224 : decode cL_pairs 224 = .ok (.goto (-137), 3) := by decide +kernel
theorem dL_pairs_227 : decode cL_pairs 227 = .ok (.iconst 1, 1) := by decide +kernel
theorem dL_pairs_228 : decode cL_pairs 228 = .ok (.istore 7, 2) := by decide +kernel
theorem dL_pairs_230 : decode cL_pairs 230 = .ok (.iload 7, 2) := by decide +kernel
theorem dL_pairs_232 : decode cL_pairs 232 = .ok (.bipush 9, 2) := by decide +kernel
theorem dL_pairs_234 : decode cL_pairs 234 = .ok (.if_icmp .ge 46, 3) := by decide +kernel
theorem dL_pairs_237 : decode cL_pairs 237 = .ok (.aload_n 0, 1) := by decide +kernel
theorem dL_pairs_238 : decode cL_pairs 238 = .ok (.iload_n 2, 1) := by decide +kernel
theorem dL_pairs_239 : decode cL_pairs 239 = .ok (.iconst 0, 1) := by decide +kernel
theorem dL_pairs_240 : decode cL_pairs 240 = .ok (.iload 7, 2) := by decide +kernel
theorem dL_pairs_242 : decode cL_pairs 242 = .ok (.invokevirtual 68, 3) := by decide +kernel
theorem dL_pairs_245 : decode cL_pairs 245 = .ok (.aload 5, 2) := by decide +kernel
theorem dL_pairs_247 : decode cL_pairs 247 = .ok (.iload 7, 2) := by decide +kernel
theorem dL_pairs_249 : decode cL_pairs 249 = .ok (.iaload, 1) := by decide +kernel
theorem dL_pairs_250 : decode cL_pairs 250 = .ok (.if_icmp .ne 22, 3) := by decide +kernel
theorem dL_pairs_253 : decode cL_pairs 253 = .ok (.aload_n 0, 1) := by decide +kernel
theorem dL_pairs_254 : decode cL_pairs 254 = .ok (.iload_n 2, 1) := by decide +kernel
theorem dL_pairs_255 : decode cL_pairs 255 = .ok (.iconst 1, 1) := by decide +kernel
theorem dL_pairs_256 : decode cL_pairs 256 = .ok (.iload 7, 2) := by decide +kernel
theorem dL_pairs_258 : decode cL_pairs 258 = .ok (.invokevirtual 68, 3) := by decide +kernel
theorem dL_pairs_261 : decode cL_pairs 261 = .ok (.aload 5, 2) := by decide +kernel
theorem dL_pairs_263 : decode cL_pairs 263 = .ok (.bipush 9, 2) := by decide +kernel
theorem dL_pairs_265 : decode cL_pairs 265 = .ok (.iload 7, 2) := by decide +kernel
theorem dL_pairs_267 : decode cL_pairs 267 = .ok (.iadd, 1) := by decide +kernel
theorem dL_pairs_268 : decode cL_pairs 268 = .ok (.iaload, 1) := by decide +kernel
theorem dL_pairs_269 : decode cL_pairs 269 = .ok (.if_icmp .eq 5, 3) := by decide +kernel
theorem dL_pairs_272 : decode cL_pairs 272 = .ok (.iconst 0, 1) := by decide +kernel
theorem dL_pairs_273 : decode cL_pairs 273 = .ok (.ireturn, 1) := by decide +kernel
theorem dL_pairs_274 : decode cL_pairs 274 = .ok (.iinc 7 1, 3) := by decide +kernel
theorem dL_pairs_277 : decode cL_pairs 277 = .ok (.goto (-47), 3) := by decide +kernel
theorem dL_pairs_280 : decode cL_pairs 280 = .ok (.aload_n 0, 1) := by decide +kernel
theorem dL_pairs_281 : decode cL_pairs 281 = .ok (.bipush 9, 2) := by decide +kernel
theorem dL_pairs_283 : decode cL_pairs 283 = .ok (.iload_n 2, 1) := by decide +kernel
theorem dL_pairs_284 : decode cL_pairs 284 = .ok (.iload 6, 2) := by decide +kernel
theorem dL_pairs_286 : decode cL_pairs 286 = .ok (.iconst 0, 1) := by decide +kernel
theorem dL_pairs_287 : decode cL_pairs 287 = .ok (.iconst 0, 1) := by decide +kernel
theorem dL_pairs_288 : decode cL_pairs 288 = .ok (.invokestatic 205, 3) := by decide +kernel
theorem dL_pairs_291 : decode cL_pairs 291 = .ok (.iconst 3, 1) := by decide +kernel
theorem dL_pairs_292 : decode cL_pairs 292 = .ok (.if_icmp .ne 38, 3) := by decide +kernel
theorem dL_pairs_295 : decode cL_pairs 295 = .ok (.aload_n 0, 1) := by decide +kernel
theorem dL_pairs_296 : decode cL_pairs 296 = .ok (.bipush 11, 2) := by decide +kernel
theorem dL_pairs_298 : decode cL_pairs 298 = .ok (.iload_n 2, 1) := by decide +kernel
theorem dL_pairs_299 : decode cL_pairs 299 = .ok (.iconst 0, 1) := by decide +kernel
theorem dL_pairs_300 : decode cL_pairs 300 = .ok (.bipush 9, 2) := by decide +kernel
theorem dL_pairs_302 : decode cL_pairs 302 = .ok (.iconst 0, 1) := by decide +kernel
theorem dL_pairs_303 : decode cL_pairs 303 = .ok (.invokestatic 205, 3) := by decide +kernel
theorem dL_pairs_306 : decode cL_pairs 306 = .ok (.iconst 3, 1) := by decide +kernel
theorem dL_pairs_307 : decode cL_pairs 307 = .ok (.if_icmp .ne 23, 3) := by decide +kernel
theorem dL_pairs_310 : decode cL_pairs 310 = .ok (.aload_n 0, 1) := by decide +kernel
theorem dL_pairs_311 : decode cL_pairs 311 = .ok (.bipush 8, 2) := by decide +kernel
theorem dL_pairs_313 : decode cL_pairs 313 = .ok (.iload_n 2, 1) := by decide +kernel
theorem dL_pairs_314 : decode cL_pairs 314 = .ok (.aload 4, 2) := by decide +kernel
theorem dL_pairs_316 : decode cL_pairs 316 = .ok (.arraylength, 1) := by decide +kernel
theorem dL_pairs_317 : decode cL_pairs 317 = .ok (.iconst 0, 1) := by decide +kernel
theorem dL_pairs_318 : decode cL_pairs 318 = .ok (.iconst 0, 1) := by decide +kernel
theorem dL_pairs_319 : decode cL_pairs 319 = .ok (.invokestatic 205, 3) := by decide +kernel
theorem dL_pairs_322 : decode cL_pairs 322 = .ok (.iconst 2, 1) := by decide +kernel
theorem dL_pairs_323 : decode cL_pairs 323 = .ok (.if_icmp .ne 7, 3) := by decide +kernel
theorem dL_pairs_326 : decode cL_pairs 326 = .ok (.iconst 1, 1) := by decide +kernel
theorem dL_pairs_327 : decode cL_pairs 327 = .ok (.goto 4, 3) := by decide +kernel
theorem dL_pairs_330 : decode cL_pairs 330 = .ok (.iconst 0, 1) := by decide +kernel
theorem dL_pairs_331 : decode cL_pairs 331 = .ok (.ireturn, 1) := by decide +kernel
theorem dL_law_0 : decode cL_law 0 = .ok (.new 197, 3) := by decide +kernel
theorem dL_law_3 : decode cL_law 3 = .ok (.dup, 1) := by decide +kernel
theorem dL_law_4 : decode cL_law 4 = .ok (.aload_n 0, 1) := by decide +kernel
theorem dL_law_5 : decode cL_law 5 = .ok (.invokespecial 327, 3) := by decide +kernel
theorem dL_law_8 : decode cL_law 8 = .ok (.astore_n 1, 1) := by decide +kernel
theorem dL_law_9 : decode cL_law 9 = .ok (.new 157, 3) := by decide +kernel
theorem dL_law_12 : decode cL_law 12 = .ok (.dup, 1) := by decide +kernel
theorem dL_law_13 : decode cL_law 13 = .ok (.aload_n 1, 1) := by decide +kernel
theorem dL_law_14 : decode cL_law 14 = .ok (.invokespecial 330, 3) := by decide +kernel
theorem dL_law_17 : decode cL_law 17 = .ok (.astore_n 2, 1) := by decide +kernel
theorem dL_law_18 : decode cL_law 18 = .ok (.new 18, 3) := by decide +kernel
theorem dL_law_21 : decode cL_law 21 = .ok (.dup, 1) := by decide +kernel
theorem dL_law_22 : decode cL_law 22 = .ok (.invokespecial 333, 3) := by decide +kernel
theorem dL_law_25 : decode cL_law 25 = .ok (.astore_n 3, 1) := by decide +kernel
theorem dL_law_26 : decode cL_law 26 = .ok (.aload_n 3, 1) := by decide +kernel
theorem dL_law_27 : decode cL_law 27 = .ok (.iconst 0, 1) := by decide +kernel
theorem dL_law_28 : decode cL_law 28 = .ok (.iconst 0, 1) := by decide +kernel
theorem dL_law_29 : decode cL_law 29 = .ok (.iconst 0, 1) := by decide +kernel
theorem dL_law_30 : decode cL_law 30 = .ok (.iconst 0, 1) := by decide +kernel
theorem dL_law_31 : decode cL_law 31 = .ok (.iconst 0, 1) := by decide +kernel
theorem dL_law_32 : decode cL_law 32 = .ok (.invokestatic 205, 3) := by decide +kernel
theorem dL_law_35 : decode cL_law 35 = .ok (.iconst 1, 1) := by decide +kernel
theorem dL_law_36 : decode cL_law 36 = .ok (.if_icmp .ne 52, 3) := by decide +kernel
theorem dL_law_39 : decode cL_law 39 = .ok (.aload_n 3, 1) := by decide +kernel
theorem dL_law_40 : decode cL_law 40 = .ok (.bipush 6, 2) := by decide +kernel
theorem dL_law_42 : decode cL_law 42 = .ok (.iconst 0, 1) := by decide +kernel
theorem dL_law_43 : decode cL_law 43 = .ok (.iconst 0, 1) := by decide +kernel
theorem dL_law_44 : decode cL_law 44 = .ok (.iconst 0, 1) := by decide +kernel
theorem dL_law_45 : decode cL_law 45 = .ok (.iconst 0, 1) := by decide +kernel
theorem dL_law_46 : decode cL_law 46 = .ok (.invokestatic 205, 3) := by decide +kernel
theorem dL_law_49 : decode cL_law 49 = .ok (.iconst 1, 1) := by decide +kernel
theorem dL_law_50 : decode cL_law 50 = .ok (.if_icmp .ne 38, 3) := by decide +kernel
theorem dL_law_53 : decode cL_law 53 = .ok (.aload_n 3, 1) := by decide +kernel
theorem dL_law_54 : decode cL_law 54 = .ok (.bipush 30, 2) := by decide +kernel
theorem dL_law_56 : decode cL_law 56 = .ok (.iconst 0, 1) := by decide +kernel
theorem dL_law_57 : decode cL_law 57 = .ok (.iconst 0, 1) := by decide +kernel
theorem dL_law_58 : decode cL_law 58 = .ok (.iconst 0, 1) := by decide +kernel
theorem dL_law_59 : decode cL_law 59 = .ok (.iconst 0, 1) := by decide +kernel
theorem dL_law_60 : decode cL_law 60 = .ok (.invokestatic 205, 3) := by decide +kernel
theorem dL_law_63 : decode cL_law 63 = .ok (.iconst 1, 1) := by decide +kernel
theorem dL_law_64 : decode cL_law 64 = .ok (.if_icmp .ne 24, 3) := by decide +kernel
theorem dL_law_67 : decode cL_law 67 = .ok (.aload_n 3, 1) := by decide +kernel
theorem dL_law_68 : decode cL_law 68 = .ok (.bipush 23, 2) := by decide +kernel
theorem dL_law_70 : decode cL_law 70 = .ok (.iconst 0, 1) := by decide +kernel
theorem dL_law_71 : decode cL_law 71 = .ok (.iconst 0, 1) := by decide +kernel
theorem dL_law_72 : decode cL_law 72 = .ok (.iconst 0, 1) := by decide +kernel
theorem dL_law_73 : decode cL_law 73 = .ok (.iconst 0, 1) := by decide +kernel
theorem dL_law_74 : decode cL_law 74 = .ok (.invokestatic 205, 3) := by decide +kernel
theorem dL_law_77 : decode cL_law 77 = .ok (.iconst 2, 1) := by decide +kernel
theorem dL_law_78 : decode cL_law 78 = .ok (.if_icmp .ne 10, 3) := by decide +kernel
theorem dL_law_81 : decode cL_law 81 = .ok (.aload_n 3, 1) := by decide +kernel
theorem dL_law_82 : decode cL_law 82 = .ok (.invokevirtual 334, 3) := by decide +kernel
theorem dL_law_85 : decode cL_law 85 = .ok (.ifCond .eq 5, 3) := by decide +kernel
theorem dL_law_88 : decode cL_law 88 = .ok (.iconst 0, 1) := by decide +kernel
theorem dL_law_89 : decode cL_law 89 = .ok (.ireturn, 1) := by decide +kernel
theorem dL_law_90 : decode cL_law 90 = .ok (.aload_n 3, 1) := by decide +kernel
theorem dL_law_91 : decode cL_law 91 = .ok (.aload_n 2, 1) := by decide +kernel
theorem dL_law_92 : decode cL_law 92 = .ok (.getfield 337, 3) := by decide +kernel
theorem dL_law_95 : decode cL_law 95 = .ok (.invokevirtual 341, 3) := by decide +kernel
theorem dL_law_98 : decode cL_law 98 = .ok (.invokestatic 345, 3) := by decide +kernel
theorem dL_law_101 : decode cL_law 101 = .ok (.aload_n 2, 1) := by decide +kernel
theorem dL_law_102 : decode cL_law 102 = .ok (.getfield 162, 3) := by decide +kernel
theorem dL_law_105 : decode cL_law 105 = .ok (.if_icmp .ne 34, 3) := by decide +kernel
theorem dL_law_108 : decode cL_law 108 = .ok (.aload_n 3, 1) := by decide +kernel
theorem dL_law_109 : decode cL_law 109 = .ok (.invokevirtual 349, 3) := by decide +kernel
theorem dL_law_112 : decode cL_law 112 = .ok (.ifCond .ne 27, 3) := by decide +kernel
theorem dL_law_115 : decode cL_law 115 = .ok (.aload_n 3, 1) := by decide +kernel
theorem dL_law_116 : decode cL_law 116 = .ok (.invokevirtual 352, 3) := by decide +kernel
theorem dL_law_119 : decode cL_law 119 = .ok (.iconst (-1), 1) := by decide +kernel
theorem dL_law_120 : decode cL_law 120 = .ok (.if_icmp .ne 19, 3) := by decide +kernel
theorem dL_law_123 : decode cL_law 123 = .ok (.aload_n 3, 1) := by decide +kernel
theorem dL_law_124 : decode cL_law 124 = .ok (.aload_n 2, 1) := by decide +kernel
theorem dL_law_125 : decode cL_law 125 = .ok (.invokestatic 355, 3) := by decide +kernel
theorem dL_law_128 : decode cL_law 128 = .ok (.ifCond .eq 11, 3) := by decide +kernel
theorem dL_law_131 : decode cL_law 131 = .ok (.aload_n 3, 1) := by decide +kernel
theorem dL_law_132 : decode cL_law 132 = .ok (.aload_n 2, 1) := by decide +kernel
theorem dL_law_133 : decode cL_law 133 = .ok (.invokestatic 359, 3) := by decide +kernel
theorem dL_law_136 : decode cL_law 136 = .ok (.ifCond .ne 5, 3) := by decide +kernel
theorem dL_law_139 : decode cL_law 139 = .ok (.iconst 0, 1) := by decide +kernel
theorem dL_law_140 : decode cL_law 140 = .ok (.ireturn, 1) := by decide +kernel
theorem dL_law_141 : decode cL_law 141 = .ok (.aload_n 1, 1) := by decide +kernel
theorem dL_law_142 : decode cL_law 142 = .ok (.iconst 1, 1) := by decide +kernel
theorem dL_law_143 : decode cL_law 143 = .ok (.bipush 6, 2) := by decide +kernel
theorem dL_law_145 : decode cL_law 145 = .ok (.invokevirtual 196, 3) := by decide +kernel
theorem dL_law_148 : decode cL_law 148 = .ok (.istore 4, 2) := by decide +kernel
theorem dL_law_150 : decode cL_law 150 = .ok (.iload 4, 2) := by decide +kernel
theorem dL_law_152 : decode cL_law 152 = .ok (.ifCond .le 45, 3) := by decide +kernel
theorem dL_law_155 : decode cL_law 155 = .ok (.aload_n 3, 1) := by decide +kernel
theorem dL_law_156 : decode cL_law 156 = .ok (.aload_n 2, 1) := by decide +kernel
theorem dL_law_157 : decode cL_law 157 = .ok (.invokestatic 361, 3) := by decide +kernel
theorem dL_law_160 : decode cL_law 160 = .ok (.ifCond .eq 29, 3) := by decide +kernel
theorem dL_law_163 : decode cL_law 163 = .ok (.aload_n 3, 1) := by decide +kernel
theorem dL_law_164 : decode cL_law 164 = .ok (.aload_n 2, 1) := by decide +kernel
theorem dL_law_165 : decode cL_law 165 = .ok (.aload_n 1, 1) := by decide +kernel
theorem dL_law_166 : decode cL_law 166 = .ok (.invokestatic 363, 3) := by decide +kernel
theorem dL_law_169 : decode cL_law 169 = .ok (.ifCond .eq 20, 3) := by decide +kernel
theorem dL_law_172 : decode cL_law 172 = .ok (.aload_n 3, 1) := by decide +kernel
theorem dL_law_173 : decode cL_law 173 = .ok (.aload_n 2, 1) := by decide +kernel
theorem dL_law_174 : decode cL_law 174 = .ok (.aload_n 1, 1) := by decide +kernel
theorem dL_law_175 : decode cL_law 175 = .ok (.invokestatic 363, 3) := by decide +kernel
theorem dL_law_178 : decode cL_law 178 = .ok (.ifCond .eq 11, 3) := by decide +kernel
theorem dL_law_181 : decode cL_law 181 = .ok (.aload_n 3, 1) := by decide +kernel
theorem dL_law_182 : decode cL_law 182 = .ok (.aload_n 2, 1) := by decide +kernel
theorem dL_law_183 : decode cL_law 183 = .ok (.invokestatic 355, 3) := by decide +kernel
theorem dL_law_186 : decode cL_law 186 = .ok (.ifCond .ne 5, 3) := by decide +kernel
theorem dL_law_189 : decode cL_law 189 = .ok (.iconst 0, 1) := by decide +kernel
theorem dL_law_190 : decode cL_law 190 = .ok (.ireturn, 1) := by decide +kernel
theorem dL_law_191 : decode cL_law 191 = .ok (.iinc 4 (-1), 3) := by decide +kernel
theorem dL_law_194 : decode cL_law 194 = .ok (.goto (-44), 3) := by decide +kernel
theorem dL_law_197 : decode cL_law 197 = .ok (.aload_n 3, 1) := by decide +kernel
theorem dL_law_198 : decode cL_law 198 = .ok (.iconst 0, 1) := by decide +kernel
theorem dL_law_199 : decode cL_law 199 = .ok (.iconst 3, 1) := by decide +kernel
theorem dL_law_200 : decode cL_law 200 = .ok (.iconst 0, 1) := by decide +kernel
theorem dL_law_201 : decode cL_law 201 = .ok (.iconst 0, 1) := by decide +kernel
theorem dL_law_202 : decode cL_law 202 = .ok (.iconst 0, 1) := by decide +kernel
theorem dL_law_203 : decode cL_law 203 = .ok (.invokestatic 205, 3) := by decide +kernel
theorem dL_law_206 : decode cL_law 206 = .ok (.iconst 3, 1) := by decide +kernel
theorem dL_law_207 : decode cL_law 207 = .ok (.if_icmp .ne 80, 3) := by decide +kernel
theorem dL_law_210 : decode cL_law 210 = .ok (.aload_n 3, 1) := by decide +kernel
theorem dL_law_211 : decode cL_law 211 = .ok (.iconst 1, 1) := by decide +kernel
theorem dL_law_212 : decode cL_law 212 = .ok (.iconst 3, 1) := by decide +kernel
theorem dL_law_213 : decode cL_law 213 = .ok (.iconst 0, 1) := by decide +kernel
theorem dL_law_214 : decode cL_law 214 = .ok (.iconst 0, 1) := by decide +kernel
theorem dL_law_215 : decode cL_law 215 = .ok (.iconst 0, 1) := by decide +kernel
theorem dL_law_216 : decode cL_law 216 = .ok (.invokestatic 205, 3) := by decide +kernel
theorem dL_law_219 : decode cL_law 219 = .ok (.iconst 3, 1) := by decide +kernel
theorem dL_law_220 : decode cL_law 220 = .ok (.if_icmp .ne 67, 3) := by decide +kernel
theorem dL_law_223 : decode cL_law 223 = .ok (.aload_n 3, 1) := by decide +kernel
theorem dL_law_224 : decode cL_law 224 = .ok (.iconst 1, 1) := by decide +kernel
theorem dL_law_225 : decode cL_law 225 = .ok (.iconst 0, 1) := by decide +kernel
theorem dL_law_226 : decode cL_law 226 = .ok (.aload_n 2, 1) := by decide +kernel
theorem dL_law_227 : decode cL_law 227 = .ok (.getfield 156, 3) := by decide +kernel
theorem dL_law_230 : decode cL_law 230 = .ok (.iconst 0, 1) := by decide +kernel
theorem dL_law_231 : decode cL_law 231 = .ok (.iconst 0, 1) := by decide +kernel
theorem dL_law_232 : decode cL_law 232 = .ok (.invokestatic 205, 3) := by decide +kernel
theorem dL_law_235 : decode cL_law 235 = .ok (.iconst 2, 1) := by decide +kernel
theorem dL_law_236 : decode cL_law 236 = .ok (.if_icmp .ne 51, 3) := by decide +kernel
theorem dL_law_239 : decode cL_law 239 = .ok (.aload_n 3, 1) := by decide +kernel
theorem dL_law_240 : decode cL_law 240 = .ok (.bipush 6, 2) := by decide +kernel
theorem dL_law_242 : decode cL_law 242 = .ok (.aload_n 2, 1) := by decide +kernel
theorem dL_law_243 : decode cL_law 243 = .ok (.getfield 162, 3) := by decide +kernel
theorem dL_law_246 : decode cL_law 246 = .ok (.iconst 0, 1) := by decide +kernel
theorem dL_law_247 : decode cL_law 247 = .ok (.iconst 0, 1) := by decide +kernel
theorem dL_law_248 : decode cL_law 248 = .ok (.iconst 0, 1) := by decide +kernel
theorem dL_law_249 : decode cL_law 249 = .ok (.invokestatic 205, 3) := by decide +kernel
theorem dL_law_252 : decode cL_law 252 = .ok (.iconst 2, 1) := by decide +kernel
theorem dL_law_253 : decode cL_law 253 = .ok (.if_icmp .ne 34, 3) := by decide +kernel
theorem dL_law_256 : decode cL_law 256 = .ok (.aload_n 3, 1) := by decide +kernel
theorem dL_law_257 : decode cL_law 257 = .ok (.bipush 34, 2) := by decide +kernel
theorem dL_law_259 : decode cL_law 259 = .ok (.aload_n 2, 1) := by decide +kernel
theorem dL_law_260 : decode cL_law 260 = .ok (.getfield 165, 3) := by decide +kernel
theorem dL_law_263 : decode cL_law 263 = .ok (.iconst 0, 1) := by decide +kernel
theorem dL_law_264 : decode cL_law 264 = .ok (.iconst 0, 1) := by decide +kernel
theorem dL_law_265 : decode cL_law 265 = .ok (.iconst 0, 1) := by decide +kernel
theorem dL_law_266 : decode cL_law 266 = .ok (.invokestatic 205, 3) := by decide +kernel
theorem dL_law_269 : decode cL_law 269 = .ok (.iconst 2, 1) := by decide +kernel
theorem dL_law_270 : decode cL_law 270 = .ok (.if_icmp .ne 17, 3) := by decide +kernel
theorem dL_law_273 : decode cL_law 273 = .ok (.aload_n 3, 1) := by decide +kernel
theorem dL_law_274 : decode cL_law 274 = .ok (.bipush 22, 2) := by decide +kernel
theorem dL_law_276 : decode cL_law 276 = .ok (.iconst 3, 1) := by decide +kernel
theorem dL_law_277 : decode cL_law 277 = .ok (.iconst 0, 1) := by decide +kernel
theorem dL_law_278 : decode cL_law 278 = .ok (.iconst 0, 1) := by decide +kernel
theorem dL_law_279 : decode cL_law 279 = .ok (.iconst 0, 1) := by decide +kernel
theorem dL_law_280 : decode cL_law 280 = .ok (.invokestatic 205, 3) := by decide +kernel
theorem dL_law_283 : decode cL_law 283 = .ok (.iconst 3, 1) := by decide +kernel
theorem dL_law_284 : decode cL_law 284 = .ok (.if_icmp .eq 5, 3) := by decide +kernel
theorem dL_law_287 : decode cL_law 287 = .ok (.iconst 0, 1) := by decide +kernel
theorem dL_law_288 : decode cL_law 288 = .ok (.ireturn, 1) := by decide +kernel
theorem dL_law_289 : decode cL_law 289 = .ok (.aload_n 3, 1) := by decide +kernel
theorem dL_law_290 : decode cL_law 290 = .ok (.bipush 24, 2) := by decide +kernel
theorem dL_law_292 : decode cL_law 292 = .ok (.iconst (-1), 1) := by decide +kernel
theorem dL_law_293 : decode cL_law 293 = .ok (.iconst 0, 1) := by decide +kernel
theorem dL_law_294 : decode cL_law 294 = .ok (.iconst 0, 1) := by decide +kernel
theorem dL_law_295 : decode cL_law 295 = .ok (.iconst 0, 1) := by decide +kernel
theorem dL_law_296 : decode cL_law 296 = .ok (.invokestatic 205, 3) := by decide +kernel
theorem dL_law_299 : decode cL_law 299 = .ok (.iconst 2, 1) := by decide +kernel
theorem dL_law_300 : decode cL_law 300 = .ok (.if_icmp .ne 49, 3) := by decide +kernel
theorem dL_law_303 : decode cL_law 303 = .ok (.aload_n 3, 1) := by decide +kernel
theorem dL_law_304 : decode cL_law 304 = .ok (.bipush 25, 2) := by decide +kernel
theorem dL_law_306 : decode cL_law 306 = .ok (.aload_n 2, 1) := by decide +kernel
theorem dL_law_307 : decode cL_law 307 = .ok (.getfield 162, 3) := by decide +kernel
theorem dL_law_310 : decode cL_law 310 = .ok (.iconst 0, 1) := by decide +kernel
theorem dL_law_311 : decode cL_law 311 = .ok (.iconst 0, 1) := by decide +kernel
theorem dL_law_312 : decode cL_law 312 = .ok (.iconst 0, 1) := by decide +kernel
theorem dL_law_313 : decode cL_law 313 = .ok (.invokestatic 205, 3) := by decide +kernel
theorem dL_law_316 : decode cL_law 316 = .ok (.iconst 2, 1) := by decide +kernel
theorem dL_law_317 : decode cL_law 317 = .ok (.if_icmp .ne 32, 3) := by decide +kernel
theorem dL_law_320 : decode cL_law 320 = .ok (.aload_n 3, 1) := by decide +kernel
theorem dL_law_321 : decode cL_law 321 = .ok (.bipush 26, 2) := by decide +kernel
theorem dL_law_323 : decode cL_law 323 = .ok (.aload_n 2, 1) := by decide +kernel
theorem dL_law_324 : decode cL_law 324 = .ok (.getfield 162, 3) := by decide +kernel
theorem dL_law_327 : decode cL_law 327 = .ok (.iconst 0, 1) := by decide +kernel
theorem dL_law_328 : decode cL_law 328 = .ok (.iconst 0, 1) := by decide +kernel
theorem dL_law_329 : decode cL_law 329 = .ok (.iconst 0, 1) := by decide +kernel
theorem dL_law_330 : decode cL_law 330 = .ok (.invokestatic 205, 3) := by decide +kernel
theorem dL_law_333 : decode cL_law 333 = .ok (.iconst 2, 1) := by decide +kernel
theorem dL_law_334 : decode cL_law 334 = .ok (.if_icmp .ne 15, 3) := by decide +kernel
theorem dL_law_337 : decode cL_law 337 = .ok (.aload_n 3, 1) := by decide +kernel
theorem dL_law_338 : decode cL_law 338 = .ok (.aload_n 2, 1) := by decide +kernel
theorem dL_law_339 : decode cL_law 339 = .ok (.invokestatic 355, 3) := by decide +kernel
theorem dL_law_342 : decode cL_law 342 = .ok (.ifCond .eq 7, 3) := by decide +kernel
theorem dL_law_345 : decode cL_law 345 = .ok (.iconst 1, 1) := by decide +kernel
theorem dL_law_346 : decode cL_law 346 = .ok (.goto 4, 3) := by decide +kernel
theorem dL_law_349 : decode cL_law 349 = .ok (.iconst 0, 1) := by decide +kernel
theorem dL_law_350 : decode cL_law 350 = .ok (.ireturn, 1) := by decide +kernel
