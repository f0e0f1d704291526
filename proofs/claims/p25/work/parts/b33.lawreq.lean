/-! the law's own methods: requests -/
theorem dL_requests_0 : decode cL_requests 0 = .ok (.bipush 6, 2) := by decide +kernel
theorem dL_requests_2 : decode cL_requests 2 = .ok (.newarray .int, 2) := by decide +kernel
theorem dL_requests_4 : decode cL_requests 4 = .ok (.astore_n 1, 1) := by decide +kernel
theorem dL_requests_5 : decode cL_requests 5 = .ok (.iconst 0, 1) := by decide +kernel
theorem dL_requests_6 : decode cL_requests 6 = .ok (.istore_n 2, 1) := by decide +kernel
theorem dL_requests_7 : decode cL_requests 7 = .ok (.iconst (-1), 1) := by decide +kernel
theorem dL_requests_8 : decode cL_requests 8 = .ok (.istore_n 3, 1) := by decide +kernel
theorem dL_requests_9 : decode cL_requests 9 = .ok (.iconst 0, 1) := by decide +kernel
theorem dL_requests_10 : decode cL_requests 10 = .ok (.istore 4, 2) := by decide +kernel
theorem dL_requests_12 : decode cL_requests 12 = .ok (.iload 4, 2) := by decide +kernel
theorem dL_requests_14 : decode cL_requests 14 = .ok (.aload_n 0, 1) := by decide +kernel
theorem dL_requests_15 : decode cL_requests 15 = .ok (.iconst 1, 1) := by decide +kernel
theorem dL_requests_16 : decode cL_requests 16 = .ok (.invokevirtual 43, 3) := by decide +kernel
theorem dL_requests_19 : decode cL_requests 19 = .ok (.if_icmp .ge 168, 3) := by decide +kernel
theorem dL_requests_22 : decode cL_requests 22 = .ok (.aload_n 0, 1) := by decide +kernel
theorem dL_requests_23 : decode cL_requests 23 = .ok (.iload 4, 2) := by decide +kernel
theorem dL_requests_25 : decode cL_requests 25 = .ok (.invokevirtual 46, 3) := by decide +kernel
theorem dL_requests_28 : decode cL_requests 28 = .ok (.istore 5, 2) := by decide +kernel
theorem dL_requests_30 : decode cL_requests 30 = .ok (.aload_n 0, 1) := by decide +kernel
theorem dL_requests_31 : decode cL_requests 31 = .ok (.iload 5, 2) := by decide +kernel
theorem dL_requests_33 : decode cL_requests 33 = .ok (.iconst 0, 1) := by decide +kernel
theorem dL_requests_34 : decode cL_requests 34 = .ok (.invokevirtual 49, 3) := by decide +kernel
theorem dL_requests_37 : decode cL_requests 37 = .ok (.istore 6, 2) := by decide +kernel
theorem dL_requests_39 : decode cL_requests 39 = .ok (.aload_n 0, 1) := by decide +kernel
theorem dL_requests_40 : decode cL_requests 40 = .ok (.iload 5, 2) := by decide +kernel
theorem dL_requests_42 : decode cL_requests 42 = .ok (.iconst 3, 1) := by decide +kernel
theorem dL_requests_43 : decode cL_requests 43 = .ok (.invokevirtual 49, 3) := by decide +kernel
theorem dL_requests_46 : decode cL_requests 46 = .ok (.istore 7, 2) := by decide +kernel
theorem dL_requests_48 : decode cL_requests 48 = .ok (.aload_n 0, 1) := by decide +kernel
theorem dL_requests_49 : decode cL_requests 49 = .ok (.iload 5, 2) := by decide +kernel
theorem dL_requests_51 : decode cL_requests 51 = .ok (.iconst 4, 1) := by decide +kernel
theorem dL_requests_52 : decode cL_requests 52 = .ok (.invokevirtual 49, 3) := by decide +kernel
theorem dL_requests_55 : decode cL_requests 55 = .ok (.istore 8, 2) := by decide +kernel
theorem dL_requests_57 : decode cL_requests 57 = .ok (.aload_n 0, 1) := by decide +kernel
theorem dL_requests_58 : decode cL_requests 58 = .ok (.iload 5, 2) := by decide +kernel
theorem dL_requests_60 : decode cL_requests 60 = .ok (.iconst 2, 1) := by decide +kernel
theorem dL_requests_61 : decode cL_requests 61 = .ok (.invokevirtual 49, 3) := by decide +kernel
theorem dL_requests_64 : decode cL_requests 64 = .ok (.istore 9, 2) := by decide +kernel
theorem dL_requests_66 : decode cL_requests 66 = .ok (.iload 5, 2) := by decide +kernel
theorem dL_requests_68 : decode cL_requests 68 = .ok (.iload_n 3, 1) := by decide +kernel
theorem dL_requests_69 : decode cL_requests 69 = .ok (.if_icmp .le 32, 3) := by decide +kernel
theorem dL_requests_72 : decode cL_requests 72 = .ok (.iload 6, 2) := by decide +kernel
theorem dL_requests_74 : decode cL_requests 74 = .ok (.ifCond .lt 27, 3) := by decide +kernel
theorem dL_requests_77 : decode cL_requests 77 = .ok (.iload 7, 2) := by decide +kernel
theorem dL_requests_79 : decode cL_requests 79 = .ok (.ifCond .lt 22, 3) := by decide +kernel
theorem dL_requests_82 : decode cL_requests 82 = .ok (.iload 7, 2) := by decide +kernel
theorem dL_requests_84 : decode cL_requests 84 = .ok (.iconst 4, 1) := by decide +kernel
theorem dL_requests_85 : decode cL_requests 85 = .ok (.if_icmp .gt 16, 3) := by decide +kernel
theorem dL_requests_88 : decode cL_requests 88 = .ok (.iload 9, 2) := by decide +kernel
theorem dL_requests_90 : decode cL_requests 90 = .ok (.iconst 1, 1) := by decide +kernel
theorem dL_requests_91 : decode cL_requests 91 = .ok (.if_icmp .lt 10, 3) := by decide +kernel
theorem dL_requests_94 : decode cL_requests 94 = .ok (.iload 9, 2) := by decide +kernel
theorem dL_requests_96 : decode cL_requests 96 = .ok (.bipush 6, 2) := by decide +kernel
theorem dL_requests_98 : decode cL_requests 98 = .ok (.if_icmp .le 5, 3) := by decide +kernel
theorem dL_requests_101 : decode cL_requests 101 = .ok (.iconst 0, 1) := by decide +kernel
theorem dL_requests_102 : decode cL_requests 102 = .ok (.ireturn, 1) := by decide +kernel
theorem dL_requests_103 : decode cL_requests 103 = .ok (.iload 7, 2) := by decide +kernel
theorem dL_requests_105 : decode cL_requests 105 = .ok (.ifCond .ne 28, 3) := by decide +kernel
theorem dL_requests_108 : decode cL_requests 108 = .ok (.iload 8, 2) := by decide +kernel
theorem dL_requests_110 : decode cL_requests 110 = .ok (.aload_n 0, 1) := by decide +kernel
theorem dL_requests_111 : decode cL_requests 111 = .ok (.iconst 0, 1) := by decide +kernel
theorem dL_requests_112 : decode cL_requests 112 = .ok (.invokevirtual 43, 3) := by decide +kernel
theorem dL_requests_115 : decode cL_requests 115 = .ok (.if_icmp .lt 40, 3) := by decide +kernel
theorem dL_requests_118 : decode cL_requests 118 = .ok (.iload 8, 2) := by decide +kernel
theorem dL_requests_120 : decode cL_requests 120 = .ok (.aload_n 0, 1) := by decide +kernel
theorem dL_requests_121 : decode cL_requests 121 = .ok (.iload 5, 2) := by decide +kernel
theorem dL_requests_123 : decode cL_requests 123 = .ok (.iconst 1, 1) := by decide +kernel
theorem dL_requests_124 : decode cL_requests 124 = .ok (.invokevirtual 49, 3) := by decide +kernel
theorem dL_requests_127 : decode cL_requests 127 = .ok (.if_icmp .lt 30, 3) := by decide +kernel
theorem dL_requests_130 : decode cL_requests 130 = .ok (.goto 25, 3) := by decide +kernel
theorem dL_requests_133 : decode cL_requests 133 = .ok (.iload 8, 2) := by decide +kernel
theorem dL_requests_135 : decode cL_requests 135 = .ok (.aload_n 0, 1) := by decide +kernel
theorem dL_requests_136 : decode cL_requests 136 = .ok (.iconst 0, 1) := by decide +kernel
theorem dL_requests_137 : decode cL_requests 137 = .ok (.invokevirtual 43, 3) := by decide +kernel
theorem dL_requests_140 : decode cL_requests 140 = .ok (.if_icmp .le 15, 3) := by decide +kernel
theorem dL_requests_143 : decode cL_requests 143 = .ok (.iload 8, 2) := by decide +kernel
theorem dL_requests_145 : decode cL_requests 145 = .ok (.aload_n 0, 1) := by decide +kernel
theorem dL_requests_146 : decode cL_requests 146 = .ok (.iload 5, 2) := by decide +kernel
theorem dL_requests_148 : decode cL_requests 148 = .ok (.iconst 1, 1) := by decide +kernel
theorem dL_requests_149 : decode cL_requests 149 = .ok (.invokevirtual 49, 3) := by decide +kernel
theorem dL_requests_152 : decode cL_requests 152 = .ok (.if_icmp .le 5, 3) := by decide +kernel
theorem dL_requests_155 : decode cL_requests 155 = .ok (.iconst 0, 1) := by decide +kernel
theorem dL_requests_156 : decode cL_requests 156 = .ok (.ireturn, 1) := by decide +kernel
theorem dL_requests_157 : decode cL_requests 157 = .ok (.iload_n 2, 1) := by decide +kernel
theorem dL_requests_158 : decode cL_requests 158 = .ok (.iload 7, 2) := by decide +kernel
theorem dL_requests_160 : decode cL_requests 160 = .ok (.ifCond .ne 7, 3) := by decide +kernel
theorem dL_requests_163 : decode cL_requests 163 = .ok (.iconst 1, 1) := by decide +kernel
theorem dL_requests_164 : decode cL_requests 164 = .ok (.goto 4, 3) := by decide +kernel
theorem dL_requests_167 : decode cL_requests 167 = .ok (.iconst 0, 1) := by decide +kernel
theorem dL_requests_168 : decode cL_requests 168 = .ok (.iadd, 1) := by decide +kernel
theorem dL_requests_169 : decode cL_requests 169 = .ok (.istore_n 2, 1) := by decide +kernel
theorem dL_requests_170 : decode cL_requests 170 = .ok (.aload_n 1, 1) := by decide +kernel
theorem dL_requests_171 : decode cL_requests 171 = .ok (.iload 6, 2) := by decide +kernel
theorem dL_requests_173 : decode cL_requests 173 = .ok (.dup2, 1) := by decide +kernel
theorem dL_requests_174 : decode cL_requests 174 = .ok (.iaload, 1) := by decide +kernel
theorem dL_requests_175 : decode cL_requests 175 = .ok (.iconst 1, 1) := by decide +kernel
theorem dL_requests_176 : decode cL_requests 176 = .ok (.iadd, 1) := by decide +kernel
theorem dL_requests_177 : decode cL_requests 177 = .ok (.iastore, 1) := by decide +kernel
theorem dL_requests_178 : decode cL_requests 178 = .ok (.iload 5, 2) := by decide +kernel
theorem dL_requests_180 : decode cL_requests 180 = .ok (.istore_n 3, 1) := by decide +kernel
theorem dL_requests_181 : decode cL_requests 181 = .ok (.iinc 4 1, 3) := by decide +kernel
theorem dL_requests_184 : decode cL_requests 184 = .ok (.goto (-172), 3) := by decide +kernel
theorem dL_requests_187 : decode cL_requests 187 = .ok (.iconst 0, 1) := by decide +kernel
theorem dL_requests_188 : decode cL_requests 188 = .ok (.istore 4, 2) := by decide +kernel
theorem dL_requests_190 : decode cL_requests 190 = .ok (.iload 4, 2) := by decide +kernel
theorem dL_requests_192 : decode cL_requests 192 = .ok (.bipush 6, 2) := by decide +kernel
theorem dL_requests_194 : decode cL_requests 194 = .ok (.if_icmp .ge 145, 3) := by decide +kernel
theorem dL_requests_197 : decode cL_requests 197 = .ok (.aload_n 0, 1) := by decide +kernel
theorem dL_requests_198 : decode cL_requests 198 = .ok (.iload 4, 2) := by decide +kernel
theorem dL_requests_200 : decode cL_requests 200 = .ok (.iconst 0, 1) := by decide +kernel
theorem dL_requests_201 : decode cL_requests 201 = .ok (.invokevirtual 52, 3) := by decide +kernel
theorem dL_requests_204 : decode cL_requests 204 = .ok (.aload_n 0, 1) := by decide +kernel
theorem dL_requests_205 : decode cL_requests 205 = .ok (.iload 4, 2) := by decide +kernel
theorem dL_requests_207 : decode cL_requests 207 = .ok (.iconst 2, 1) := by decide +kernel
theorem dL_requests_208 : decode cL_requests 208 = .ok (.invokevirtual 52, 3) := by decide +kernel
theorem dL_requests_211 : decode cL_requests 211 = .ok (.aload_n 0, 1) := by decide +kernel
theorem dL_requests_212 : decode cL_requests 212 = .ok (.iload 4, 2) := by decide +kernel
theorem dL_requests_214 : decode cL_requests 214 = .ok (.iconst 3, 1) := by decide +kernel
theorem dL_requests_215 : decode cL_requests 215 = .ok (.invokevirtual 52, 3) := by decide +kernel
theorem dL_requests_218 : decode cL_requests 218 = .ok (.iadd, 1) := by decide +kernel
theorem dL_requests_219 : decode cL_requests 219 = .ok (.aload_n 1, 1) := by decide +kernel
theorem dL_requests_220 : decode cL_requests 220 = .ok (.iload 4, 2) := by decide +kernel
theorem dL_requests_222 : decode cL_requests 222 = .ok (.iaload, 1) := by decide +kernel
theorem dL_requests_223 : decode cL_requests 223 = .ok (.iadd, 1) := by decide +kernel
theorem dL_requests_224 : decode cL_requests 224 = .ok (.if_icmp .ne 36, 3) := by decide +kernel
theorem dL_requests_227 : decode cL_requests 227 = .ok (.aload_n 0, 1) := by decide +kernel
theorem dL_requests_228 : decode cL_requests 228 = .ok (.iload 4, 2) := by decide +kernel
theorem dL_requests_230 : decode cL_requests 230 = .ok (.bipush 7, 2) := by decide +kernel
theorem dL_requests_232 : decode cL_requests 232 = .ok (.invokevirtual 52, 3) := by decide +kernel
theorem dL_requests_235 : decode cL_requests 235 = .ok (.ifCond .lt 25, 3) := by decide +kernel
theorem dL_requests_238 : decode cL_requests 238 = .ok (.aload_n 0, 1) := by decide +kernel
theorem dL_requests_239 : decode cL_requests 239 = .ok (.iload 4, 2) := by decide +kernel
theorem dL_requests_241 : decode cL_requests 241 = .ok (.bipush 7, 2) := by decide +kernel
theorem dL_requests_243 : decode cL_requests 243 = .ok (.invokevirtual 52, 3) := by decide +kernel
theorem dL_requests_246 : decode cL_requests 246 = .ok (.bipush 10, 2) := by decide +kernel
theorem dL_requests_248 : decode cL_requests 248 = .ok (.aload_n 0, 1) := by decide +kernel
theorem dL_requests_249 : decode cL_requests 249 = .ok (.iload 4, 2) := by decide +kernel
theorem dL_requests_251 : decode cL_requests 251 = .ok (.bipush 10, 2) := by decide +kernel
theorem dL_requests_253 : decode cL_requests 253 = .ok (.invokevirtual 19, 3) := by decide +kernel
theorem dL_requests_256 : decode cL_requests 256 = .ok (.imul, 1) := by decide +kernel
theorem dL_requests_257 : decode cL_requests 257 = .ok (.if_icmp .le 5, 3) := by decide +kernel
theorem dL_requests_260 : decode cL_requests 260 = .ok (.iconst 0, 1) := by decide +kernel
theorem dL_requests_261 : decode cL_requests 261 = .ok (.ireturn, 1) := by decide +kernel
theorem dL_requests_262 : decode cL_requests 262 = .ok (.iconst 0, 1) := by decide +kernel
theorem dL_requests_263 : decode cL_requests 263 = .ok (.istore 5, 2) := by decide +kernel
theorem dL_requests_265 : decode cL_requests 265 = .ok (.iconst 1, 1) := by decide +kernel
theorem dL_requests_266 : decode cL_requests 266 = .ok (.istore 6, 2) := by decide +kernel
theorem dL_requests_268 : decode cL_requests 268 = .ok (.iload 6, 2) := by decide +kernel
theorem dL_requests_270 : decode cL_requests 270 = .ok (.bipush 7, 2) := by decide +kernel
theorem dL_requests_272 : decode cL_requests 272 = .ok (.if_icmp .ge 22, 3) := by decide +kernel
theorem dL_requests_275 : decode cL_requests 275 = .ok (.iload 5, 2) := by decide +kernel
theorem dL_requests_277 : decode cL_requests 277 = .ok (.aload_n 0, 1) := by decide +kernel
theorem dL_requests_278 : decode cL_requests 278 = .ok (.iload 4, 2) := by decide +kernel
theorem dL_requests_280 : decode cL_requests 280 = .ok (.iload 6, 2) := by decide +kernel
theorem dL_requests_282 : decode cL_requests 282 = .ok (.invokevirtual 55, 3) := by decide +kernel
theorem dL_requests_285 : decode cL_requests 285 = .ok (.iadd, 1) := by decide +kernel
theorem dL_requests_286 : decode cL_requests 286 = .ok (.istore 5, 2) := by decide +kernel
theorem dL_requests_288 : decode cL_requests 288 = .ok (.iinc 6 1, 3) := by decide +kernel
theorem dL_requests_291 : decode cL_requests 291 = .ok (.goto (-23), 3) := by decide +kernel
theorem dL_requests_294 : decode cL_requests 294 = .ok (.iload 5, 2) := by decide +kernel
theorem dL_requests_296 : decode cL_requests 296 = .ok (.aload_n 0, 1) := by decide +kernel
theorem dL_requests_297 : decode cL_requests 297 = .ok (.iload 4, 2) := by decide +kernel
theorem dL_requests_299 : decode cL_requests 299 = .ok (.iconst 2, 1) := by decide +kernel
theorem dL_requests_300 : decode cL_requests 300 = .ok (.invokevirtual 52, 3) := by decide +kernel
theorem dL_requests_303 : decode cL_requests 303 = .ok (.if_icmp .ne 28, 3) := by decide +kernel
theorem dL_requests_306 : decode cL_requests 306 = .ok (.aload_n 0, 1) := by decide +kernel
theorem dL_requests_307 : decode cL_requests 307 = .ok (.iload 4, 2) := by decide +kernel
theorem dL_requests_309 : decode cL_requests 309 = .ok (.iconst 1, 1) := by decide +kernel
theorem dL_requests_310 : decode cL_requests 310 = .ok (.invokevirtual 52, 3) := by decide +kernel
theorem dL_requests_313 : decode cL_requests 313 = .ok (.aload_n 0, 1) := by decide +kernel
theorem dL_requests_314 : decode cL_requests 314 = .ok (.iload 4, 2) := by decide +kernel
theorem dL_requests_316 : decode cL_requests 316 = .ok (.iconst 2, 1) := by decide +kernel
theorem dL_requests_317 : decode cL_requests 317 = .ok (.invokevirtual 52, 3) := by decide +kernel
theorem dL_requests_320 : decode cL_requests 320 = .ok (.aload_n 0, 1) := by decide +kernel
theorem dL_requests_321 : decode cL_requests 321 = .ok (.iload 4, 2) := by decide +kernel
theorem dL_requests_323 : decode cL_requests 323 = .ok (.iconst 4, 1) := by decide +kernel
theorem dL_requests_324 : decode cL_requests 324 = .ok (.invokevirtual 52, 3) := by decide +kernel
theorem dL_requests_327 : decode cL_requests 327 = .ok (.iadd, 1) := by decide +kernel
theorem dL_requests_328 : decode cL_requests 328 = .ok (.if_icmp .ge 5, 3) := by decide +kernel
theorem dL_requests_331 : decode cL_requests 331 = .ok (.iconst 0, 1) := by decide +kernel
theorem dL_requests_332 : decode cL_requests 332 = .ok (.ireturn, 1) := by decide +kernel
theorem dL_requests_333 : decode cL_requests 333 = .ok (.iinc 4 1, 3) := by decide +kernel
theorem dL_requests_336 : decode cL_requests 336 = .ok (.goto (-146), 3) := by decide +kernel
theorem dL_requests_339 : decode cL_requests 339 = .ok (.aload_n 0, 1) := by decide +kernel
theorem dL_requests_340 : decode cL_requests 340 = .ok (.aload_n 0, 1) := by decide +kernel
theorem dL_requests_341 : decode cL_requests 341 = .ok (.iconst 1, 1) := by decide +kernel
theorem dL_requests_342 : decode cL_requests 342 = .ok (.invokevirtual 43, 3) := by decide +kernel
theorem dL_requests_345 : decode cL_requests 345 = .ok (.invokevirtual 46, 3) := by decide +kernel
theorem dL_requests_348 : decode cL_requests 348 = .ok (.bipush (-9), 2) := by decide +kernel
theorem dL_requests_350 : decode cL_requests 350 = .ok (.if_icmp .ne 26, 3) := by decide +kernel
theorem dL_requests_353 : decode cL_requests 353 = .ok (.iload_n 2, 1) := by decide +kernel
theorem dL_requests_354 : decode cL_requests 354 = .ok (.aload_n 0, 1) := by decide +kernel
theorem dL_requests_355 : decode cL_requests 355 = .ok (.iconst 2, 1) := by decide +kernel
theorem dL_requests_356 : decode cL_requests 356 = .ok (.invokevirtual 43, 3) := by decide +kernel
theorem dL_requests_359 : decode cL_requests 359 = .ok (.if_icmp .ne 17, 3) := by decide +kernel
theorem dL_requests_362 : decode cL_requests 362 = .ok (.aload_n 0, 1) := by decide +kernel
theorem dL_requests_363 : decode cL_requests 363 = .ok (.iconst 1, 1) := by decide +kernel
theorem dL_requests_364 : decode cL_requests 364 = .ok (.invokevirtual 43, 3) := by decide +kernel
theorem dL_requests_367 : decode cL_requests 367 = .ok (.bipush 16, 2) := by decide +kernel
theorem dL_requests_369 : decode cL_requests 369 = .ok (.if_icmp .gt 7, 3) := by decide +kernel
theorem dL_requests_372 : decode cL_requests 372 = .ok (.iconst 1, 1) := by decide +kernel
theorem dL_requests_373 : decode cL_requests 373 = .ok (.goto 4, 3) := by decide +kernel
theorem dL_requests_376 : decode cL_requests 376 = .ok (.iconst 0, 1) := by decide +kernel
theorem dL_requests_377 : decode cL_requests 377 = .ok (.ireturn, 1) := by decide +kernel
def bfL_requests_377 (X : RS) (s0 : Int32) (S : Nat → Int32) : Option (Int32) :=
  (if s0 = 0 ∨ s0 = 1 then some s0 else none)
def bfL_requests_376 (X : RS) (S : Nat → Int32) : Option (Int32) :=
  bfL_requests_377 X  ((0 : Int32)) S
def bfL_requests_331 (X : RS) (S : Nat → Int32) : Option (Int32) :=
  some (0 : Int32)
def bfL_requests_268 (X : RS) (K190 : Int32 × Int32 × (Nat → Int32) → Option (Int32)) (K268 : Int32 × Int32 × Int32 × Int32 × (Nat → Int32) → Option (Int32)) (x : Int32 × Int32 × Int32 × Int32 × (Nat → Int32)) : Option (Int32) :=
  match x with
  | (x2, x4, x5, x6, S) => (if (7 : Int32) ≤ x6 then ob (fX5_count x4 (2 : Int32) X) fun u29 => (if x5 = u29 then ob (fX5_count x4 (1 : Int32) X) fun u30 => ob (fX5_count x4 (2 : Int32) X) fun u31 => ob (fX5_count x4 (4 : Int32) X) fun u32 => (if (u31 + u32) ≤ u30 then K190 (x2, (x4 + (1 : Int32)), S) else bfL_requests_331 X  S) else bfL_requests_331 X  S) else ob (fX5_succeededAt x4 x6 X) fun u33 => nm ((x5 + u33)) fun v34 => K268 (x2, x4, v34, (x6 + (1 : Int32)), S))
def bfL_requests_260 (X : RS) (S : Nat → Int32) : Option (Int32) :=
  some (0 : Int32)
def bfL_requests_190 (X : RS) (K190 : Int32 × Int32 × (Nat → Int32) → Option (Int32)) (x : Int32 × Int32 × (Nat → Int32)) : Option (Int32) :=
  match x with
  | (x2, x4, S) => (if (6 : Int32) ≤ x4 then ob (fX5_told (1 : Int32) X) fun u35 => ob (fX5_live u35 X) fun u36 => (if u36 = (-9 : Int32) then ob (fX5_told (2 : Int32) X) fun u37 => (if x2 = u37 then ob (fX5_told (1 : Int32) X) fun u38 => (if (16 : Int32) < u38 then bfL_requests_376 X  S else bfL_requests_377 X  ((1 : Int32)) S) else bfL_requests_376 X  S) else bfL_requests_376 X  S) else ob (fX5_count x4 (0 : Int32) X) fun u39 => ob (fX5_count x4 (2 : Int32) X) fun u40 => ob (fX5_count x4 (3 : Int32) X) fun u41 => (if okI x4 6 then (if u39 = ((u40 + u41) + (S (x4).toNatClampNeg)) then ob (fX5_count x4 (7 : Int32) X) fun u42 => (if u42 < 0 then bfL_requests_260 X  S else ob (fX5_count x4 (7 : Int32) X) fun u43 => ob (fX5_property x4 (10 : Int32) X) fun u44 => (if u43 ≤ ((10 : Int32) * u44) then iter (bfL_requests_268 X K190) FU (x2, x4, (0 : Int32), (1 : Int32), S) else bfL_requests_260 X  S)) else bfL_requests_260 X  S) else none))
def bfL_requests_168 (X : RS) (K12 : Int32 × Int32 × Int32 × (Nat → Int32) → Option (Int32)) (x4 : Int32) (x5 : Int32) (x6 : Int32) (s0 : Int32) (s1 : Int32) (S : Nat → Int32) : Option (Int32) :=
  nm ((s0 + s1)) fun v45 => (if okI x6 6 then (if okI x6 6 then nm (upd S (x6).toNatClampNeg ((S (x6).toNatClampNeg) + (1 : Int32))) fun S46 => K12 (v45, x5, (x4 + (1 : Int32)), S46) else none) else none)
def bfL_requests_157 (X : RS) (K12 : Int32 × Int32 × Int32 × (Nat → Int32) → Option (Int32)) (x2 : Int32) (x4 : Int32) (x5 : Int32) (x6 : Int32) (x7 : Int32) (S : Nat → Int32) : Option (Int32) :=
  (if x7 = 0 then bfL_requests_168 X K12 x4 x5 x6 x2 ((1 : Int32)) S else bfL_requests_168 X K12 x4 x5 x6 x2 ((0 : Int32)) S)
def bfL_requests_155 (X : RS) (S : Nat → Int32) : Option (Int32) :=
  some (0 : Int32)
def bfL_requests_101 (X : RS) (S : Nat → Int32) : Option (Int32) :=
  some (0 : Int32)
def bfL_requests_12 (X : RS) (K12 : Int32 × Int32 × Int32 × (Nat → Int32) → Option (Int32)) (x : Int32 × Int32 × Int32 × (Nat → Int32)) : Option (Int32) :=
  match x with
  | (x2, x3, x4, S) => ob (fX5_told (1 : Int32) X) fun u47 => (if u47 ≤ x4 then iter (bfL_requests_190 X) FU (x2, (0 : Int32), S) else ob (fX5_live x4 X) fun u48 => ob (fX5_request u48 (0 : Int32) X) fun u49 => ob (fX5_request u48 (3 : Int32) X) fun u50 => ob (fX5_request u48 (4 : Int32) X) fun u51 => ob (fX5_request u48 (2 : Int32) X) fun u52 => (if u48 ≤ x3 then bfL_requests_101 X  S else (if u49 < 0 then bfL_requests_101 X  S else (if u50 < 0 then bfL_requests_101 X  S else (if (4 : Int32) < u50 then bfL_requests_101 X  S else (if u52 < (1 : Int32) then bfL_requests_101 X  S else (if u52 ≤ (6 : Int32) then (if u50 = 0 then ob (fX5_told (0 : Int32) X) fun u55 => (if u51 < u55 then bfL_requests_155 X  S else ob (fX5_request u48 (1 : Int32) X) fun u56 => (if u51 < u56 then bfL_requests_157 X K12 x2 x4 u48 u49 u50 S else bfL_requests_155 X  S)) else ob (fX5_told (0 : Int32) X) fun u53 => (if u51 ≤ u53 then bfL_requests_155 X  S else ob (fX5_request u48 (1 : Int32) X) fun u54 => (if u51 ≤ u54 then bfL_requests_157 X K12 x2 x4 u48 u49 u50 S else bfL_requests_155 X  S))) else bfL_requests_101 X  S)))))))
def fL_requests (X : RS) : Option (Int32) :=
  iter (bfL_requests_12 X) FU ((0 : Int32), (-1 : Int32), (0 : Int32), (fun _ => (0 : Int32)))
set_option maxHeartbeats 4000000 in
set_option maxRecDepth 100000 in
theorem kL_requests (l : Launch) (D : va_G) (cI cS : ClassId) (b L : Nat) (xs : Nat → Int32) (aR : Nat → Nat) (X : RS)  {q : Int32} (h : fL_requests X = some q) : Ms l D (tyL cI cS) b L xs yL_requests cL_requests 10 (some .boolean) 5 1 6 [.ref (aR 0)] (wR cI cS aR X) (some (.int q)) (wR cI cS aR X) := by
  refine Ms_of RL (by decide +kernel) rfl wc_L_requests (Nat.le_of_ble_eq_true rfl) ?_
  intro p e s m args below meth c A Q ls C hA hz hX hP hD hS hl RET
  refine x_bipush (v := (6 : Int32)) C dL_requests_0 (by decide) ?_
  refine x_newI C hP hD hS hA (k := (6 : Int32)) (N := 6) (by decide) (by decide) (by decide) (Nat.le_of_ble_eq_true rfl) (Nat.le_of_ble_eq_true rfl) dL_requests_2 (fun aQ H hP hD hS => ?_)
  refine x_astore_n (lv' := [(1, .ref aQ), (0, .ref (aR 0))]) C dL_requests_4 rfl hl (by decide) rfl (fun ls hl => ?_)
  have RETh : ∀ {pc : Nat} {ls : Array Slot} {H : Heap} {locs : List Loc} {x : Int32} {S1 : Nat → Int32}, (x = 0 ∨ x = 1) → decode cL_requests pc = .ok (.ireturn, 1) → some x = some q → va_P D vwCl (wR cI cS aR X ++ wI cI aQ 6 S1) H → va_D A (wR cI cS aR X ++ wI cI aQ 6 S1) → va_S A s.heap H locs → W p l e (rmN 5 1 6) s m args below meth c H locs 1 6 Q (F0 m pc ls [.int x]) := by
    intro pc ls H locs x S1 hx hd h hP hD hS; cases h; exact RET (x_zretN C hx hd) (va_P_app.mp hP).1 (va_D_l hD) hS
  have B377 : ∀ (s0 : Int32) (S : Nat → Int32), bfL_requests_377 X s0 S = some q → ∀ (H : Heap) (locs : List Loc) (ls : Array Slot), va_P D vwCl (wR cI cS aR X ++ wI cI aQ 6 S) H → va_D A (wR cI cS aR X ++ wI cI aQ 6 S) → va_S A s.heap H locs → lv_has ls 10 [] → W p l e (rmN 5 1 6) s m args below meth c H locs 1 6 Q (F0 m 377 ls [.int s0]) := by
    intro s0 S h H locs ls hP hD hS hl
    rcases x_ifn h with ⟨hc, h⟩
    exact RETh hc dL_requests_377 h hP hD hS
  have B376 : ∀ (S : Nat → Int32), bfL_requests_376 X S = some q → ∀ (H : Heap) (locs : List Loc) (ls : Array Slot), va_P D vwCl (wR cI cS aR X ++ wI cI aQ 6 S) H → va_D A (wR cI cS aR X ++ wI cI aQ 6 S) → va_S A s.heap H locs → lv_has ls 10 [] → W p l e (rmN 5 1 6) s m args below meth c H locs 1 6 Q (F0 m 376 ls []) := by
    intro S h H locs ls hP hD hS hl
    refine x_iconst (v := (0 : Int32)) C dL_requests_376 (by decide) ?_
    exact B377 _ _ h _ _ _ hP hD hS hl
  have B331 : ∀ (S : Nat → Int32), bfL_requests_331 X S = some q → ∀ (H : Heap) (locs : List Loc) (ls : Array Slot), va_P D vwCl (wR cI cS aR X ++ wI cI aQ 6 S) H → va_D A (wR cI cS aR X ++ wI cI aQ 6 S) → va_S A s.heap H locs → lv_has ls 10 [] → W p l e (rmN 5 1 6) s m args below meth c H locs 1 6 Q (F0 m 331 ls []) := by
    intro S h H locs ls hP hD hS hl
    refine x_iconst (v := (0 : Int32)) C dL_requests_331 (by decide) ?_
    exact RETh (by decide) dL_requests_332 h hP hD hS
  have B268 : ∀ (K190 : Int32 × Int32 × (Nat → Int32) → Option (Int32)) (ih190 : ∀ x, K190 x = some q → (match x with | (x2, x4, S) => ∀ (H : Heap) (locs : List Loc) (ls : Array Slot), va_P D vwCl (wR cI cS aR X ++ wI cI aQ 6 S) H → va_D A (wR cI cS aR X ++ wI cI aQ 6 S) → va_S A s.heap H locs → lv_has ls 10 [(0, .ref (aR 0)), (1, .ref aQ), (2, .int x2), (4, .int x4)] → W p l e (rmN 5 1 6) s m args below meth c H locs 1 6 Q (F0 m 190 ls []))) (n : Nat) (x : Int32 × Int32 × Int32 × Int32 × (Nat → Int32)), iter (bfL_requests_268 X K190) n x = some q → (match x with | (x2, x4, x5, x6, S) => ∀ (H : Heap) (locs : List Loc) (ls : Array Slot), va_P D vwCl (wR cI cS aR X ++ wI cI aQ 6 S) H → va_D A (wR cI cS aR X ++ wI cI aQ 6 S) → va_S A s.heap H locs → lv_has ls 10 [(0, .ref (aR 0)), (1, .ref aQ), (2, .int x2), (4, .int x4), (5, .int x5), (6, .int x6)] → W p l e (rmN 5 1 6) s m args below meth c H locs 1 6 Q (F0 m 268 ls [])) := by
    intro K190 ih190
    refine iter_ind (fun x : Int32 × Int32 × Int32 × Int32 × (Nat → Int32) => (match x with | (x2, x4, x5, x6, S) => ∀ (H : Heap) (locs : List Loc) (ls : Array Slot), va_P D vwCl (wR cI cS aR X ++ wI cI aQ 6 S) H → va_D A (wR cI cS aR X ++ wI cI aQ 6 S) → va_S A s.heap H locs → lv_has ls 10 [(0, .ref (aR 0)), (1, .ref aQ), (2, .int x2), (4, .int x4), (5, .int x5), (6, .int x6)] → W p l e (rmN 5 1 6) s m args below meth c H locs 1 6 Q (F0 m 268 ls []))) ?_
    intro K268 ih268 x h
    obtain ⟨x2, x4, x5, x6, S⟩ := x
    intro H locs ls hP hD hS hl
    refine x_iload C dL_requests_268 hl 5 rfl ?_
    refine x_bipush (v := (7 : Int32)) C dL_requests_270 (by decide) ?_
    refine x_icmp_ge (tgt := 294) C h dL_requests_272 (by decide) (fun h => ?_) (fun h => ?_)
    · refine x_iload C dL_requests_294 hl 4 rfl ?_
      refine x_aload_n C dL_requests_296 rfl hl 0 rfl ?_
      refine x_iload C dL_requests_297 hl 3 rfl ?_
      refine x_iconst (v := (2 : Int32)) C dL_requests_299 (by decide) ?_
      obtain ⟨u29, hu29, h⟩ := ob_some h
      refine x_callV (As := [.int _, .int _]) (n := 2) C (Mc.atL (kX5_count l D cI cS aR _ _ X hu29) (wI cI aQ 6 S)) (fun hh => nomatch hh) wm_L_52 wi_X5_count we_X5_count wz_X5 wc_X5_count (by decide +kernel) rfl hP hD hS hA 0 2 (wRq_recv cI cS aR X aQ S) rfl rfl hl.1 dL_requests_300 rfl (Nat.le_of_ble_eq_true rfl) ⟨Nat.le_of_ble_eq_true rfl, Nat.le_of_ble_eq_true rfl⟩ ⟨Nat.le_of_ble_eq_true rfl, Nat.le_of_ble_eq_true rfl⟩ (fun H locs hP hD hS => ?_)
      refine x_icmp_ne (tgt := 331) C h dL_requests_303 (by decide) (fun h => ?_) (fun h => ?_)
      · exact B331 _ h _ _ _ hP hD hS (lv_sub hl [] rfl)
      · refine x_aload_n C dL_requests_306 rfl hl 0 rfl ?_
        refine x_iload C dL_requests_307 hl 3 rfl ?_
        refine x_iconst (v := (1 : Int32)) C dL_requests_309 (by decide) ?_
        obtain ⟨u30, hu30, h⟩ := ob_some h
        refine x_callV (As := [.int _, .int _]) (n := 2) C (Mc.atL (kX5_count l D cI cS aR _ _ X hu30) (wI cI aQ 6 S)) (fun hh => nomatch hh) wm_L_52 wi_X5_count we_X5_count wz_X5 wc_X5_count (by decide +kernel) rfl hP hD hS hA 0 2 (wRq_recv cI cS aR X aQ S) rfl rfl hl.1 dL_requests_310 rfl (Nat.le_of_ble_eq_true rfl) ⟨Nat.le_of_ble_eq_true rfl, Nat.le_of_ble_eq_true rfl⟩ ⟨Nat.le_of_ble_eq_true rfl, Nat.le_of_ble_eq_true rfl⟩ (fun H locs hP hD hS => ?_)
        refine x_aload_n C dL_requests_313 rfl hl 0 rfl ?_
        refine x_iload C dL_requests_314 hl 3 rfl ?_
        refine x_iconst (v := (2 : Int32)) C dL_requests_316 (by decide) ?_
        obtain ⟨u31, hu31, h⟩ := ob_some h
        refine x_callV (As := [.int _, .int _]) (n := 2) C (Mc.atL (kX5_count l D cI cS aR _ _ X hu31) (wI cI aQ 6 S)) (fun hh => nomatch hh) wm_L_52 wi_X5_count we_X5_count wz_X5 wc_X5_count (by decide +kernel) rfl hP hD hS hA 0 2 (wRq_recv cI cS aR X aQ S) rfl rfl hl.1 dL_requests_317 rfl (Nat.le_of_ble_eq_true rfl) ⟨Nat.le_of_ble_eq_true rfl, Nat.le_of_ble_eq_true rfl⟩ ⟨Nat.le_of_ble_eq_true rfl, Nat.le_of_ble_eq_true rfl⟩ (fun H locs hP hD hS => ?_)
        refine x_aload_n C dL_requests_320 rfl hl 0 rfl ?_
        refine x_iload C dL_requests_321 hl 3 rfl ?_
        refine x_iconst (v := (4 : Int32)) C dL_requests_323 (by decide) ?_
        obtain ⟨u32, hu32, h⟩ := ob_some h
        refine x_callV (As := [.int _, .int _]) (n := 2) C (Mc.atL (kX5_count l D cI cS aR _ _ X hu32) (wI cI aQ 6 S)) (fun hh => nomatch hh) wm_L_52 wi_X5_count we_X5_count wz_X5 wc_X5_count (by decide +kernel) rfl hP hD hS hA 0 2 (wRq_recv cI cS aR X aQ S) rfl rfl hl.1 dL_requests_324 rfl (Nat.le_of_ble_eq_true rfl) ⟨Nat.le_of_ble_eq_true rfl, Nat.le_of_ble_eq_true rfl⟩ ⟨Nat.le_of_ble_eq_true rfl, Nat.le_of_ble_eq_true rfl⟩ (fun H locs hP hD hS => ?_)
        refine x_iadd C dL_requests_327 ?_
        refine x_icmp_ge (tgt := 333) C h dL_requests_328 (by decide) (fun h => ?_) (fun h => ?_)
        · refine x_iinc (v := (x4 + (1 : Int32))) (lv' := [(4, .int (x4 + (1 : Int32))), (0, .ref (aR 0)), (1, .ref aQ), (2, .int x2), (5, .int x5), (6, .int x6)]) C dL_requests_333 hl (k := 3) rfl rfl (by decide) rfl (fun ls hl => ?_)
          refine x_goto (tgt := 190) C dL_requests_336 (by decide) ?_
          exact ih190 _ h _ _ _ hP hD hS (lv_sub hl [1, 2, 3, 0] rfl)
        · exact B331 _ h _ _ _ hP hD hS (lv_sub hl [] rfl)
    · refine x_iload C dL_requests_275 hl 4 rfl ?_
      refine x_aload_n C dL_requests_277 rfl hl 0 rfl ?_
      refine x_iload C dL_requests_278 hl 3 rfl ?_
      refine x_iload C dL_requests_280 hl 5 rfl ?_
      obtain ⟨u33, hu33, h⟩ := ob_some h
      refine x_callV (As := [.int _, .int _]) (n := 2) C (Mc.atL (kX5_succeededAt l D cI cS aR _ _ X hu33) (wI cI aQ 6 S)) (fun _ => hz) wm_L_55 wi_X5_succeededAt we_X5_succeededAt wz_X5 wc_X5_succeededAt (by decide +kernel) rfl hP hD hS hA 0 2 (wRq_recv cI cS aR X aQ S) rfl rfl hl.1 dL_requests_282 rfl (Nat.le_of_ble_eq_true rfl) ⟨Nat.le_of_ble_eq_true rfl, Nat.le_of_ble_eq_true rfl⟩ ⟨Nat.le_of_ble_eq_true rfl, Nat.le_of_ble_eq_true rfl⟩ (fun H locs hP hD hS => ?_)
      refine x_iadd C dL_requests_285 ?_
      refine x_nmi h (fun v34 h => ?_)
      refine x_istore (lv' := [(5, .int v34), (0, .ref (aR 0)), (1, .ref aQ), (2, .int x2), (4, .int x4), (6, .int x6)]) C dL_requests_286 hl (by decide) rfl (fun ls hl => ?_)
      refine x_iinc (v := (x6 + (1 : Int32))) (lv' := [(6, .int (x6 + (1 : Int32))), (5, .int v34), (0, .ref (aR 0)), (1, .ref aQ), (2, .int x2), (4, .int x4)]) C dL_requests_288 hl (k := 5) rfl rfl (by decide) rfl (fun ls hl => ?_)
      refine x_goto (tgt := 268) C dL_requests_291 (by decide) ?_
      exact ih268 _ h _ _ _ hP hD hS (lv_sub hl [2, 3, 4, 5, 1, 0] rfl)
  have B260 : ∀ (S : Nat → Int32), bfL_requests_260 X S = some q → ∀ (H : Heap) (locs : List Loc) (ls : Array Slot), va_P D vwCl (wR cI cS aR X ++ wI cI aQ 6 S) H → va_D A (wR cI cS aR X ++ wI cI aQ 6 S) → va_S A s.heap H locs → lv_has ls 10 [] → W p l e (rmN 5 1 6) s m args below meth c H locs 1 6 Q (F0 m 260 ls []) := by
    intro S h H locs ls hP hD hS hl
    refine x_iconst (v := (0 : Int32)) C dL_requests_260 (by decide) ?_
    exact RETh (by decide) dL_requests_261 h hP hD hS
  have B190 : ∀ (n : Nat) (x : Int32 × Int32 × (Nat → Int32)), iter (bfL_requests_190 X) n x = some q → (match x with | (x2, x4, S) => ∀ (H : Heap) (locs : List Loc) (ls : Array Slot), va_P D vwCl (wR cI cS aR X ++ wI cI aQ 6 S) H → va_D A (wR cI cS aR X ++ wI cI aQ 6 S) → va_S A s.heap H locs → lv_has ls 10 [(0, .ref (aR 0)), (1, .ref aQ), (2, .int x2), (4, .int x4)] → W p l e (rmN 5 1 6) s m args below meth c H locs 1 6 Q (F0 m 190 ls [])) := by
    refine iter_ind (fun x : Int32 × Int32 × (Nat → Int32) => (match x with | (x2, x4, S) => ∀ (H : Heap) (locs : List Loc) (ls : Array Slot), va_P D vwCl (wR cI cS aR X ++ wI cI aQ 6 S) H → va_D A (wR cI cS aR X ++ wI cI aQ 6 S) → va_S A s.heap H locs → lv_has ls 10 [(0, .ref (aR 0)), (1, .ref aQ), (2, .int x2), (4, .int x4)] → W p l e (rmN 5 1 6) s m args below meth c H locs 1 6 Q (F0 m 190 ls []))) ?_
    intro K190 ih190 x h
    obtain ⟨x2, x4, S⟩ := x
    intro H locs ls hP hD hS hl
    refine x_iload C dL_requests_190 hl 3 rfl ?_
    refine x_bipush (v := (6 : Int32)) C dL_requests_192 (by decide) ?_
    refine x_icmp_ge (tgt := 339) C h dL_requests_194 (by decide) (fun h => ?_) (fun h => ?_)
    · refine x_aload_n C dL_requests_339 rfl hl 0 rfl ?_
      refine x_aload_n C dL_requests_340 rfl hl 0 rfl ?_
      refine x_iconst (v := (1 : Int32)) C dL_requests_341 (by decide) ?_
      obtain ⟨u35, hu35, h⟩ := ob_some h
      refine x_callV (As := [.int _]) (n := 1) C (Mc.atL (kX5_told l D cI cS aR _ X hu35) (wI cI aQ 6 S)) (fun hh => nomatch hh) wm_L_43 wi_X5_told we_X5_told wz_X5 wc_X5_told (by decide +kernel) rfl hP hD hS hA 0 2 (wRq_recv cI cS aR X aQ S) rfl rfl hl.1 dL_requests_342 rfl (Nat.le_of_ble_eq_true rfl) ⟨Nat.le_of_ble_eq_true rfl, Nat.le_of_ble_eq_true rfl⟩ ⟨Nat.le_of_ble_eq_true rfl, Nat.le_of_ble_eq_true rfl⟩ (fun H locs hP hD hS => ?_)
      obtain ⟨u36, hu36, h⟩ := ob_some h
      refine x_callV (As := [.int _]) (n := 1) C (Mc.atL (kX5_live l D cI cS aR _ X hu36) (wI cI aQ 6 S)) (fun hh => nomatch hh) wm_L_46 wi_X5_live we_X5_live wz_X5 wc_X5_live (by decide +kernel) rfl hP hD hS hA 0 2 (wRq_recv cI cS aR X aQ S) rfl rfl hl.1 dL_requests_345 rfl (Nat.le_of_ble_eq_true rfl) ⟨Nat.le_of_ble_eq_true rfl, Nat.le_of_ble_eq_true rfl⟩ ⟨Nat.le_of_ble_eq_true rfl, Nat.le_of_ble_eq_true rfl⟩ (fun H locs hP hD hS => ?_)
      refine x_bipush (v := (-9 : Int32)) C dL_requests_348 (by decide) ?_
      refine x_icmp_ne (tgt := 376) C h dL_requests_350 (by decide) (fun h => ?_) (fun h => ?_)
      · exact B376 _ h _ _ _ hP hD hS (lv_sub hl [] rfl)
      · refine x_iload_n C dL_requests_353 rfl hl 2 rfl ?_
        refine x_aload_n C dL_requests_354 rfl hl 0 rfl ?_
        refine x_iconst (v := (2 : Int32)) C dL_requests_355 (by decide) ?_
        obtain ⟨u37, hu37, h⟩ := ob_some h
        refine x_callV (As := [.int _]) (n := 1) C (Mc.atL (kX5_told l D cI cS aR _ X hu37) (wI cI aQ 6 S)) (fun hh => nomatch hh) wm_L_43 wi_X5_told we_X5_told wz_X5 wc_X5_told (by decide +kernel) rfl hP hD hS hA 0 2 (wRq_recv cI cS aR X aQ S) rfl rfl hl.1 dL_requests_356 rfl (Nat.le_of_ble_eq_true rfl) ⟨Nat.le_of_ble_eq_true rfl, Nat.le_of_ble_eq_true rfl⟩ ⟨Nat.le_of_ble_eq_true rfl, Nat.le_of_ble_eq_true rfl⟩ (fun H locs hP hD hS => ?_)
        refine x_icmp_ne (tgt := 376) C h dL_requests_359 (by decide) (fun h => ?_) (fun h => ?_)
        · exact B376 _ h _ _ _ hP hD hS (lv_sub hl [] rfl)
        · refine x_aload_n C dL_requests_362 rfl hl 0 rfl ?_
          refine x_iconst (v := (1 : Int32)) C dL_requests_363 (by decide) ?_
          obtain ⟨u38, hu38, h⟩ := ob_some h
          refine x_callV (As := [.int _]) (n := 1) C (Mc.atL (kX5_told l D cI cS aR _ X hu38) (wI cI aQ 6 S)) (fun hh => nomatch hh) wm_L_43 wi_X5_told we_X5_told wz_X5 wc_X5_told (by decide +kernel) rfl hP hD hS hA 0 2 (wRq_recv cI cS aR X aQ S) rfl rfl hl.1 dL_requests_364 rfl (Nat.le_of_ble_eq_true rfl) ⟨Nat.le_of_ble_eq_true rfl, Nat.le_of_ble_eq_true rfl⟩ ⟨Nat.le_of_ble_eq_true rfl, Nat.le_of_ble_eq_true rfl⟩ (fun H locs hP hD hS => ?_)
          refine x_bipush (v := (16 : Int32)) C dL_requests_367 (by decide) ?_
          refine x_icmp_gt (tgt := 376) C h dL_requests_369 (by decide) (fun h => ?_) (fun h => ?_)
          · exact B376 _ h _ _ _ hP hD hS (lv_sub hl [] rfl)
          · refine x_iconst (v := (1 : Int32)) C dL_requests_372 (by decide) ?_
            refine x_goto (tgt := 377) C dL_requests_373 (by decide) ?_
            exact B377 _ _ h _ _ _ hP hD hS (lv_sub hl [] rfl)
    · refine x_aload_n C dL_requests_197 rfl hl 0 rfl ?_
      refine x_iload C dL_requests_198 hl 3 rfl ?_
      refine x_iconst (v := (0 : Int32)) C dL_requests_200 (by decide) ?_
      obtain ⟨u39, hu39, h⟩ := ob_some h
      refine x_callV (As := [.int _, .int _]) (n := 2) C (Mc.atL (kX5_count l D cI cS aR _ _ X hu39) (wI cI aQ 6 S)) (fun hh => nomatch hh) wm_L_52 wi_X5_count we_X5_count wz_X5 wc_X5_count (by decide +kernel) rfl hP hD hS hA 0 2 (wRq_recv cI cS aR X aQ S) rfl rfl hl.1 dL_requests_201 rfl (Nat.le_of_ble_eq_true rfl) ⟨Nat.le_of_ble_eq_true rfl, Nat.le_of_ble_eq_true rfl⟩ ⟨Nat.le_of_ble_eq_true rfl, Nat.le_of_ble_eq_true rfl⟩ (fun H locs hP hD hS => ?_)
      refine x_aload_n C dL_requests_204 rfl hl 0 rfl ?_
      refine x_iload C dL_requests_205 hl 3 rfl ?_
      refine x_iconst (v := (2 : Int32)) C dL_requests_207 (by decide) ?_
      obtain ⟨u40, hu40, h⟩ := ob_some h
      refine x_callV (As := [.int _, .int _]) (n := 2) C (Mc.atL (kX5_count l D cI cS aR _ _ X hu40) (wI cI aQ 6 S)) (fun hh => nomatch hh) wm_L_52 wi_X5_count we_X5_count wz_X5 wc_X5_count (by decide +kernel) rfl hP hD hS hA 0 2 (wRq_recv cI cS aR X aQ S) rfl rfl hl.1 dL_requests_208 rfl (Nat.le_of_ble_eq_true rfl) ⟨Nat.le_of_ble_eq_true rfl, Nat.le_of_ble_eq_true rfl⟩ ⟨Nat.le_of_ble_eq_true rfl, Nat.le_of_ble_eq_true rfl⟩ (fun H locs hP hD hS => ?_)
      refine x_aload_n C dL_requests_211 rfl hl 0 rfl ?_
      refine x_iload C dL_requests_212 hl 3 rfl ?_
      refine x_iconst (v := (3 : Int32)) C dL_requests_214 (by decide) ?_
      obtain ⟨u41, hu41, h⟩ := ob_some h
      refine x_callV (As := [.int _, .int _]) (n := 2) C (Mc.atL (kX5_count l D cI cS aR _ _ X hu41) (wI cI aQ 6 S)) (fun hh => nomatch hh) wm_L_52 wi_X5_count we_X5_count wz_X5 wc_X5_count (by decide +kernel) rfl hP hD hS hA 0 2 (wRq_recv cI cS aR X aQ S) rfl rfl hl.1 dL_requests_215 rfl (Nat.le_of_ble_eq_true rfl) ⟨Nat.le_of_ble_eq_true rfl, Nat.le_of_ble_eq_true rfl⟩ ⟨Nat.le_of_ble_eq_true rfl, Nat.le_of_ble_eq_true rfl⟩ (fun H locs hP hD hS => ?_)
      refine x_iadd C dL_requests_218 ?_
      refine x_aload_n C dL_requests_219 rfl hl 1 rfl ?_
      refine x_iload C dL_requests_220 hl 3 rfl ?_
      refine x_iald C h hP 140 rfl (t0 := 0) rfl dL_requests_222 (fun h => ?_)
      refine x_iadd C dL_requests_223 ?_
      refine x_icmp_ne (tgt := 260) C h dL_requests_224 (by decide) (fun h => ?_) (fun h => ?_)
      · exact B260 _ h _ _ _ hP hD hS (lv_sub hl [] rfl)
      · refine x_aload_n C dL_requests_227 rfl hl 0 rfl ?_
        refine x_iload C dL_requests_228 hl 3 rfl ?_
        refine x_bipush (v := (7 : Int32)) C dL_requests_230 (by decide) ?_
        obtain ⟨u42, hu42, h⟩ := ob_some h
        refine x_callV (As := [.int _, .int _]) (n := 2) C (Mc.atL (kX5_count l D cI cS aR _ _ X hu42) (wI cI aQ 6 S)) (fun hh => nomatch hh) wm_L_52 wi_X5_count we_X5_count wz_X5 wc_X5_count (by decide +kernel) rfl hP hD hS hA 0 2 (wRq_recv cI cS aR X aQ S) rfl rfl hl.1 dL_requests_232 rfl (Nat.le_of_ble_eq_true rfl) ⟨Nat.le_of_ble_eq_true rfl, Nat.le_of_ble_eq_true rfl⟩ ⟨Nat.le_of_ble_eq_true rfl, Nat.le_of_ble_eq_true rfl⟩ (fun H locs hP hD hS => ?_)
        refine x_if_lt (tgt := 260) C h dL_requests_235 (by decide) (fun h => ?_) (fun h => ?_)
        · exact B260 _ h _ _ _ hP hD hS (lv_sub hl [] rfl)
        · refine x_aload_n C dL_requests_238 rfl hl 0 rfl ?_
          refine x_iload C dL_requests_239 hl 3 rfl ?_
          refine x_bipush (v := (7 : Int32)) C dL_requests_241 (by decide) ?_
          obtain ⟨u43, hu43, h⟩ := ob_some h
          refine x_callV (As := [.int _, .int _]) (n := 2) C (Mc.atL (kX5_count l D cI cS aR _ _ X hu43) (wI cI aQ 6 S)) (fun hh => nomatch hh) wm_L_52 wi_X5_count we_X5_count wz_X5 wc_X5_count (by decide +kernel) rfl hP hD hS hA 0 2 (wRq_recv cI cS aR X aQ S) rfl rfl hl.1 dL_requests_243 rfl (Nat.le_of_ble_eq_true rfl) ⟨Nat.le_of_ble_eq_true rfl, Nat.le_of_ble_eq_true rfl⟩ ⟨Nat.le_of_ble_eq_true rfl, Nat.le_of_ble_eq_true rfl⟩ (fun H locs hP hD hS => ?_)
          refine x_bipush (v := (10 : Int32)) C dL_requests_246 (by decide) ?_
          refine x_aload_n C dL_requests_248 rfl hl 0 rfl ?_
          refine x_iload C dL_requests_249 hl 3 rfl ?_
          refine x_bipush (v := (10 : Int32)) C dL_requests_251 (by decide) ?_
          obtain ⟨u44, hu44, h⟩ := ob_some h
          refine x_callV (As := [.int _, .int _]) (n := 2) C (Mc.atL (kX5_property l D cI cS aR _ _ X hu44) (wI cI aQ 6 S)) (fun hh => nomatch hh) wm_L_19 wi_X5_property we_X5_property wz_X5 wc_X5_property (by decide +kernel) rfl hP hD hS hA 0 2 (wRq_recv cI cS aR X aQ S) rfl rfl hl.1 dL_requests_253 rfl (Nat.le_of_ble_eq_true rfl) ⟨Nat.le_of_ble_eq_true rfl, Nat.le_of_ble_eq_true rfl⟩ ⟨Nat.le_of_ble_eq_true rfl, Nat.le_of_ble_eq_true rfl⟩ (fun H locs hP hD hS => ?_)
          refine x_imul C dL_requests_256 ?_
          refine x_icmp_le (tgt := 262) C h dL_requests_257 (by decide) (fun h => ?_) (fun h => ?_)
          · refine x_iconst (v := (0 : Int32)) C dL_requests_262 (by decide) ?_
            refine x_istore (lv' := [(5, .int (0 : Int32)), (0, .ref (aR 0)), (1, .ref aQ), (2, .int x2), (4, .int x4)]) C dL_requests_263 hl (by decide) rfl (fun ls hl => ?_)
            refine x_iconst (v := (1 : Int32)) C dL_requests_265 (by decide) ?_
            refine x_istore (lv' := [(6, .int (1 : Int32)), (5, .int (0 : Int32)), (0, .ref (aR 0)), (1, .ref aQ), (2, .int x2), (4, .int x4)]) C dL_requests_266 hl (by decide) rfl (fun ls hl => ?_)
            exact B268 K190 ih190 FU _ h _ _ _ hP hD hS (lv_sub hl [2, 3, 4, 5, 1, 0] rfl)
          · exact B260 _ h _ _ _ hP hD hS (lv_sub hl [] rfl)
  have B168 : ∀ (K12 : Int32 × Int32 × Int32 × (Nat → Int32) → Option (Int32)) (ih12 : ∀ x, K12 x = some q → (match x with | (x2, x3, x4, S) => ∀ (H : Heap) (locs : List Loc) (ls : Array Slot), va_P D vwCl (wR cI cS aR X ++ wI cI aQ 6 S) H → va_D A (wR cI cS aR X ++ wI cI aQ 6 S) → va_S A s.heap H locs → lv_has ls 10 [(0, .ref (aR 0)), (1, .ref aQ), (2, .int x2), (3, .int x3), (4, .int x4)] → W p l e (rmN 5 1 6) s m args below meth c H locs 1 6 Q (F0 m 12 ls []))) (x4 : Int32) (x5 : Int32) (x6 : Int32) (s0 : Int32) (s1 : Int32) (S : Nat → Int32), bfL_requests_168 X K12 x4 x5 x6 s0 s1 S = some q → ∀ (H : Heap) (locs : List Loc) (ls : Array Slot), va_P D vwCl (wR cI cS aR X ++ wI cI aQ 6 S) H → va_D A (wR cI cS aR X ++ wI cI aQ 6 S) → va_S A s.heap H locs → lv_has ls 10 [(0, .ref (aR 0)), (1, .ref aQ), (4, .int x4), (5, .int x5), (6, .int x6)] → W p l e (rmN 5 1 6) s m args below meth c H locs 1 6 Q (F0 m 168 ls [.int s1, .int s0]) := by
    intro K12 ih12 x4 x5 x6 s0 s1 S h H locs ls hP hD hS hl
    refine x_iadd C dL_requests_168 ?_
    refine x_nmi h (fun v45 h => ?_)
    refine x_istore_n (lv' := [(2, .int v45), (0, .ref (aR 0)), (1, .ref aQ), (4, .int x4), (5, .int x5), (6, .int x6)]) C dL_requests_169 rfl hl (by decide) rfl (fun ls hl => ?_)
    refine x_aload_n C dL_requests_170 rfl hl 2 rfl ?_
    refine x_iload C dL_requests_171 hl 5 rfl ?_
    refine x_dup2 C dL_requests_173 rfl rfl ?_
    refine x_iald C h hP 140 rfl (t0 := 0) rfl dL_requests_174 (fun h => ?_)
    refine x_iconst (v := (1 : Int32)) C dL_requests_175 (by decide) ?_
    refine x_iadd C dL_requests_176 ?_
    refine x_iastM (fun f => wR cI cS aR X ++ wI cI aQ 6 f) C h hP hD hS 140 rfl (t0 := 0) rfl rfl dL_requests_177 (fun S46 h H locs hP hD hS => ?_)
    refine x_iload C dL_requests_178 hl 4 rfl ?_
    refine x_istore_n (lv' := [(3, .int x5), (2, .int v45), (0, .ref (aR 0)), (1, .ref aQ), (4, .int x4), (5, .int x5), (6, .int x6)]) C dL_requests_180 rfl hl (by decide) rfl (fun ls hl => ?_)
    refine x_iinc (v := (x4 + (1 : Int32))) (lv' := [(4, .int (x4 + (1 : Int32))), (3, .int x5), (2, .int v45), (0, .ref (aR 0)), (1, .ref aQ), (5, .int x5), (6, .int x6)]) C dL_requests_181 hl (k := 4) rfl rfl (by decide) rfl (fun ls hl => ?_)
    refine x_goto (tgt := 12) C dL_requests_184 (by decide) ?_
    exact ih12 _ h _ _ _ hP hD hS (lv_sub hl [3, 4, 2, 1, 0] rfl)
  have B157 : ∀ (K12 : Int32 × Int32 × Int32 × (Nat → Int32) → Option (Int32)) (ih12 : ∀ x, K12 x = some q → (match x with | (x2, x3, x4, S) => ∀ (H : Heap) (locs : List Loc) (ls : Array Slot), va_P D vwCl (wR cI cS aR X ++ wI cI aQ 6 S) H → va_D A (wR cI cS aR X ++ wI cI aQ 6 S) → va_S A s.heap H locs → lv_has ls 10 [(0, .ref (aR 0)), (1, .ref aQ), (2, .int x2), (3, .int x3), (4, .int x4)] → W p l e (rmN 5 1 6) s m args below meth c H locs 1 6 Q (F0 m 12 ls []))) (x2 : Int32) (x4 : Int32) (x5 : Int32) (x6 : Int32) (x7 : Int32) (S : Nat → Int32), bfL_requests_157 X K12 x2 x4 x5 x6 x7 S = some q → ∀ (H : Heap) (locs : List Loc) (ls : Array Slot), va_P D vwCl (wR cI cS aR X ++ wI cI aQ 6 S) H → va_D A (wR cI cS aR X ++ wI cI aQ 6 S) → va_S A s.heap H locs → lv_has ls 10 [(0, .ref (aR 0)), (1, .ref aQ), (2, .int x2), (4, .int x4), (5, .int x5), (6, .int x6), (7, .int x7)] → W p l e (rmN 5 1 6) s m args below meth c H locs 1 6 Q (F0 m 157 ls []) := by
    intro K12 ih12 x2 x4 x5 x6 x7 S h H locs ls hP hD hS hl
    refine x_iload_n C dL_requests_157 rfl hl 2 rfl ?_
    refine x_iload C dL_requests_158 hl 6 rfl ?_
    refine x_if_ne (tgt := 167) C h dL_requests_160 (by decide) (fun h => ?_) (fun h => ?_)
    · refine x_iconst (v := (0 : Int32)) C dL_requests_167 (by decide) ?_
      exact B168 K12 ih12 _ _ _ _ _ _ h _ _ _ hP hD hS (lv_sub hl [0, 1, 3, 4, 5] rfl)
    · refine x_iconst (v := (1 : Int32)) C dL_requests_163 (by decide) ?_
      refine x_goto (tgt := 168) C dL_requests_164 (by decide) ?_
      exact B168 K12 ih12 _ _ _ _ _ _ h _ _ _ hP hD hS (lv_sub hl [0, 1, 3, 4, 5] rfl)
  have B155 : ∀ (S : Nat → Int32), bfL_requests_155 X S = some q → ∀ (H : Heap) (locs : List Loc) (ls : Array Slot), va_P D vwCl (wR cI cS aR X ++ wI cI aQ 6 S) H → va_D A (wR cI cS aR X ++ wI cI aQ 6 S) → va_S A s.heap H locs → lv_has ls 10 [] → W p l e (rmN 5 1 6) s m args below meth c H locs 1 6 Q (F0 m 155 ls []) := by
    intro S h H locs ls hP hD hS hl
    refine x_iconst (v := (0 : Int32)) C dL_requests_155 (by decide) ?_
    exact RETh (by decide) dL_requests_156 h hP hD hS
  have B101 : ∀ (S : Nat → Int32), bfL_requests_101 X S = some q → ∀ (H : Heap) (locs : List Loc) (ls : Array Slot), va_P D vwCl (wR cI cS aR X ++ wI cI aQ 6 S) H → va_D A (wR cI cS aR X ++ wI cI aQ 6 S) → va_S A s.heap H locs → lv_has ls 10 [] → W p l e (rmN 5 1 6) s m args below meth c H locs 1 6 Q (F0 m 101 ls []) := by
    intro S h H locs ls hP hD hS hl
    refine x_iconst (v := (0 : Int32)) C dL_requests_101 (by decide) ?_
    exact RETh (by decide) dL_requests_102 h hP hD hS
  have B12 : ∀ (n : Nat) (x : Int32 × Int32 × Int32 × (Nat → Int32)), iter (bfL_requests_12 X) n x = some q → (match x with | (x2, x3, x4, S) => ∀ (H : Heap) (locs : List Loc) (ls : Array Slot), va_P D vwCl (wR cI cS aR X ++ wI cI aQ 6 S) H → va_D A (wR cI cS aR X ++ wI cI aQ 6 S) → va_S A s.heap H locs → lv_has ls 10 [(0, .ref (aR 0)), (1, .ref aQ), (2, .int x2), (3, .int x3), (4, .int x4)] → W p l e (rmN 5 1 6) s m args below meth c H locs 1 6 Q (F0 m 12 ls [])) := by
    refine iter_ind (fun x : Int32 × Int32 × Int32 × (Nat → Int32) => (match x with | (x2, x3, x4, S) => ∀ (H : Heap) (locs : List Loc) (ls : Array Slot), va_P D vwCl (wR cI cS aR X ++ wI cI aQ 6 S) H → va_D A (wR cI cS aR X ++ wI cI aQ 6 S) → va_S A s.heap H locs → lv_has ls 10 [(0, .ref (aR 0)), (1, .ref aQ), (2, .int x2), (3, .int x3), (4, .int x4)] → W p l e (rmN 5 1 6) s m args below meth c H locs 1 6 Q (F0 m 12 ls []))) ?_
    intro K12 ih12 x h
    obtain ⟨x2, x3, x4, S⟩ := x
    intro H locs ls hP hD hS hl
    refine x_iload C dL_requests_12 hl 4 rfl ?_
    refine x_aload_n C dL_requests_14 rfl hl 0 rfl ?_
    refine x_iconst (v := (1 : Int32)) C dL_requests_15 (by decide) ?_
    obtain ⟨u47, hu47, h⟩ := ob_some h
    refine x_callV (As := [.int _]) (n := 1) C (Mc.atL (kX5_told l D cI cS aR _ X hu47) (wI cI aQ 6 S)) (fun hh => nomatch hh) wm_L_43 wi_X5_told we_X5_told wz_X5 wc_X5_told (by decide +kernel) rfl hP hD hS hA 0 2 (wRq_recv cI cS aR X aQ S) rfl rfl hl.1 dL_requests_16 rfl (Nat.le_of_ble_eq_true rfl) ⟨Nat.le_of_ble_eq_true rfl, Nat.le_of_ble_eq_true rfl⟩ ⟨Nat.le_of_ble_eq_true rfl, Nat.le_of_ble_eq_true rfl⟩ (fun H locs hP hD hS => ?_)
    refine x_icmp_ge (tgt := 187) C h dL_requests_19 (by decide) (fun h => ?_) (fun h => ?_)
    · refine x_iconst (v := (0 : Int32)) C dL_requests_187 (by decide) ?_
      refine x_istore (lv' := [(4, .int (0 : Int32)), (0, .ref (aR 0)), (1, .ref aQ), (2, .int x2), (3, .int x3)]) C dL_requests_188 hl (by decide) rfl (fun ls hl => ?_)
      exact B190 FU _ h _ _ _ hP hD hS (lv_sub hl [1, 2, 3, 0] rfl)
    · refine x_aload_n C dL_requests_22 rfl hl 0 rfl ?_
      refine x_iload C dL_requests_23 hl 4 rfl ?_
      obtain ⟨u48, hu48, h⟩ := ob_some h
      refine x_callV (As := [.int _]) (n := 1) C (Mc.atL (kX5_live l D cI cS aR _ X hu48) (wI cI aQ 6 S)) (fun hh => nomatch hh) wm_L_46 wi_X5_live we_X5_live wz_X5 wc_X5_live (by decide +kernel) rfl hP hD hS hA 0 2 (wRq_recv cI cS aR X aQ S) rfl rfl hl.1 dL_requests_25 rfl (Nat.le_of_ble_eq_true rfl) ⟨Nat.le_of_ble_eq_true rfl, Nat.le_of_ble_eq_true rfl⟩ ⟨Nat.le_of_ble_eq_true rfl, Nat.le_of_ble_eq_true rfl⟩ (fun H locs hP hD hS => ?_)
      refine x_istore (lv' := [(5, .int u48), (0, .ref (aR 0)), (1, .ref aQ), (2, .int x2), (3, .int x3), (4, .int x4)]) C dL_requests_28 hl (by decide) rfl (fun ls hl => ?_)
      refine x_aload_n C dL_requests_30 rfl hl 1 rfl ?_
      refine x_iload C dL_requests_31 hl 0 rfl ?_
      refine x_iconst (v := (0 : Int32)) C dL_requests_33 (by decide) ?_
      obtain ⟨u49, hu49, h⟩ := ob_some h
      refine x_callV (As := [.int _, .int _]) (n := 2) C (Mc.atL (kX5_request l D cI cS aR _ _ X hu49) (wI cI aQ 6 S)) (fun hh => nomatch hh) wm_L_49 wi_X5_request we_X5_request wz_X5 wc_X5_request (by decide +kernel) rfl hP hD hS hA 0 2 (wRq_recv cI cS aR X aQ S) rfl rfl hl.1 dL_requests_34 rfl (Nat.le_of_ble_eq_true rfl) ⟨Nat.le_of_ble_eq_true rfl, Nat.le_of_ble_eq_true rfl⟩ ⟨Nat.le_of_ble_eq_true rfl, Nat.le_of_ble_eq_true rfl⟩ (fun H locs hP hD hS => ?_)
      refine x_istore (lv' := [(6, .int u49), (5, .int u48), (0, .ref (aR 0)), (1, .ref aQ), (2, .int x2), (3, .int x3), (4, .int x4)]) C dL_requests_37 hl (by decide) rfl (fun ls hl => ?_)
      refine x_aload_n C dL_requests_39 rfl hl 2 rfl ?_
      refine x_iload C dL_requests_40 hl 1 rfl ?_
      refine x_iconst (v := (3 : Int32)) C dL_requests_42 (by decide) ?_
      obtain ⟨u50, hu50, h⟩ := ob_some h
      refine x_callV (As := [.int _, .int _]) (n := 2) C (Mc.atL (kX5_request l D cI cS aR _ _ X hu50) (wI cI aQ 6 S)) (fun hh => nomatch hh) wm_L_49 wi_X5_request we_X5_request wz_X5 wc_X5_request (by decide +kernel) rfl hP hD hS hA 0 2 (wRq_recv cI cS aR X aQ S) rfl rfl hl.1 dL_requests_43 rfl (Nat.le_of_ble_eq_true rfl) ⟨Nat.le_of_ble_eq_true rfl, Nat.le_of_ble_eq_true rfl⟩ ⟨Nat.le_of_ble_eq_true rfl, Nat.le_of_ble_eq_true rfl⟩ (fun H locs hP hD hS => ?_)
      refine x_istore (lv' := [(7, .int u50), (6, .int u49), (5, .int u48), (0, .ref (aR 0)), (1, .ref aQ), (2, .int x2), (3, .int x3), (4, .int x4)]) C dL_requests_46 hl (by decide) rfl (fun ls hl => ?_)
      refine x_aload_n C dL_requests_48 rfl hl 3 rfl ?_
      refine x_iload C dL_requests_49 hl 2 rfl ?_
      refine x_iconst (v := (4 : Int32)) C dL_requests_51 (by decide) ?_
      obtain ⟨u51, hu51, h⟩ := ob_some h
      refine x_callV (As := [.int _, .int _]) (n := 2) C (Mc.atL (kX5_request l D cI cS aR _ _ X hu51) (wI cI aQ 6 S)) (fun hh => nomatch hh) wm_L_49 wi_X5_request we_X5_request wz_X5 wc_X5_request (by decide +kernel) rfl hP hD hS hA 0 2 (wRq_recv cI cS aR X aQ S) rfl rfl hl.1 dL_requests_52 rfl (Nat.le_of_ble_eq_true rfl) ⟨Nat.le_of_ble_eq_true rfl, Nat.le_of_ble_eq_true rfl⟩ ⟨Nat.le_of_ble_eq_true rfl, Nat.le_of_ble_eq_true rfl⟩ (fun H locs hP hD hS => ?_)
      refine x_istore (lv' := [(8, .int u51), (7, .int u50), (6, .int u49), (5, .int u48), (0, .ref (aR 0)), (1, .ref aQ), (2, .int x2), (3, .int x3), (4, .int x4)]) C dL_requests_55 hl (by decide) rfl (fun ls hl => ?_)
      refine x_aload_n C dL_requests_57 rfl hl 4 rfl ?_
      refine x_iload C dL_requests_58 hl 3 rfl ?_
      refine x_iconst (v := (2 : Int32)) C dL_requests_60 (by decide) ?_
      obtain ⟨u52, hu52, h⟩ := ob_some h
      refine x_callV (As := [.int _, .int _]) (n := 2) C (Mc.atL (kX5_request l D cI cS aR _ _ X hu52) (wI cI aQ 6 S)) (fun hh => nomatch hh) wm_L_49 wi_X5_request we_X5_request wz_X5 wc_X5_request (by decide +kernel) rfl hP hD hS hA 0 2 (wRq_recv cI cS aR X aQ S) rfl rfl hl.1 dL_requests_61 rfl (Nat.le_of_ble_eq_true rfl) ⟨Nat.le_of_ble_eq_true rfl, Nat.le_of_ble_eq_true rfl⟩ ⟨Nat.le_of_ble_eq_true rfl, Nat.le_of_ble_eq_true rfl⟩ (fun H locs hP hD hS => ?_)
      refine x_istore (lv' := [(9, .int u52), (8, .int u51), (7, .int u50), (6, .int u49), (5, .int u48), (0, .ref (aR 0)), (1, .ref aQ), (2, .int x2), (3, .int x3), (4, .int x4)]) C dL_requests_64 hl (by decide) rfl (fun ls hl => ?_)
      refine x_iload C dL_requests_66 hl 4 rfl ?_
      refine x_iload_n C dL_requests_68 rfl hl 8 rfl ?_
      refine x_icmp_le (tgt := 101) C h dL_requests_69 (by decide) (fun h => ?_) (fun h => ?_)
      · exact B101 _ h _ _ _ hP hD hS (lv_sub hl [] rfl)
      · refine x_iload C dL_requests_72 hl 3 rfl ?_
        refine x_if_lt (tgt := 101) C h dL_requests_74 (by decide) (fun h => ?_) (fun h => ?_)
        · exact B101 _ h _ _ _ hP hD hS (lv_sub hl [] rfl)
        · refine x_iload C dL_requests_77 hl 2 rfl ?_
          refine x_if_lt (tgt := 101) C h dL_requests_79 (by decide) (fun h => ?_) (fun h => ?_)
          · exact B101 _ h _ _ _ hP hD hS (lv_sub hl [] rfl)
          · refine x_iload C dL_requests_82 hl 2 rfl ?_
            refine x_iconst (v := (4 : Int32)) C dL_requests_84 (by decide) ?_
            refine x_icmp_gt (tgt := 101) C h dL_requests_85 (by decide) (fun h => ?_) (fun h => ?_)
            · exact B101 _ h _ _ _ hP hD hS (lv_sub hl [] rfl)
            · refine x_iload C dL_requests_88 hl 0 rfl ?_
              refine x_iconst (v := (1 : Int32)) C dL_requests_90 (by decide) ?_
              refine x_icmp_lt (tgt := 101) C h dL_requests_91 (by decide) (fun h => ?_) (fun h => ?_)
              · exact B101 _ h _ _ _ hP hD hS (lv_sub hl [] rfl)
              · refine x_iload C dL_requests_94 hl 0 rfl ?_
                refine x_bipush (v := (6 : Int32)) C dL_requests_96 (by decide) ?_
                refine x_icmp_le (tgt := 103) C h dL_requests_98 (by decide) (fun h => ?_) (fun h => ?_)
                · refine x_iload C dL_requests_103 hl 2 rfl ?_
                  refine x_if_ne (tgt := 133) C h dL_requests_105 (by decide) (fun h => ?_) (fun h => ?_)
                  · refine x_iload C dL_requests_133 hl 1 rfl ?_
                    refine x_aload_n C dL_requests_135 rfl hl 5 rfl ?_
                    refine x_iconst (v := (0 : Int32)) C dL_requests_136 (by decide) ?_
                    obtain ⟨u53, hu53, h⟩ := ob_some h
                    refine x_callV (As := [.int _]) (n := 1) C (Mc.atL (kX5_told l D cI cS aR _ X hu53) (wI cI aQ 6 S)) (fun hh => nomatch hh) wm_L_43 wi_X5_told we_X5_told wz_X5 wc_X5_told (by decide +kernel) rfl hP hD hS hA 0 2 (wRq_recv cI cS aR X aQ S) rfl rfl hl.1 dL_requests_137 rfl (Nat.le_of_ble_eq_true rfl) ⟨Nat.le_of_ble_eq_true rfl, Nat.le_of_ble_eq_true rfl⟩ ⟨Nat.le_of_ble_eq_true rfl, Nat.le_of_ble_eq_true rfl⟩ (fun H locs hP hD hS => ?_)
                    refine x_icmp_le (tgt := 155) C h dL_requests_140 (by decide) (fun h => ?_) (fun h => ?_)
                    · exact B155 _ h _ _ _ hP hD hS (lv_sub hl [] rfl)
                    · refine x_iload C dL_requests_143 hl 1 rfl ?_
                      refine x_aload_n C dL_requests_145 rfl hl 5 rfl ?_
                      refine x_iload C dL_requests_146 hl 4 rfl ?_
                      refine x_iconst (v := (1 : Int32)) C dL_requests_148 (by decide) ?_
                      obtain ⟨u54, hu54, h⟩ := ob_some h
                      refine x_callV (As := [.int _, .int _]) (n := 2) C (Mc.atL (kX5_request l D cI cS aR _ _ X hu54) (wI cI aQ 6 S)) (fun hh => nomatch hh) wm_L_49 wi_X5_request we_X5_request wz_X5 wc_X5_request (by decide +kernel) rfl hP hD hS hA 0 2 (wRq_recv cI cS aR X aQ S) rfl rfl hl.1 dL_requests_149 rfl (Nat.le_of_ble_eq_true rfl) ⟨Nat.le_of_ble_eq_true rfl, Nat.le_of_ble_eq_true rfl⟩ ⟨Nat.le_of_ble_eq_true rfl, Nat.le_of_ble_eq_true rfl⟩ (fun H locs hP hD hS => ?_)
                      refine x_icmp_le (tgt := 157) C h dL_requests_152 (by decide) (fun h => ?_) (fun h => ?_)
                      · exact B157 K12 ih12 _ _ _ _ _ _ h _ _ _ hP hD hS (lv_sub hl [5, 6, 7, 9, 4, 3, 2] rfl)
                      · exact B155 _ h _ _ _ hP hD hS (lv_sub hl [] rfl)
                  · refine x_iload C dL_requests_108 hl 1 rfl ?_
                    refine x_aload_n C dL_requests_110 rfl hl 5 rfl ?_
                    refine x_iconst (v := (0 : Int32)) C dL_requests_111 (by decide) ?_
                    obtain ⟨u55, hu55, h⟩ := ob_some h
                    refine x_callV (As := [.int _]) (n := 1) C (Mc.atL (kX5_told l D cI cS aR _ X hu55) (wI cI aQ 6 S)) (fun hh => nomatch hh) wm_L_43 wi_X5_told we_X5_told wz_X5 wc_X5_told (by decide +kernel) rfl hP hD hS hA 0 2 (wRq_recv cI cS aR X aQ S) rfl rfl hl.1 dL_requests_112 rfl (Nat.le_of_ble_eq_true rfl) ⟨Nat.le_of_ble_eq_true rfl, Nat.le_of_ble_eq_true rfl⟩ ⟨Nat.le_of_ble_eq_true rfl, Nat.le_of_ble_eq_true rfl⟩ (fun H locs hP hD hS => ?_)
                    refine x_icmp_lt (tgt := 155) C h dL_requests_115 (by decide) (fun h => ?_) (fun h => ?_)
                    · exact B155 _ h _ _ _ hP hD hS (lv_sub hl [] rfl)
                    · refine x_iload C dL_requests_118 hl 1 rfl ?_
                      refine x_aload_n C dL_requests_120 rfl hl 5 rfl ?_
                      refine x_iload C dL_requests_121 hl 4 rfl ?_
                      refine x_iconst (v := (1 : Int32)) C dL_requests_123 (by decide) ?_
                      obtain ⟨u56, hu56, h⟩ := ob_some h
                      refine x_callV (As := [.int _, .int _]) (n := 2) C (Mc.atL (kX5_request l D cI cS aR _ _ X hu56) (wI cI aQ 6 S)) (fun hh => nomatch hh) wm_L_49 wi_X5_request we_X5_request wz_X5 wc_X5_request (by decide +kernel) rfl hP hD hS hA 0 2 (wRq_recv cI cS aR X aQ S) rfl rfl hl.1 dL_requests_124 rfl (Nat.le_of_ble_eq_true rfl) ⟨Nat.le_of_ble_eq_true rfl, Nat.le_of_ble_eq_true rfl⟩ ⟨Nat.le_of_ble_eq_true rfl, Nat.le_of_ble_eq_true rfl⟩ (fun H locs hP hD hS => ?_)
                      refine x_icmp_lt (tgt := 157) C h dL_requests_127 (by decide) (fun h => ?_) (fun h => ?_)
                      · exact B157 K12 ih12 _ _ _ _ _ _ h _ _ _ hP hD hS (lv_sub hl [5, 6, 7, 9, 4, 3, 2] rfl)
                      · refine x_goto (tgt := 155) C dL_requests_130 (by decide) ?_
                        exact B155 _ h _ _ _ hP hD hS (lv_sub hl [] rfl)
                · exact B101 _ h _ _ _ hP hD hS (lv_sub hl [] rfl)
  refine x_iconst (v := (0 : Int32)) C dL_requests_5 (by decide) ?_
  refine x_istore_n (lv' := [(2, .int (0 : Int32)), (1, .ref aQ), (0, .ref (aR 0))]) C dL_requests_6 rfl hl (by decide) rfl (fun ls hl => ?_)
  refine x_iconst (v := (-1 : Int32)) C dL_requests_7 (by decide) ?_
  refine x_istore_n (lv' := [(3, .int (-1 : Int32)), (2, .int (0 : Int32)), (1, .ref aQ), (0, .ref (aR 0))]) C dL_requests_8 rfl hl (by decide) rfl (fun ls hl => ?_)
  refine x_iconst (v := (0 : Int32)) C dL_requests_9 (by decide) ?_
  refine x_istore (lv' := [(4, .int (0 : Int32)), (3, .int (-1 : Int32)), (2, .int (0 : Int32)), (1, .ref aQ), (0, .ref (aR 0))]) C dL_requests_10 hl (by decide) rfl (fun ls hl => ?_)
  exact B12 FU _ h _ _ _ hP hD hS (lv_sub hl [4, 3, 2, 1, 0] rfl)
