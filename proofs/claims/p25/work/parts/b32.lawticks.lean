/-! the law's own methods: ticks, wouldBe -/
theorem dL_ticks_0 : decode cL_ticks 0 = .ok (.aload_n 0, 1) := by decide +kernel
theorem dL_ticks_1 : decode cL_ticks 1 = .ok (.bipush 7, 2) := by decide +kernel
theorem dL_ticks_3 : decode cL_ticks 3 = .ok (.invokevirtual 43, 3) := by decide +kernel
theorem dL_ticks_6 : decode cL_ticks 6 = .ok (.aload_n 0, 1) := by decide +kernel
theorem dL_ticks_7 : decode cL_ticks 7 = .ok (.bipush 8, 2) := by decide +kernel
theorem dL_ticks_9 : decode cL_ticks 9 = .ok (.invokevirtual 43, 3) := by decide +kernel
theorem dL_ticks_12 : decode cL_ticks 12 = .ok (.iadd, 1) := by decide +kernel
theorem dL_ticks_13 : decode cL_ticks 13 = .ok (.aload_n 0, 1) := by decide +kernel
theorem dL_ticks_14 : decode cL_ticks 14 = .ok (.bipush 9, 2) := by decide +kernel
theorem dL_ticks_16 : decode cL_ticks 16 = .ok (.invokevirtual 43, 3) := by decide +kernel
theorem dL_ticks_19 : decode cL_ticks 19 = .ok (.iadd, 1) := by decide +kernel
theorem dL_ticks_20 : decode cL_ticks 20 = .ok (.istore_n 3, 1) := by decide +kernel
theorem dL_ticks_21 : decode cL_ticks 21 = .ok (.iconst 0, 1) := by decide +kernel
theorem dL_ticks_22 : decode cL_ticks 22 = .ok (.istore 4, 2) := by decide +kernel
theorem dL_ticks_24 : decode cL_ticks 24 = .ok (.iconst 0, 1) := by decide +kernel
theorem dL_ticks_25 : decode cL_ticks 25 = .ok (.istore 5, 2) := by decide +kernel
theorem dL_ticks_27 : decode cL_ticks 27 = .ok (.aload_n 0, 1) := by decide +kernel
theorem dL_ticks_28 : decode cL_ticks 28 = .ok (.bipush 8, 2) := by decide +kernel
theorem dL_ticks_30 : decode cL_ticks 30 = .ok (.invokevirtual 43, 3) := by decide +kernel
theorem dL_ticks_33 : decode cL_ticks 33 = .ok (.istore 6, 2) := by decide +kernel
theorem dL_ticks_35 : decode cL_ticks 35 = .ok (.aload_n 0, 1) := by decide +kernel
theorem dL_ticks_36 : decode cL_ticks 36 = .ok (.iconst 0, 1) := by decide +kernel
theorem dL_ticks_37 : decode cL_ticks 37 = .ok (.invokevirtual 43, 3) := by decide +kernel
theorem dL_ticks_40 : decode cL_ticks 40 = .ok (.istore 7, 2) := by decide +kernel
theorem dL_ticks_42 : decode cL_ticks 42 = .ok (.iconst 0, 1) := by decide +kernel
theorem dL_ticks_43 : decode cL_ticks 43 = .ok (.istore 8, 2) := by decide +kernel
theorem dL_ticks_45 : decode cL_ticks 45 = .ok (.iload 8, 2) := by decide +kernel
theorem dL_ticks_47 : decode cL_ticks 47 = .ok (.bipush 6, 2) := by decide +kernel
theorem dL_ticks_49 : decode cL_ticks 49 = .ok (.if_icmp .ge 33, 3) := by decide +kernel
theorem dL_ticks_52 : decode cL_ticks 52 = .ok (.iload 4, 2) := by decide +kernel
theorem dL_ticks_54 : decode cL_ticks 54 = .ok (.aload_n 0, 1) := by decide +kernel
theorem dL_ticks_55 : decode cL_ticks 55 = .ok (.iload 8, 2) := by decide +kernel
theorem dL_ticks_57 : decode cL_ticks 57 = .ok (.iconst 2, 1) := by decide +kernel
theorem dL_ticks_58 : decode cL_ticks 58 = .ok (.invokevirtual 52, 3) := by decide +kernel
theorem dL_ticks_61 : decode cL_ticks 61 = .ok (.isub, 1) := by decide +kernel
theorem dL_ticks_62 : decode cL_ticks 62 = .ok (.istore 4, 2) := by decide +kernel
theorem dL_ticks_64 : decode cL_ticks 64 = .ok (.iload 5, 2) := by decide +kernel
theorem dL_ticks_66 : decode cL_ticks 66 = .ok (.aload_n 0, 1) := by decide +kernel
theorem dL_ticks_67 : decode cL_ticks 67 = .ok (.iload 8, 2) := by decide +kernel
theorem dL_ticks_69 : decode cL_ticks 69 = .ok (.iconst 1, 1) := by decide +kernel
theorem dL_ticks_70 : decode cL_ticks 70 = .ok (.invokevirtual 52, 3) := by decide +kernel
theorem dL_ticks_73 : decode cL_ticks 73 = .ok (.isub, 1) := by decide +kernel
theorem dL_ticks_74 : decode cL_ticks 74 = .ok (.istore 5, 2) := by decide +kernel
theorem dL_ticks_76 : decode cL_ticks 76 = .ok (.iinc 8 1, 3) := by decide +kernel
theorem dL_ticks_79 : decode cL_ticks 79 = .ok (.goto (-34), 3) := by decide +kernel
theorem dL_ticks_82 : decode cL_ticks 82 = .ok (.aload_n 0, 1) := by decide +kernel
theorem dL_ticks_83 : decode cL_ticks 83 = .ok (.iconst 1, 1) := by decide +kernel
theorem dL_ticks_84 : decode cL_ticks 84 = .ok (.invokevirtual 58, 3) := by decide +kernel
theorem dL_ticks_87 : decode cL_ticks 87 = .ok (.istore 8, 2) := by decide +kernel
theorem dL_ticks_89 : decode cL_ticks 89 = .ok (.iconst 0, 1) := by decide +kernel
theorem dL_ticks_90 : decode cL_ticks 90 = .ok (.istore 9, 2) := by decide +kernel
theorem dL_ticks_92 : decode cL_ticks 92 = .ok (.iload 9, 2) := by decide +kernel
theorem dL_ticks_94 : decode cL_ticks 94 = .ok (.bipush 6, 2) := by decide +kernel
theorem dL_ticks_96 : decode cL_ticks 96 = .ok (.if_icmp .ge 33, 3) := by decide +kernel
theorem dL_ticks_99 : decode cL_ticks 99 = .ok (.iload 4, 2) := by decide +kernel
theorem dL_ticks_101 : decode cL_ticks 101 = .ok (.aload_n 0, 1) := by decide +kernel
theorem dL_ticks_102 : decode cL_ticks 102 = .ok (.iload 9, 2) := by decide +kernel
theorem dL_ticks_104 : decode cL_ticks 104 = .ok (.iconst 2, 1) := by decide +kernel
theorem dL_ticks_105 : decode cL_ticks 105 = .ok (.invokevirtual 52, 3) := by decide +kernel
theorem dL_ticks_108 : decode cL_ticks 108 = .ok (.iadd, 1) := by decide +kernel
theorem dL_ticks_109 : decode cL_ticks 109 = .ok (.istore 4, 2) := by decide +kernel
theorem dL_ticks_111 : decode cL_ticks 111 = .ok (.iload 5, 2) := by decide +kernel
theorem dL_ticks_113 : decode cL_ticks 113 = .ok (.aload_n 0, 1) := by decide +kernel
theorem dL_ticks_114 : decode cL_ticks 114 = .ok (.iload 9, 2) := by decide +kernel
theorem dL_ticks_116 : decode cL_ticks 116 = .ok (.iconst 1, 1) := by decide +kernel
theorem dL_ticks_117 : decode cL_ticks 117 = .ok (.invokevirtual 52, 3) := by decide +kernel
theorem dL_ticks_120 : decode cL_ticks 120 = .ok (.iadd, 1) := by decide +kernel
theorem dL_ticks_121 : decode cL_ticks 121 = .ok (.istore 5, 2) := by decide +kernel
theorem dL_ticks_123 : decode cL_ticks 123 = .ok (.iinc 9 1, 3) := by decide +kernel
theorem dL_ticks_126 : decode cL_ticks 126 = .ok (.goto (-34), 3) := by decide +kernel
theorem dL_ticks_129 : decode cL_ticks 129 = .ok (.aload_n 0, 1) := by decide +kernel
theorem dL_ticks_130 : decode cL_ticks 130 = .ok (.bipush 7, 2) := by decide +kernel
theorem dL_ticks_132 : decode cL_ticks 132 = .ok (.invokevirtual 43, 3) := by decide +kernel
theorem dL_ticks_135 : decode cL_ticks 135 = .ok (.aload_n 0, 1) := by decide +kernel
theorem dL_ticks_136 : decode cL_ticks 136 = .ok (.bipush 8, 2) := by decide +kernel
theorem dL_ticks_138 : decode cL_ticks 138 = .ok (.invokevirtual 43, 3) := by decide +kernel
theorem dL_ticks_141 : decode cL_ticks 141 = .ok (.iadd, 1) := by decide +kernel
theorem dL_ticks_142 : decode cL_ticks 142 = .ok (.aload_n 0, 1) := by decide +kernel
theorem dL_ticks_143 : decode cL_ticks 143 = .ok (.bipush 9, 2) := by decide +kernel
theorem dL_ticks_145 : decode cL_ticks 145 = .ok (.invokevirtual 43, 3) := by decide +kernel
theorem dL_ticks_148 : decode cL_ticks 148 = .ok (.iadd, 1) := by decide +kernel
theorem dL_ticks_149 : decode cL_ticks 149 = .ok (.iload_n 3, 1) := by decide +kernel
theorem dL_ticks_150 : decode cL_ticks 150 = .ok (.isub, 1) := by decide +kernel
theorem dL_ticks_151 : decode cL_ticks 151 = .ok (.istore 9, 2) := by decide +kernel
theorem dL_ticks_153 : decode cL_ticks 153 = .ok (.iload 8, 2) := by decide +kernel
theorem dL_ticks_155 : decode cL_ticks 155 = .ok (.iload 4, 2) := by decide +kernel
theorem dL_ticks_157 : decode cL_ticks 157 = .ok (.if_icmp .ne 79, 3) := by decide +kernel
theorem dL_ticks_160 : decode cL_ticks 160 = .ok (.iload 9, 2) := by decide +kernel
theorem dL_ticks_162 : decode cL_ticks 162 = .ok (.ifCond .lt 74, 3) := by decide +kernel
theorem dL_ticks_165 : decode cL_ticks 165 = .ok (.iload 9, 2) := by decide +kernel
theorem dL_ticks_167 : decode cL_ticks 167 = .ok (.iload_n 1, 1) := by decide +kernel
theorem dL_ticks_168 : decode cL_ticks 168 = .ok (.iload_n 2, 1) := by decide +kernel
theorem dL_ticks_169 : decode cL_ticks 169 = .ok (.iadd, 1) := by decide +kernel
theorem dL_ticks_170 : decode cL_ticks 170 = .ok (.if_icmp .gt 66, 3) := by decide +kernel
theorem dL_ticks_173 : decode cL_ticks 173 = .ok (.aload_n 0, 1) := by decide +kernel
theorem dL_ticks_174 : decode cL_ticks 174 = .ok (.iconst 0, 1) := by decide +kernel
theorem dL_ticks_175 : decode cL_ticks 175 = .ok (.invokevirtual 43, 3) := by decide +kernel
theorem dL_ticks_178 : decode cL_ticks 178 = .ok (.iload 7, 2) := by decide +kernel
theorem dL_ticks_180 : decode cL_ticks 180 = .ok (.iconst 1, 1) := by decide +kernel
theorem dL_ticks_181 : decode cL_ticks 181 = .ok (.iadd, 1) := by decide +kernel
theorem dL_ticks_182 : decode cL_ticks 182 = .ok (.if_icmp .ne 54, 3) := by decide +kernel
theorem dL_ticks_185 : decode cL_ticks 185 = .ok (.aload_n 0, 1) := by decide +kernel
theorem dL_ticks_186 : decode cL_ticks 186 = .ok (.iconst 5, 1) := by decide +kernel
theorem dL_ticks_187 : decode cL_ticks 187 = .ok (.invokevirtual 43, 3) := by decide +kernel
theorem dL_ticks_190 : decode cL_ticks 190 = .ok (.iload_n 1, 1) := by decide +kernel
theorem dL_ticks_191 : decode cL_ticks 191 = .ok (.if_icmp .gt 45, 3) := by decide +kernel
theorem dL_ticks_194 : decode cL_ticks 194 = .ok (.aload_n 0, 1) := by decide +kernel
theorem dL_ticks_195 : decode cL_ticks 195 = .ok (.bipush 6, 2) := by decide +kernel
theorem dL_ticks_197 : decode cL_ticks 197 = .ok (.invokevirtual 43, 3) := by decide +kernel
theorem dL_ticks_200 : decode cL_ticks 200 = .ok (.iload_n 2, 1) := by decide +kernel
theorem dL_ticks_201 : decode cL_ticks 201 = .ok (.if_icmp .gt 35, 3) := by decide +kernel
theorem dL_ticks_204 : decode cL_ticks 204 = .ok (.aload_n 0, 1) := by decide +kernel
theorem dL_ticks_205 : decode cL_ticks 205 = .ok (.bipush 6, 2) := by decide +kernel
theorem dL_ticks_207 : decode cL_ticks 207 = .ok (.invokevirtual 43, 3) := by decide +kernel
theorem dL_ticks_210 : decode cL_ticks 210 = .ok (.aload_n 0, 1) := by decide +kernel
theorem dL_ticks_211 : decode cL_ticks 211 = .ok (.iconst 5, 1) := by decide +kernel
theorem dL_ticks_212 : decode cL_ticks 212 = .ok (.invokevirtual 43, 3) := by decide +kernel
theorem dL_ticks_215 : decode cL_ticks 215 = .ok (.if_icmp .gt 21, 3) := by decide +kernel
theorem dL_ticks_218 : decode cL_ticks 218 = .ok (.aload_n 0, 1) := by decide +kernel
theorem dL_ticks_219 : decode cL_ticks 219 = .ok (.bipush 10, 2) := by decide +kernel
theorem dL_ticks_221 : decode cL_ticks 221 = .ok (.invokevirtual 43, 3) := by decide +kernel
theorem dL_ticks_224 : decode cL_ticks 224 = .ok (.aload_n 0, 1) := by decide +kernel
theorem dL_ticks_225 : decode cL_ticks 225 = .ok (.iconst 3, 1) := by decide +kernel
theorem dL_ticks_226 : decode cL_ticks 226 = .ok (.invokevirtual 43, 3) := by decide +kernel
theorem dL_ticks_229 : decode cL_ticks 229 = .ok (.if_icmp .lt 7, 3) := by decide +kernel
theorem dL_ticks_232 : decode cL_ticks 232 = .ok (.iconst 1, 1) := by decide +kernel
theorem dL_ticks_233 : decode cL_ticks 233 = .ok (.goto 4, 3) := by decide +kernel
theorem dL_ticks_236 : decode cL_ticks 236 = .ok (.iconst 0, 1) := by decide +kernel
theorem dL_ticks_237 : decode cL_ticks 237 = .ok (.istore 10, 2) := by decide +kernel
theorem dL_ticks_239 : decode cL_ticks 239 = .ok (.iload 10, 2) := by decide +kernel
theorem dL_ticks_241 : decode cL_ticks 241 = .ok (.ifCond .eq 61, 3) := by decide +kernel
theorem dL_ticks_244 : decode cL_ticks 244 = .ok (.aload_n 0, 1) := by decide +kernel
theorem dL_ticks_245 : decode cL_ticks 245 = .ok (.iconst 0, 1) := by decide +kernel
theorem dL_ticks_246 : decode cL_ticks 246 = .ok (.iconst 1, 1) := by decide +kernel
theorem dL_ticks_247 : decode cL_ticks 247 = .ok (.invokevirtual 61, 3) := by decide +kernel
theorem dL_ticks_250 : decode cL_ticks 250 = .ok (.aload_n 0, 1) := by decide +kernel
theorem dL_ticks_251 : decode cL_ticks 251 = .ok (.iconst 3, 1) := by decide +kernel
theorem dL_ticks_252 : decode cL_ticks 252 = .ok (.invokevirtual 43, 3) := by decide +kernel
theorem dL_ticks_255 : decode cL_ticks 255 = .ok (.if_icmp .ne 47, 3) := by decide +kernel
theorem dL_ticks_258 : decode cL_ticks 258 = .ok (.aload_n 0, 1) := by decide +kernel
theorem dL_ticks_259 : decode cL_ticks 259 = .ok (.iconst 1, 1) := by decide +kernel
theorem dL_ticks_260 : decode cL_ticks 260 = .ok (.iconst 1, 1) := by decide +kernel
theorem dL_ticks_261 : decode cL_ticks 261 = .ok (.invokevirtual 61, 3) := by decide +kernel
theorem dL_ticks_264 : decode cL_ticks 264 = .ok (.iload 8, 2) := by decide +kernel
theorem dL_ticks_266 : decode cL_ticks 266 = .ok (.if_icmp .ne 36, 3) := by decide +kernel
theorem dL_ticks_269 : decode cL_ticks 269 = .ok (.aload_n 0, 1) := by decide +kernel
theorem dL_ticks_270 : decode cL_ticks 270 = .ok (.iconst 2, 1) := by decide +kernel
theorem dL_ticks_271 : decode cL_ticks 271 = .ok (.iconst 1, 1) := by decide +kernel
theorem dL_ticks_272 : decode cL_ticks 272 = .ok (.invokevirtual 61, 3) := by decide +kernel
theorem dL_ticks_275 : decode cL_ticks 275 = .ok (.iload 5, 2) := by decide +kernel
theorem dL_ticks_277 : decode cL_ticks 277 = .ok (.if_icmp .ne 25, 3) := by decide +kernel
theorem dL_ticks_280 : decode cL_ticks 280 = .ok (.aload_n 0, 1) := by decide +kernel
theorem dL_ticks_281 : decode cL_ticks 281 = .ok (.iconst 3, 1) := by decide +kernel
theorem dL_ticks_282 : decode cL_ticks 282 = .ok (.iconst 1, 1) := by decide +kernel
theorem dL_ticks_283 : decode cL_ticks 283 = .ok (.invokevirtual 61, 3) := by decide +kernel
theorem dL_ticks_286 : decode cL_ticks 286 = .ok (.aload_n 0, 1) := by decide +kernel
theorem dL_ticks_287 : decode cL_ticks 287 = .ok (.bipush 8, 2) := by decide +kernel
theorem dL_ticks_289 : decode cL_ticks 289 = .ok (.invokevirtual 43, 3) := by decide +kernel
theorem dL_ticks_292 : decode cL_ticks 292 = .ok (.iload 6, 2) := by decide +kernel
theorem dL_ticks_294 : decode cL_ticks 294 = .ok (.isub, 1) := by decide +kernel
theorem dL_ticks_295 : decode cL_ticks 295 = .ok (.if_icmp .ne 7, 3) := by decide +kernel
theorem dL_ticks_298 : decode cL_ticks 298 = .ok (.iconst 1, 1) := by decide +kernel
theorem dL_ticks_299 : decode cL_ticks 299 = .ok (.goto 4, 3) := by decide +kernel
theorem dL_ticks_302 : decode cL_ticks 302 = .ok (.iconst 0, 1) := by decide +kernel
theorem dL_ticks_303 : decode cL_ticks 303 = .ok (.ireturn, 1) := by decide +kernel
def bfL_ticks_303 (p2 : Int32) (p3 : Int32) (s0 : Int32) (S : RS) : Option (Int32 × (RS)) :=
  (if s0 = 0 ∨ s0 = 1 then some (s0, S) else none)
def bfL_ticks_302 (p2 : Int32) (p3 : Int32) (S : RS) : Option (Int32 × (RS)) :=
  bfL_ticks_303 p2 p3  ((0 : Int32)) S
def bfL_ticks_237 (p2 : Int32) (p3 : Int32) (x5 : Int32) (x6 : Int32) (x8 : Int32) (s0 : Int32) (S : RS) : Option (Int32 × (RS)) :=
  (if s0 = 0 then bfL_ticks_302 p2 p3  S else ob (fX5_window (0 : Int32) (1 : Int32) S) fun u33 => ob (fX5_told (3 : Int32) S) fun u34 => (if u33 = u34 then ob (fX5_window (1 : Int32) (1 : Int32) S) fun u35 => (if u35 = x8 then ob (fX5_window (2 : Int32) (1 : Int32) S) fun u36 => (if u36 = x5 then ob (fX5_window (3 : Int32) (1 : Int32) S) fun u37 => ob (fX5_told (8 : Int32) S) fun u38 => (if u37 = (u38 - x6) then bfL_ticks_303 p2 p3  ((1 : Int32)) S else bfL_ticks_302 p2 p3  S) else bfL_ticks_302 p2 p3  S) else bfL_ticks_302 p2 p3  S) else bfL_ticks_302 p2 p3  S))
def bfL_ticks_236 (p2 : Int32) (p3 : Int32) (x5 : Int32) (x6 : Int32) (x8 : Int32) (S : RS) : Option (Int32 × (RS)) :=
  bfL_ticks_237 p2 p3  x5 x6 x8 ((0 : Int32)) S
def bfL_ticks_92 (p2 : Int32) (p3 : Int32) (K92 : Int32 × Int32 × Int32 × Int32 × Int32 × Int32 × Int32 × (RS) → Option (Int32 × (RS))) (x : Int32 × Int32 × Int32 × Int32 × Int32 × Int32 × Int32 × (RS)) : Option (Int32 × (RS)) :=
  match x with
  | (x3, x4, x5, x6, x7, x8, x9, S) => (if (6 : Int32) ≤ x9 then ob (fX5_told (7 : Int32) S) fun u39 => ob (fX5_told (8 : Int32) S) fun u40 => ob (fX5_told (9 : Int32) S) fun u41 => nm ((((u39 + u40) + u41) - x3)) fun v42 => (if x8 = x4 then (if v42 < 0 then bfL_ticks_236 p2 p3  x5 x6 x8 S else (if (p2 + p3) < v42 then bfL_ticks_236 p2 p3  x5 x6 x8 S else ob (fX5_told (0 : Int32) S) fun u43 => (if u43 = (x7 + (1 : Int32)) then ob (fX5_told (5 : Int32) S) fun u44 => (if p2 < u44 then bfL_ticks_236 p2 p3  x5 x6 x8 S else ob (fX5_told (6 : Int32) S) fun u45 => (if p3 < u45 then bfL_ticks_236 p2 p3  x5 x6 x8 S else ob (fX5_told (6 : Int32) S) fun u46 => ob (fX5_told (5 : Int32) S) fun u47 => (if u47 < u46 then bfL_ticks_236 p2 p3  x5 x6 x8 S else ob (fX5_told (10 : Int32) S) fun u48 => ob (fX5_told (3 : Int32) S) fun u49 => (if u48 < u49 then bfL_ticks_236 p2 p3  x5 x6 x8 S else bfL_ticks_237 p2 p3  x5 x6 x8 ((1 : Int32)) S)))) else bfL_ticks_236 p2 p3  x5 x6 x8 S))) else bfL_ticks_236 p2 p3  x5 x6 x8 S) else ob (fX5_count x9 (2 : Int32) S) fun u50 => nm ((x4 + u50)) fun v51 => ob (fX5_count x9 (1 : Int32) S) fun u52 => nm ((x5 + u52)) fun v53 => K92 (x3, v51, v53, x6, x7, x8, (x9 + (1 : Int32)), S))
def bfL_ticks_45 (p2 : Int32) (p3 : Int32) (K45 : Int32 × Int32 × Int32 × Int32 × Int32 × Int32 × (RS) → Option (Int32 × (RS))) (x : Int32 × Int32 × Int32 × Int32 × Int32 × Int32 × (RS)) : Option (Int32 × (RS)) :=
  match x with
  | (x3, x4, x5, x6, x7, x8, S) => (if (6 : Int32) ≤ x8 then ob (fX5_run (1 : Int32) S) fun u54 => iter (bfL_ticks_92 p2 p3) FU (x3, x4, x5, x6, x7, u54.1, (0 : Int32), u54.2) else ob (fX5_count x8 (2 : Int32) S) fun u55 => nm ((x4 - u55)) fun v56 => ob (fX5_count x8 (1 : Int32) S) fun u57 => nm ((x5 - u57)) fun v58 => K45 (x3, v56, v58, x6, x7, (x8 + (1 : Int32)), S))
def fL_ticks (p2 : Int32) (p3 : Int32) (S : RS) : Option (Int32 × (RS)) :=
  ob (fX5_told (7 : Int32) S) fun u59 => ob (fX5_told (8 : Int32) S) fun u60 => ob (fX5_told (9 : Int32) S) fun u61 => nm (((u59 + u60) + u61)) fun v62 => ob (fX5_told (8 : Int32) S) fun u63 => ob (fX5_told (0 : Int32) S) fun u64 => iter (bfL_ticks_45 p2 p3) FU (v62, (0 : Int32), (0 : Int32), u63, u64, (0 : Int32), S)
set_option maxHeartbeats 4000000 in
set_option maxRecDepth 100000 in
theorem kL_ticks (l : Launch) (D : va_G) (cI cS : ClassId) (b L : Nat) (xs : Nat → Int32) (aR : Nat → Nat)  (p2 : Int32) (p3 : Int32) (S : RS) {q : Int32 × (RS)} (h : fL_ticks p2 p3 S = some q) : Ms l D (tyL cI cS) b L xs yL_ticks cL_ticks 11 (some .boolean) 9 0 0 [.ref (aR 0), .int p2, .int p3] (wR cI cS aR S) (some (.int q.1)) (wR cI cS aR q.2) := by
  refine Ms_of RL (by decide +kernel) rfl wc_L_ticks (Nat.le_of_ble_eq_true rfl) ?_
  intro p e s m args below meth c A Q ls C hA hz hX hP hD hS hl RET
  have RETh : ∀ {pc : Nat} {ls : Array Slot} {H : Heap} {locs : List Loc} {x : Int32} {S1 : RS}, (x = 0 ∨ x = 1) → decode cL_ticks pc = .ok (.ireturn, 1) → some (x, S1) = some q → va_P D vwCl (wR cI cS aR S1) H → va_D A (wR cI cS aR S1) → va_S A s.heap H locs → W p l e (rmN 9 0 0) s m args below meth c H locs 0 0 Q (F0 m pc ls [.int x]) := by
    intro pc ls H locs x S1 hx hd h hP hD hS; cases h; exact RET (x_zretN C hx hd) hP hD hS
  have B303 : ∀ (s0 : Int32) (S : RS), bfL_ticks_303 p2 p3 s0 S = some q → ∀ (H : Heap) (locs : List Loc) (ls : Array Slot), va_P D vwCl (wR cI cS aR S) H → va_D A (wR cI cS aR S) → va_S A s.heap H locs → lv_has ls 11 [] → W p l e (rmN 9 0 0) s m args below meth c H locs 0 0 Q (F0 m 303 ls [.int s0]) := by
    intro s0 S h H locs ls hP hD hS hl
    rcases x_ifn h with ⟨hc, h⟩
    exact RETh hc dL_ticks_303 h hP hD hS
  have B302 : ∀ (S : RS), bfL_ticks_302 p2 p3 S = some q → ∀ (H : Heap) (locs : List Loc) (ls : Array Slot), va_P D vwCl (wR cI cS aR S) H → va_D A (wR cI cS aR S) → va_S A s.heap H locs → lv_has ls 11 [] → W p l e (rmN 9 0 0) s m args below meth c H locs 0 0 Q (F0 m 302 ls []) := by
    intro S h H locs ls hP hD hS hl
    refine x_iconst (v := (0 : Int32)) C dL_ticks_302 (by decide) ?_
    exact B303 _ _ h _ _ _ hP hD hS hl
  have B237 : ∀ (x5 : Int32) (x6 : Int32) (x8 : Int32) (s0 : Int32) (S : RS), bfL_ticks_237 p2 p3 x5 x6 x8 s0 S = some q → ∀ (H : Heap) (locs : List Loc) (ls : Array Slot), va_P D vwCl (wR cI cS aR S) H → va_D A (wR cI cS aR S) → va_S A s.heap H locs → lv_has ls 11 [(0, .ref (aR 0)), (5, .int x5), (6, .int x6), (8, .int x8)] → W p l e (rmN 9 0 0) s m args below meth c H locs 0 0 Q (F0 m 237 ls [.int s0]) := by
    intro x5 x6 x8 s0 S h H locs ls hP hD hS hl
    refine x_istore (lv' := [(10, .int s0), (0, .ref (aR 0)), (5, .int x5), (6, .int x6), (8, .int x8)]) C dL_ticks_237 hl (by decide) rfl (fun ls hl => ?_)
    refine x_iload C dL_ticks_239 hl 0 rfl ?_
    refine x_if_eq (tgt := 302) C h dL_ticks_241 (by decide) (fun h => ?_) (fun h => ?_)
    · exact B302 _ h _ _ _ hP hD hS (lv_sub hl [] rfl)
    · refine x_aload_n C dL_ticks_244 rfl hl 1 rfl ?_
      refine x_iconst (v := (0 : Int32)) C dL_ticks_245 (by decide) ?_
      refine x_iconst (v := (1 : Int32)) C dL_ticks_246 (by decide) ?_
      obtain ⟨u33, hu33, h⟩ := ob_some h
      refine x_callV (As := [.int _, .int _]) (n := 2) C (kX5_window l D cI cS aR _ _ _ hu33) (fun hh => nomatch hh) wm_L_61 wi_X5_window we_X5_window wz_X5 wc_X5_window (by decide +kernel) rfl hP hD hS hA 0 2 rfl rfl rfl hl.1 dL_ticks_247 rfl (Nat.le_of_ble_eq_true rfl) ⟨Nat.le_of_ble_eq_true rfl, Nat.le_of_ble_eq_true rfl⟩ ⟨Nat.zero_le _, Nat.zero_le _⟩ (fun H locs hP hD hS => ?_)
      refine x_aload_n C dL_ticks_250 rfl hl 1 rfl ?_
      refine x_iconst (v := (3 : Int32)) C dL_ticks_251 (by decide) ?_
      obtain ⟨u34, hu34, h⟩ := ob_some h
      refine x_callV (As := [.int _]) (n := 1) C (kX5_told l D cI cS aR _ _ hu34) (fun hh => nomatch hh) wm_L_43 wi_X5_told we_X5_told wz_X5 wc_X5_told (by decide +kernel) rfl hP hD hS hA 0 2 rfl rfl rfl hl.1 dL_ticks_252 rfl (Nat.le_of_ble_eq_true rfl) ⟨Nat.le_of_ble_eq_true rfl, Nat.le_of_ble_eq_true rfl⟩ ⟨Nat.zero_le _, Nat.zero_le _⟩ (fun H locs hP hD hS => ?_)
      refine x_icmp_ne (tgt := 302) C h dL_ticks_255 (by decide) (fun h => ?_) (fun h => ?_)
      · exact B302 _ h _ _ _ hP hD hS (lv_sub hl [] rfl)
      · refine x_aload_n C dL_ticks_258 rfl hl 1 rfl ?_
        refine x_iconst (v := (1 : Int32)) C dL_ticks_259 (by decide) ?_
        refine x_iconst (v := (1 : Int32)) C dL_ticks_260 (by decide) ?_
        obtain ⟨u35, hu35, h⟩ := ob_some h
        refine x_callV (As := [.int _, .int _]) (n := 2) C (kX5_window l D cI cS aR _ _ _ hu35) (fun hh => nomatch hh) wm_L_61 wi_X5_window we_X5_window wz_X5 wc_X5_window (by decide +kernel) rfl hP hD hS hA 0 2 rfl rfl rfl hl.1 dL_ticks_261 rfl (Nat.le_of_ble_eq_true rfl) ⟨Nat.le_of_ble_eq_true rfl, Nat.le_of_ble_eq_true rfl⟩ ⟨Nat.zero_le _, Nat.zero_le _⟩ (fun H locs hP hD hS => ?_)
        refine x_iload C dL_ticks_264 hl 4 rfl ?_
        refine x_icmp_ne (tgt := 302) C h dL_ticks_266 (by decide) (fun h => ?_) (fun h => ?_)
        · exact B302 _ h _ _ _ hP hD hS (lv_sub hl [] rfl)
        · refine x_aload_n C dL_ticks_269 rfl hl 1 rfl ?_
          refine x_iconst (v := (2 : Int32)) C dL_ticks_270 (by decide) ?_
          refine x_iconst (v := (1 : Int32)) C dL_ticks_271 (by decide) ?_
          obtain ⟨u36, hu36, h⟩ := ob_some h
          refine x_callV (As := [.int _, .int _]) (n := 2) C (kX5_window l D cI cS aR _ _ _ hu36) (fun hh => nomatch hh) wm_L_61 wi_X5_window we_X5_window wz_X5 wc_X5_window (by decide +kernel) rfl hP hD hS hA 0 2 rfl rfl rfl hl.1 dL_ticks_272 rfl (Nat.le_of_ble_eq_true rfl) ⟨Nat.le_of_ble_eq_true rfl, Nat.le_of_ble_eq_true rfl⟩ ⟨Nat.zero_le _, Nat.zero_le _⟩ (fun H locs hP hD hS => ?_)
          refine x_iload C dL_ticks_275 hl 2 rfl ?_
          refine x_icmp_ne (tgt := 302) C h dL_ticks_277 (by decide) (fun h => ?_) (fun h => ?_)
          · exact B302 _ h _ _ _ hP hD hS (lv_sub hl [] rfl)
          · refine x_aload_n C dL_ticks_280 rfl hl 1 rfl ?_
            refine x_iconst (v := (3 : Int32)) C dL_ticks_281 (by decide) ?_
            refine x_iconst (v := (1 : Int32)) C dL_ticks_282 (by decide) ?_
            obtain ⟨u37, hu37, h⟩ := ob_some h
            refine x_callV (As := [.int _, .int _]) (n := 2) C (kX5_window l D cI cS aR _ _ _ hu37) (fun hh => nomatch hh) wm_L_61 wi_X5_window we_X5_window wz_X5 wc_X5_window (by decide +kernel) rfl hP hD hS hA 0 2 rfl rfl rfl hl.1 dL_ticks_283 rfl (Nat.le_of_ble_eq_true rfl) ⟨Nat.le_of_ble_eq_true rfl, Nat.le_of_ble_eq_true rfl⟩ ⟨Nat.zero_le _, Nat.zero_le _⟩ (fun H locs hP hD hS => ?_)
            refine x_aload_n C dL_ticks_286 rfl hl 1 rfl ?_
            refine x_bipush (v := (8 : Int32)) C dL_ticks_287 (by decide) ?_
            obtain ⟨u38, hu38, h⟩ := ob_some h
            refine x_callV (As := [.int _]) (n := 1) C (kX5_told l D cI cS aR _ _ hu38) (fun hh => nomatch hh) wm_L_43 wi_X5_told we_X5_told wz_X5 wc_X5_told (by decide +kernel) rfl hP hD hS hA 0 2 rfl rfl rfl hl.1 dL_ticks_289 rfl (Nat.le_of_ble_eq_true rfl) ⟨Nat.le_of_ble_eq_true rfl, Nat.le_of_ble_eq_true rfl⟩ ⟨Nat.zero_le _, Nat.zero_le _⟩ (fun H locs hP hD hS => ?_)
            refine x_iload C dL_ticks_292 hl 3 rfl ?_
            refine x_isub C dL_ticks_294 ?_
            refine x_icmp_ne (tgt := 302) C h dL_ticks_295 (by decide) (fun h => ?_) (fun h => ?_)
            · exact B302 _ h _ _ _ hP hD hS (lv_sub hl [] rfl)
            · refine x_iconst (v := (1 : Int32)) C dL_ticks_298 (by decide) ?_
              refine x_goto (tgt := 303) C dL_ticks_299 (by decide) ?_
              exact B303 _ _ h _ _ _ hP hD hS (lv_sub hl [] rfl)
  have B236 : ∀ (x5 : Int32) (x6 : Int32) (x8 : Int32) (S : RS), bfL_ticks_236 p2 p3 x5 x6 x8 S = some q → ∀ (H : Heap) (locs : List Loc) (ls : Array Slot), va_P D vwCl (wR cI cS aR S) H → va_D A (wR cI cS aR S) → va_S A s.heap H locs → lv_has ls 11 [(0, .ref (aR 0)), (5, .int x5), (6, .int x6), (8, .int x8)] → W p l e (rmN 9 0 0) s m args below meth c H locs 0 0 Q (F0 m 236 ls []) := by
    intro x5 x6 x8 S h H locs ls hP hD hS hl
    refine x_iconst (v := (0 : Int32)) C dL_ticks_236 (by decide) ?_
    exact B237 _ _ _ _ _ h _ _ _ hP hD hS hl
  have B92 : ∀ (n : Nat) (x : Int32 × Int32 × Int32 × Int32 × Int32 × Int32 × Int32 × (RS)), iter (bfL_ticks_92 p2 p3) n x = some q → (match x with | (x3, x4, x5, x6, x7, x8, x9, S) => ∀ (H : Heap) (locs : List Loc) (ls : Array Slot), va_P D vwCl (wR cI cS aR S) H → va_D A (wR cI cS aR S) → va_S A s.heap H locs → lv_has ls 11 [(0, .ref (aR 0)), (1, .int p2), (2, .int p3), (3, .int x3), (4, .int x4), (5, .int x5), (6, .int x6), (7, .int x7), (8, .int x8), (9, .int x9)] → W p l e (rmN 9 0 0) s m args below meth c H locs 0 0 Q (F0 m 92 ls [])) := by
    refine iter_ind (fun x : Int32 × Int32 × Int32 × Int32 × Int32 × Int32 × Int32 × (RS) => (match x with | (x3, x4, x5, x6, x7, x8, x9, S) => ∀ (H : Heap) (locs : List Loc) (ls : Array Slot), va_P D vwCl (wR cI cS aR S) H → va_D A (wR cI cS aR S) → va_S A s.heap H locs → lv_has ls 11 [(0, .ref (aR 0)), (1, .int p2), (2, .int p3), (3, .int x3), (4, .int x4), (5, .int x5), (6, .int x6), (7, .int x7), (8, .int x8), (9, .int x9)] → W p l e (rmN 9 0 0) s m args below meth c H locs 0 0 Q (F0 m 92 ls []))) ?_
    intro K92 ih92 x h
    obtain ⟨x3, x4, x5, x6, x7, x8, x9, S⟩ := x
    intro H locs ls hP hD hS hl
    refine x_iload C dL_ticks_92 hl 9 rfl ?_
    refine x_bipush (v := (6 : Int32)) C dL_ticks_94 (by decide) ?_
    refine x_icmp_ge (tgt := 129) C h dL_ticks_96 (by decide) (fun h => ?_) (fun h => ?_)
    · refine x_aload_n C dL_ticks_129 rfl hl 0 rfl ?_
      refine x_bipush (v := (7 : Int32)) C dL_ticks_130 (by decide) ?_
      obtain ⟨u39, hu39, h⟩ := ob_some h
      refine x_callV (As := [.int _]) (n := 1) C (kX5_told l D cI cS aR _ _ hu39) (fun hh => nomatch hh) wm_L_43 wi_X5_told we_X5_told wz_X5 wc_X5_told (by decide +kernel) rfl hP hD hS hA 0 2 rfl rfl rfl hl.1 dL_ticks_132 rfl (Nat.le_of_ble_eq_true rfl) ⟨Nat.le_of_ble_eq_true rfl, Nat.le_of_ble_eq_true rfl⟩ ⟨Nat.zero_le _, Nat.zero_le _⟩ (fun H locs hP hD hS => ?_)
      refine x_aload_n C dL_ticks_135 rfl hl 0 rfl ?_
      refine x_bipush (v := (8 : Int32)) C dL_ticks_136 (by decide) ?_
      obtain ⟨u40, hu40, h⟩ := ob_some h
      refine x_callV (As := [.int _]) (n := 1) C (kX5_told l D cI cS aR _ _ hu40) (fun hh => nomatch hh) wm_L_43 wi_X5_told we_X5_told wz_X5 wc_X5_told (by decide +kernel) rfl hP hD hS hA 0 2 rfl rfl rfl hl.1 dL_ticks_138 rfl (Nat.le_of_ble_eq_true rfl) ⟨Nat.le_of_ble_eq_true rfl, Nat.le_of_ble_eq_true rfl⟩ ⟨Nat.zero_le _, Nat.zero_le _⟩ (fun H locs hP hD hS => ?_)
      refine x_iadd C dL_ticks_141 ?_
      refine x_aload_n C dL_ticks_142 rfl hl 0 rfl ?_
      refine x_bipush (v := (9 : Int32)) C dL_ticks_143 (by decide) ?_
      obtain ⟨u41, hu41, h⟩ := ob_some h
      refine x_callV (As := [.int _]) (n := 1) C (kX5_told l D cI cS aR _ _ hu41) (fun hh => nomatch hh) wm_L_43 wi_X5_told we_X5_told wz_X5 wc_X5_told (by decide +kernel) rfl hP hD hS hA 0 2 rfl rfl rfl hl.1 dL_ticks_145 rfl (Nat.le_of_ble_eq_true rfl) ⟨Nat.le_of_ble_eq_true rfl, Nat.le_of_ble_eq_true rfl⟩ ⟨Nat.zero_le _, Nat.zero_le _⟩ (fun H locs hP hD hS => ?_)
      refine x_iadd C dL_ticks_148 ?_
      refine x_iload_n C dL_ticks_149 rfl hl 3 rfl ?_
      refine x_isub C dL_ticks_150 ?_
      refine x_nmi h (fun v42 h => ?_)
      refine x_istore (lv' := [(9, .int v42), (0, .ref (aR 0)), (1, .int p2), (2, .int p3), (3, .int x3), (4, .int x4), (5, .int x5), (6, .int x6), (7, .int x7), (8, .int x8)]) C dL_ticks_151 hl (by decide) rfl (fun ls hl => ?_)
      refine x_iload C dL_ticks_153 hl 9 rfl ?_
      refine x_iload C dL_ticks_155 hl 5 rfl ?_
      refine x_icmp_ne (tgt := 236) C h dL_ticks_157 (by decide) (fun h => ?_) (fun h => ?_)
      · exact B236 _ _ _ _ h _ _ _ hP hD hS (lv_sub hl [1, 6, 7, 9] rfl)
      · refine x_iload C dL_ticks_160 hl 0 rfl ?_
        refine x_if_lt (tgt := 236) C h dL_ticks_162 (by decide) (fun h => ?_) (fun h => ?_)
        · exact B236 _ _ _ _ h _ _ _ hP hD hS (lv_sub hl [1, 6, 7, 9] rfl)
        · refine x_iload C dL_ticks_165 hl 0 rfl ?_
          refine x_iload_n C dL_ticks_167 rfl hl 2 rfl ?_
          refine x_iload_n C dL_ticks_168 rfl hl 3 rfl ?_
          refine x_iadd C dL_ticks_169 ?_
          refine x_icmp_gt (tgt := 236) C h dL_ticks_170 (by decide) (fun h => ?_) (fun h => ?_)
          · exact B236 _ _ _ _ h _ _ _ hP hD hS (lv_sub hl [1, 6, 7, 9] rfl)
          · refine x_aload_n C dL_ticks_173 rfl hl 1 rfl ?_
            refine x_iconst (v := (0 : Int32)) C dL_ticks_174 (by decide) ?_
            obtain ⟨u43, hu43, h⟩ := ob_some h
            refine x_callV (As := [.int _]) (n := 1) C (kX5_told l D cI cS aR _ _ hu43) (fun hh => nomatch hh) wm_L_43 wi_X5_told we_X5_told wz_X5 wc_X5_told (by decide +kernel) rfl hP hD hS hA 0 2 rfl rfl rfl hl.1 dL_ticks_175 rfl (Nat.le_of_ble_eq_true rfl) ⟨Nat.le_of_ble_eq_true rfl, Nat.le_of_ble_eq_true rfl⟩ ⟨Nat.zero_le _, Nat.zero_le _⟩ (fun H locs hP hD hS => ?_)
            refine x_iload C dL_ticks_178 hl 8 rfl ?_
            refine x_iconst (v := (1 : Int32)) C dL_ticks_180 (by decide) ?_
            refine x_iadd C dL_ticks_181 ?_
            refine x_icmp_ne (tgt := 236) C h dL_ticks_182 (by decide) (fun h => ?_) (fun h => ?_)
            · exact B236 _ _ _ _ h _ _ _ hP hD hS (lv_sub hl [1, 6, 7, 9] rfl)
            · refine x_aload_n C dL_ticks_185 rfl hl 1 rfl ?_
              refine x_iconst (v := (5 : Int32)) C dL_ticks_186 (by decide) ?_
              obtain ⟨u44, hu44, h⟩ := ob_some h
              refine x_callV (As := [.int _]) (n := 1) C (kX5_told l D cI cS aR _ _ hu44) (fun hh => nomatch hh) wm_L_43 wi_X5_told we_X5_told wz_X5 wc_X5_told (by decide +kernel) rfl hP hD hS hA 0 2 rfl rfl rfl hl.1 dL_ticks_187 rfl (Nat.le_of_ble_eq_true rfl) ⟨Nat.le_of_ble_eq_true rfl, Nat.le_of_ble_eq_true rfl⟩ ⟨Nat.zero_le _, Nat.zero_le _⟩ (fun H locs hP hD hS => ?_)
              refine x_iload_n C dL_ticks_190 rfl hl 2 rfl ?_
              refine x_icmp_gt (tgt := 236) C h dL_ticks_191 (by decide) (fun h => ?_) (fun h => ?_)
              · exact B236 _ _ _ _ h _ _ _ hP hD hS (lv_sub hl [1, 6, 7, 9] rfl)
              · refine x_aload_n C dL_ticks_194 rfl hl 1 rfl ?_
                refine x_bipush (v := (6 : Int32)) C dL_ticks_195 (by decide) ?_
                obtain ⟨u45, hu45, h⟩ := ob_some h
                refine x_callV (As := [.int _]) (n := 1) C (kX5_told l D cI cS aR _ _ hu45) (fun hh => nomatch hh) wm_L_43 wi_X5_told we_X5_told wz_X5 wc_X5_told (by decide +kernel) rfl hP hD hS hA 0 2 rfl rfl rfl hl.1 dL_ticks_197 rfl (Nat.le_of_ble_eq_true rfl) ⟨Nat.le_of_ble_eq_true rfl, Nat.le_of_ble_eq_true rfl⟩ ⟨Nat.zero_le _, Nat.zero_le _⟩ (fun H locs hP hD hS => ?_)
                refine x_iload_n C dL_ticks_200 rfl hl 3 rfl ?_
                refine x_icmp_gt (tgt := 236) C h dL_ticks_201 (by decide) (fun h => ?_) (fun h => ?_)
                · exact B236 _ _ _ _ h _ _ _ hP hD hS (lv_sub hl [1, 6, 7, 9] rfl)
                · refine x_aload_n C dL_ticks_204 rfl hl 1 rfl ?_
                  refine x_bipush (v := (6 : Int32)) C dL_ticks_205 (by decide) ?_
                  obtain ⟨u46, hu46, h⟩ := ob_some h
                  refine x_callV (As := [.int _]) (n := 1) C (kX5_told l D cI cS aR _ _ hu46) (fun hh => nomatch hh) wm_L_43 wi_X5_told we_X5_told wz_X5 wc_X5_told (by decide +kernel) rfl hP hD hS hA 0 2 rfl rfl rfl hl.1 dL_ticks_207 rfl (Nat.le_of_ble_eq_true rfl) ⟨Nat.le_of_ble_eq_true rfl, Nat.le_of_ble_eq_true rfl⟩ ⟨Nat.zero_le _, Nat.zero_le _⟩ (fun H locs hP hD hS => ?_)
                  refine x_aload_n C dL_ticks_210 rfl hl 1 rfl ?_
                  refine x_iconst (v := (5 : Int32)) C dL_ticks_211 (by decide) ?_
                  obtain ⟨u47, hu47, h⟩ := ob_some h
                  refine x_callV (As := [.int _]) (n := 1) C (kX5_told l D cI cS aR _ _ hu47) (fun hh => nomatch hh) wm_L_43 wi_X5_told we_X5_told wz_X5 wc_X5_told (by decide +kernel) rfl hP hD hS hA 0 2 rfl rfl rfl hl.1 dL_ticks_212 rfl (Nat.le_of_ble_eq_true rfl) ⟨Nat.le_of_ble_eq_true rfl, Nat.le_of_ble_eq_true rfl⟩ ⟨Nat.zero_le _, Nat.zero_le _⟩ (fun H locs hP hD hS => ?_)
                  refine x_icmp_gt (tgt := 236) C h dL_ticks_215 (by decide) (fun h => ?_) (fun h => ?_)
                  · exact B236 _ _ _ _ h _ _ _ hP hD hS (lv_sub hl [1, 6, 7, 9] rfl)
                  · refine x_aload_n C dL_ticks_218 rfl hl 1 rfl ?_
                    refine x_bipush (v := (10 : Int32)) C dL_ticks_219 (by decide) ?_
                    obtain ⟨u48, hu48, h⟩ := ob_some h
                    refine x_callV (As := [.int _]) (n := 1) C (kX5_told l D cI cS aR _ _ hu48) (fun hh => nomatch hh) wm_L_43 wi_X5_told we_X5_told wz_X5 wc_X5_told (by decide +kernel) rfl hP hD hS hA 0 2 rfl rfl rfl hl.1 dL_ticks_221 rfl (Nat.le_of_ble_eq_true rfl) ⟨Nat.le_of_ble_eq_true rfl, Nat.le_of_ble_eq_true rfl⟩ ⟨Nat.zero_le _, Nat.zero_le _⟩ (fun H locs hP hD hS => ?_)
                    refine x_aload_n C dL_ticks_224 rfl hl 1 rfl ?_
                    refine x_iconst (v := (3 : Int32)) C dL_ticks_225 (by decide) ?_
                    obtain ⟨u49, hu49, h⟩ := ob_some h
                    refine x_callV (As := [.int _]) (n := 1) C (kX5_told l D cI cS aR _ _ hu49) (fun hh => nomatch hh) wm_L_43 wi_X5_told we_X5_told wz_X5 wc_X5_told (by decide +kernel) rfl hP hD hS hA 0 2 rfl rfl rfl hl.1 dL_ticks_226 rfl (Nat.le_of_ble_eq_true rfl) ⟨Nat.le_of_ble_eq_true rfl, Nat.le_of_ble_eq_true rfl⟩ ⟨Nat.zero_le _, Nat.zero_le _⟩ (fun H locs hP hD hS => ?_)
                    refine x_icmp_lt (tgt := 236) C h dL_ticks_229 (by decide) (fun h => ?_) (fun h => ?_)
                    · exact B236 _ _ _ _ h _ _ _ hP hD hS (lv_sub hl [1, 6, 7, 9] rfl)
                    · refine x_iconst (v := (1 : Int32)) C dL_ticks_232 (by decide) ?_
                      refine x_goto (tgt := 237) C dL_ticks_233 (by decide) ?_
                      exact B237 _ _ _ _ _ h _ _ _ hP hD hS (lv_sub hl [1, 6, 7, 9] rfl)
    · refine x_iload C dL_ticks_99 hl 4 rfl ?_
      refine x_aload_n C dL_ticks_101 rfl hl 0 rfl ?_
      refine x_iload C dL_ticks_102 hl 9 rfl ?_
      refine x_iconst (v := (2 : Int32)) C dL_ticks_104 (by decide) ?_
      obtain ⟨u50, hu50, h⟩ := ob_some h
      refine x_callV (As := [.int _, .int _]) (n := 2) C (kX5_count l D cI cS aR _ _ _ hu50) (fun hh => nomatch hh) wm_L_52 wi_X5_count we_X5_count wz_X5 wc_X5_count (by decide +kernel) rfl hP hD hS hA 0 2 rfl rfl rfl hl.1 dL_ticks_105 rfl (Nat.le_of_ble_eq_true rfl) ⟨Nat.le_of_ble_eq_true rfl, Nat.le_of_ble_eq_true rfl⟩ ⟨Nat.zero_le _, Nat.zero_le _⟩ (fun H locs hP hD hS => ?_)
      refine x_iadd C dL_ticks_108 ?_
      refine x_nmi h (fun v51 h => ?_)
      refine x_istore (lv' := [(4, .int v51), (0, .ref (aR 0)), (1, .int p2), (2, .int p3), (3, .int x3), (5, .int x5), (6, .int x6), (7, .int x7), (8, .int x8), (9, .int x9)]) C dL_ticks_109 hl (by decide) rfl (fun ls hl => ?_)
      refine x_iload C dL_ticks_111 hl 5 rfl ?_
      refine x_aload_n C dL_ticks_113 rfl hl 1 rfl ?_
      refine x_iload C dL_ticks_114 hl 9 rfl ?_
      refine x_iconst (v := (1 : Int32)) C dL_ticks_116 (by decide) ?_
      obtain ⟨u52, hu52, h⟩ := ob_some h
      refine x_callV (As := [.int _, .int _]) (n := 2) C (kX5_count l D cI cS aR _ _ _ hu52) (fun hh => nomatch hh) wm_L_52 wi_X5_count we_X5_count wz_X5 wc_X5_count (by decide +kernel) rfl hP hD hS hA 0 2 rfl rfl rfl hl.1 dL_ticks_117 rfl (Nat.le_of_ble_eq_true rfl) ⟨Nat.le_of_ble_eq_true rfl, Nat.le_of_ble_eq_true rfl⟩ ⟨Nat.zero_le _, Nat.zero_le _⟩ (fun H locs hP hD hS => ?_)
      refine x_iadd C dL_ticks_120 ?_
      refine x_nmi h (fun v53 h => ?_)
      refine x_istore (lv' := [(5, .int v53), (4, .int v51), (0, .ref (aR 0)), (1, .int p2), (2, .int p3), (3, .int x3), (6, .int x6), (7, .int x7), (8, .int x8), (9, .int x9)]) C dL_ticks_121 hl (by decide) rfl (fun ls hl => ?_)
      refine x_iinc (v := (x9 + (1 : Int32))) (lv' := [(9, .int (x9 + (1 : Int32))), (5, .int v53), (4, .int v51), (0, .ref (aR 0)), (1, .int p2), (2, .int p3), (3, .int x3), (6, .int x6), (7, .int x7), (8, .int x8)]) C dL_ticks_123 hl (k := 9) rfl rfl (by decide) rfl (fun ls hl => ?_)
      refine x_goto (tgt := 92) C dL_ticks_126 (by decide) ?_
      exact ih92 _ h _ _ _ hP hD hS (lv_sub hl [3, 4, 5, 6, 2, 1, 7, 8, 9, 0] rfl)
  have B45 : ∀ (n : Nat) (x : Int32 × Int32 × Int32 × Int32 × Int32 × Int32 × (RS)), iter (bfL_ticks_45 p2 p3) n x = some q → (match x with | (x3, x4, x5, x6, x7, x8, S) => ∀ (H : Heap) (locs : List Loc) (ls : Array Slot), va_P D vwCl (wR cI cS aR S) H → va_D A (wR cI cS aR S) → va_S A s.heap H locs → lv_has ls 11 [(0, .ref (aR 0)), (1, .int p2), (2, .int p3), (3, .int x3), (4, .int x4), (5, .int x5), (6, .int x6), (7, .int x7), (8, .int x8)] → W p l e (rmN 9 0 0) s m args below meth c H locs 0 0 Q (F0 m 45 ls [])) := by
    refine iter_ind (fun x : Int32 × Int32 × Int32 × Int32 × Int32 × Int32 × (RS) => (match x with | (x3, x4, x5, x6, x7, x8, S) => ∀ (H : Heap) (locs : List Loc) (ls : Array Slot), va_P D vwCl (wR cI cS aR S) H → va_D A (wR cI cS aR S) → va_S A s.heap H locs → lv_has ls 11 [(0, .ref (aR 0)), (1, .int p2), (2, .int p3), (3, .int x3), (4, .int x4), (5, .int x5), (6, .int x6), (7, .int x7), (8, .int x8)] → W p l e (rmN 9 0 0) s m args below meth c H locs 0 0 Q (F0 m 45 ls []))) ?_
    intro K45 ih45 x h
    obtain ⟨x3, x4, x5, x6, x7, x8, S⟩ := x
    intro H locs ls hP hD hS hl
    refine x_iload C dL_ticks_45 hl 8 rfl ?_
    refine x_bipush (v := (6 : Int32)) C dL_ticks_47 (by decide) ?_
    refine x_icmp_ge (tgt := 82) C h dL_ticks_49 (by decide) (fun h => ?_) (fun h => ?_)
    · refine x_aload_n C dL_ticks_82 rfl hl 0 rfl ?_
      refine x_iconst (v := (1 : Int32)) C dL_ticks_83 (by decide) ?_
      obtain ⟨u54, hu54, h⟩ := ob_some h
      refine x_callV (As := [.int _]) (n := 1) C (kX5_run l D cI cS aR _ _ hu54) (fun hh => nomatch hh) wm_L_58 wi_X5_run we_X5_run wz_X5 wc_X5_run (by decide +kernel) rfl hP hD hS hA 0 2 rfl rfl rfl hl.1 dL_ticks_84 rfl (Nat.le_of_ble_eq_true rfl) ⟨Nat.le_of_ble_eq_true rfl, Nat.le_of_ble_eq_true rfl⟩ ⟨Nat.zero_le _, Nat.zero_le _⟩ (fun H locs hP hD hS => ?_)
      refine x_istore (lv' := [(8, .int u54.1), (0, .ref (aR 0)), (1, .int p2), (2, .int p3), (3, .int x3), (4, .int x4), (5, .int x5), (6, .int x6), (7, .int x7)]) C dL_ticks_87 hl (by decide) rfl (fun ls hl => ?_)
      refine x_iconst (v := (0 : Int32)) C dL_ticks_89 (by decide) ?_
      refine x_istore (lv' := [(9, .int (0 : Int32)), (8, .int u54.1), (0, .ref (aR 0)), (1, .int p2), (2, .int p3), (3, .int x3), (4, .int x4), (5, .int x5), (6, .int x6), (7, .int x7)]) C dL_ticks_90 hl (by decide) rfl (fun ls hl => ?_)
      exact B92 FU _ h _ _ _ hP hD hS (lv_sub hl [2, 3, 4, 5, 6, 7, 8, 9, 1, 0] rfl)
    · refine x_iload C dL_ticks_52 hl 4 rfl ?_
      refine x_aload_n C dL_ticks_54 rfl hl 0 rfl ?_
      refine x_iload C dL_ticks_55 hl 8 rfl ?_
      refine x_iconst (v := (2 : Int32)) C dL_ticks_57 (by decide) ?_
      obtain ⟨u55, hu55, h⟩ := ob_some h
      refine x_callV (As := [.int _, .int _]) (n := 2) C (kX5_count l D cI cS aR _ _ _ hu55) (fun hh => nomatch hh) wm_L_52 wi_X5_count we_X5_count wz_X5 wc_X5_count (by decide +kernel) rfl hP hD hS hA 0 2 rfl rfl rfl hl.1 dL_ticks_58 rfl (Nat.le_of_ble_eq_true rfl) ⟨Nat.le_of_ble_eq_true rfl, Nat.le_of_ble_eq_true rfl⟩ ⟨Nat.zero_le _, Nat.zero_le _⟩ (fun H locs hP hD hS => ?_)
      refine x_isub C dL_ticks_61 ?_
      refine x_nmi h (fun v56 h => ?_)
      refine x_istore (lv' := [(4, .int v56), (0, .ref (aR 0)), (1, .int p2), (2, .int p3), (3, .int x3), (5, .int x5), (6, .int x6), (7, .int x7), (8, .int x8)]) C dL_ticks_62 hl (by decide) rfl (fun ls hl => ?_)
      refine x_iload C dL_ticks_64 hl 5 rfl ?_
      refine x_aload_n C dL_ticks_66 rfl hl 1 rfl ?_
      refine x_iload C dL_ticks_67 hl 8 rfl ?_
      refine x_iconst (v := (1 : Int32)) C dL_ticks_69 (by decide) ?_
      obtain ⟨u57, hu57, h⟩ := ob_some h
      refine x_callV (As := [.int _, .int _]) (n := 2) C (kX5_count l D cI cS aR _ _ _ hu57) (fun hh => nomatch hh) wm_L_52 wi_X5_count we_X5_count wz_X5 wc_X5_count (by decide +kernel) rfl hP hD hS hA 0 2 rfl rfl rfl hl.1 dL_ticks_70 rfl (Nat.le_of_ble_eq_true rfl) ⟨Nat.le_of_ble_eq_true rfl, Nat.le_of_ble_eq_true rfl⟩ ⟨Nat.zero_le _, Nat.zero_le _⟩ (fun H locs hP hD hS => ?_)
      refine x_isub C dL_ticks_73 ?_
      refine x_nmi h (fun v58 h => ?_)
      refine x_istore (lv' := [(5, .int v58), (4, .int v56), (0, .ref (aR 0)), (1, .int p2), (2, .int p3), (3, .int x3), (6, .int x6), (7, .int x7), (8, .int x8)]) C dL_ticks_74 hl (by decide) rfl (fun ls hl => ?_)
      refine x_iinc (v := (x8 + (1 : Int32))) (lv' := [(8, .int (x8 + (1 : Int32))), (5, .int v58), (4, .int v56), (0, .ref (aR 0)), (1, .int p2), (2, .int p3), (3, .int x3), (6, .int x6), (7, .int x7)]) C dL_ticks_76 hl (k := 8) rfl rfl (by decide) rfl (fun ls hl => ?_)
      refine x_goto (tgt := 45) C dL_ticks_79 (by decide) ?_
      exact ih45 _ h _ _ _ hP hD hS (lv_sub hl [3, 4, 5, 6, 2, 1, 7, 8, 0] rfl)
  refine x_aload_n C dL_ticks_0 rfl hl 0 rfl ?_
  refine x_bipush (v := (7 : Int32)) C dL_ticks_1 (by decide) ?_
  obtain ⟨u59, hu59, h⟩ := ob_some h
  refine x_callV (As := [.int _]) (n := 1) C (kX5_told l D cI cS aR _ _ hu59) (fun hh => nomatch hh) wm_L_43 wi_X5_told we_X5_told wz_X5 wc_X5_told (by decide +kernel) rfl hP hD hS hA 0 2 rfl rfl rfl hl.1 dL_ticks_3 rfl (Nat.le_of_ble_eq_true rfl) ⟨Nat.le_of_ble_eq_true rfl, Nat.le_of_ble_eq_true rfl⟩ ⟨Nat.zero_le _, Nat.zero_le _⟩ (fun H locs hP hD hS => ?_)
  refine x_aload_n C dL_ticks_6 rfl hl 0 rfl ?_
  refine x_bipush (v := (8 : Int32)) C dL_ticks_7 (by decide) ?_
  obtain ⟨u60, hu60, h⟩ := ob_some h
  refine x_callV (As := [.int _]) (n := 1) C (kX5_told l D cI cS aR _ _ hu60) (fun hh => nomatch hh) wm_L_43 wi_X5_told we_X5_told wz_X5 wc_X5_told (by decide +kernel) rfl hP hD hS hA 0 2 rfl rfl rfl hl.1 dL_ticks_9 rfl (Nat.le_of_ble_eq_true rfl) ⟨Nat.le_of_ble_eq_true rfl, Nat.le_of_ble_eq_true rfl⟩ ⟨Nat.zero_le _, Nat.zero_le _⟩ (fun H locs hP hD hS => ?_)
  refine x_iadd C dL_ticks_12 ?_
  refine x_aload_n C dL_ticks_13 rfl hl 0 rfl ?_
  refine x_bipush (v := (9 : Int32)) C dL_ticks_14 (by decide) ?_
  obtain ⟨u61, hu61, h⟩ := ob_some h
  refine x_callV (As := [.int _]) (n := 1) C (kX5_told l D cI cS aR _ _ hu61) (fun hh => nomatch hh) wm_L_43 wi_X5_told we_X5_told wz_X5 wc_X5_told (by decide +kernel) rfl hP hD hS hA 0 2 rfl rfl rfl hl.1 dL_ticks_16 rfl (Nat.le_of_ble_eq_true rfl) ⟨Nat.le_of_ble_eq_true rfl, Nat.le_of_ble_eq_true rfl⟩ ⟨Nat.zero_le _, Nat.zero_le _⟩ (fun H locs hP hD hS => ?_)
  refine x_iadd C dL_ticks_19 ?_
  refine x_nmi h (fun v62 h => ?_)
  refine x_istore_n (lv' := [(3, .int v62), (0, .ref (aR 0)), (1, .int p2), (2, .int p3)]) C dL_ticks_20 rfl hl (by decide) rfl (fun ls hl => ?_)
  refine x_iconst (v := (0 : Int32)) C dL_ticks_21 (by decide) ?_
  refine x_istore (lv' := [(4, .int (0 : Int32)), (3, .int v62), (0, .ref (aR 0)), (1, .int p2), (2, .int p3)]) C dL_ticks_22 hl (by decide) rfl (fun ls hl => ?_)
  refine x_iconst (v := (0 : Int32)) C dL_ticks_24 (by decide) ?_
  refine x_istore (lv' := [(5, .int (0 : Int32)), (4, .int (0 : Int32)), (3, .int v62), (0, .ref (aR 0)), (1, .int p2), (2, .int p3)]) C dL_ticks_25 hl (by decide) rfl (fun ls hl => ?_)
  refine x_aload_n C dL_ticks_27 rfl hl 3 rfl ?_
  refine x_bipush (v := (8 : Int32)) C dL_ticks_28 (by decide) ?_
  obtain ⟨u63, hu63, h⟩ := ob_some h
  refine x_callV (As := [.int _]) (n := 1) C (kX5_told l D cI cS aR _ _ hu63) (fun hh => nomatch hh) wm_L_43 wi_X5_told we_X5_told wz_X5 wc_X5_told (by decide +kernel) rfl hP hD hS hA 0 2 rfl rfl rfl hl.1 dL_ticks_30 rfl (Nat.le_of_ble_eq_true rfl) ⟨Nat.le_of_ble_eq_true rfl, Nat.le_of_ble_eq_true rfl⟩ ⟨Nat.zero_le _, Nat.zero_le _⟩ (fun H locs hP hD hS => ?_)
  refine x_istore (lv' := [(6, .int u63), (5, .int (0 : Int32)), (4, .int (0 : Int32)), (3, .int v62), (0, .ref (aR 0)), (1, .int p2), (2, .int p3)]) C dL_ticks_33 hl (by decide) rfl (fun ls hl => ?_)
  refine x_aload_n C dL_ticks_35 rfl hl 4 rfl ?_
  refine x_iconst (v := (0 : Int32)) C dL_ticks_36 (by decide) ?_
  obtain ⟨u64, hu64, h⟩ := ob_some h
  refine x_callV (As := [.int _]) (n := 1) C (kX5_told l D cI cS aR _ _ hu64) (fun hh => nomatch hh) wm_L_43 wi_X5_told we_X5_told wz_X5 wc_X5_told (by decide +kernel) rfl hP hD hS hA 0 2 rfl rfl rfl hl.1 dL_ticks_37 rfl (Nat.le_of_ble_eq_true rfl) ⟨Nat.le_of_ble_eq_true rfl, Nat.le_of_ble_eq_true rfl⟩ ⟨Nat.zero_le _, Nat.zero_le _⟩ (fun H locs hP hD hS => ?_)
  refine x_istore (lv' := [(7, .int u64), (6, .int u63), (5, .int (0 : Int32)), (4, .int (0 : Int32)), (3, .int v62), (0, .ref (aR 0)), (1, .int p2), (2, .int p3)]) C dL_ticks_40 hl (by decide) rfl (fun ls hl => ?_)
  refine x_iconst (v := (0 : Int32)) C dL_ticks_42 (by decide) ?_
  refine x_istore (lv' := [(8, .int (0 : Int32)), (7, .int u64), (6, .int u63), (5, .int (0 : Int32)), (4, .int (0 : Int32)), (3, .int v62), (0, .ref (aR 0)), (1, .int p2), (2, .int p3)]) C dL_ticks_43 hl (by decide) rfl (fun ls hl => ?_)
  exact B45 FU _ h _ _ _ hP hD hS (lv_sub hl [6, 7, 8, 5, 4, 3, 2, 1, 0] rfl)
theorem dL_wouldBe_0 : decode cL_wouldBe 0 = .ok (.aload_n 0, 1) := by decide +kernel
theorem dL_wouldBe_1 : decode cL_wouldBe 1 = .ok (.iload_n 1, 1) := by decide +kernel
theorem dL_wouldBe_2 : decode cL_wouldBe 2 = .ok (.iload_n 2, 1) := by decide +kernel
theorem dL_wouldBe_3 : decode cL_wouldBe 3 = .ok (.invokevirtual 64, 3) := by decide +kernel
theorem dL_wouldBe_6 : decode cL_wouldBe 6 = .ok (.istore_n 3, 1) := by decide +kernel
theorem dL_wouldBe_7 : decode cL_wouldBe 7 = .ok (.aload_n 0, 1) := by decide +kernel
theorem dL_wouldBe_8 : decode cL_wouldBe 8 = .ok (.iload_n 1, 1) := by decide +kernel
theorem dL_wouldBe_9 : decode cL_wouldBe 9 = .ok (.invokevirtual 67, 3) := by decide +kernel
theorem dL_wouldBe_12 : decode cL_wouldBe 12 = .ok (.istore 4, 2) := by decide +kernel
theorem dL_wouldBe_14 : decode cL_wouldBe 14 = .ok (.aload_n 0, 1) := by decide +kernel
theorem dL_wouldBe_15 : decode cL_wouldBe 15 = .ok (.bipush 11, 2) := by decide +kernel
theorem dL_wouldBe_17 : decode cL_wouldBe 17 = .ok (.invokevirtual 43, 3) := by decide +kernel
theorem dL_wouldBe_20 : decode cL_wouldBe 20 = .ok (.istore 5, 2) := by decide +kernel
theorem dL_wouldBe_22 : decode cL_wouldBe 22 = .ok (.aload_n 0, 1) := by decide +kernel
theorem dL_wouldBe_23 : decode cL_wouldBe 23 = .ok (.invokevirtual 70, 3) := by decide +kernel
theorem dL_wouldBe_26 : decode cL_wouldBe 26 = .ok (.lstore 6, 2) := by decide +kernel
theorem dL_wouldBe_28 : decode cL_wouldBe 28 = .ok (.aload_n 0, 1) := by decide +kernel
theorem dL_wouldBe_29 : decode cL_wouldBe 29 = .ok (.bipush 7, 2) := by decide +kernel
theorem dL_wouldBe_31 : decode cL_wouldBe 31 = .ok (.invokevirtual 43, 3) := by decide +kernel
theorem dL_wouldBe_34 : decode cL_wouldBe 34 = .ok (.istore 8, 2) := by decide +kernel
theorem dL_wouldBe_36 : decode cL_wouldBe 36 = .ok (.iload 4, 2) := by decide +kernel
theorem dL_wouldBe_38 : decode cL_wouldBe 38 = .ok (.ifCond .lt 61, 3) := by decide +kernel
theorem dL_wouldBe_41 : decode cL_wouldBe 41 = .ok (.iload 4, 2) := by decide +kernel
theorem dL_wouldBe_43 : decode cL_wouldBe 43 = .ok (.iconst 3, 1) := by decide +kernel
theorem dL_wouldBe_44 : decode cL_wouldBe 44 = .ok (.if_icmp .gt 55, 3) := by decide +kernel
theorem dL_wouldBe_47 : decode cL_wouldBe 47 = .ok (.aload_n 0, 1) := by decide +kernel
theorem dL_wouldBe_48 : decode cL_wouldBe 48 = .ok (.iload_n 1, 1) := by decide +kernel
theorem dL_wouldBe_49 : decode cL_wouldBe 49 = .ok (.iload 4, 2) := by decide +kernel
theorem dL_wouldBe_51 : decode cL_wouldBe 51 = .ok (.invokevirtual 64, 3) := by decide +kernel
theorem dL_wouldBe_54 : decode cL_wouldBe 54 = .ok (.iload_n 3, 1) := by decide +kernel
theorem dL_wouldBe_55 : decode cL_wouldBe 55 = .ok (.if_icmp .lt 44, 3) := by decide +kernel
theorem dL_wouldBe_58 : decode cL_wouldBe 58 = .ok (.aload_n 0, 1) := by decide +kernel
theorem dL_wouldBe_59 : decode cL_wouldBe 59 = .ok (.invokevirtual 70, 3) := by decide +kernel
theorem dL_wouldBe_62 : decode cL_wouldBe 62 = .ok (.lload 6, 2) := by decide +kernel
theorem dL_wouldBe_64 : decode cL_wouldBe 64 = .ok (.lcmp, 1) := by decide +kernel
theorem dL_wouldBe_65 : decode cL_wouldBe 65 = .ok (.ifCond .ne 34, 3) := by decide +kernel
theorem dL_wouldBe_68 : decode cL_wouldBe 68 = .ok (.aload_n 0, 1) := by decide +kernel
theorem dL_wouldBe_69 : decode cL_wouldBe 69 = .ok (.iload_n 2, 1) := by decide +kernel
theorem dL_wouldBe_70 : decode cL_wouldBe 70 = .ok (.invokevirtual 31, 3) := by decide +kernel
theorem dL_wouldBe_73 : decode cL_wouldBe 73 = .ok (.iload 5, 2) := by decide +kernel
theorem dL_wouldBe_75 : decode cL_wouldBe 75 = .ok (.if_icmp .ne 24, 3) := by decide +kernel
theorem dL_wouldBe_78 : decode cL_wouldBe 78 = .ok (.aload_n 0, 1) := by decide +kernel
theorem dL_wouldBe_79 : decode cL_wouldBe 79 = .ok (.iload_n 1, 1) := by decide +kernel
theorem dL_wouldBe_80 : decode cL_wouldBe 80 = .ok (.invokevirtual 58, 3) := by decide +kernel
theorem dL_wouldBe_83 : decode cL_wouldBe 83 = .ok (.ifCond .lt 16, 3) := by decide +kernel
theorem dL_wouldBe_86 : decode cL_wouldBe 86 = .ok (.aload_n 0, 1) := by decide +kernel
theorem dL_wouldBe_87 : decode cL_wouldBe 87 = .ok (.bipush 7, 2) := by decide +kernel
theorem dL_wouldBe_89 : decode cL_wouldBe 89 = .ok (.invokevirtual 43, 3) := by decide +kernel
theorem dL_wouldBe_92 : decode cL_wouldBe 92 = .ok (.iload 8, 2) := by decide +kernel
theorem dL_wouldBe_94 : decode cL_wouldBe 94 = .ok (.isub, 1) := by decide +kernel
theorem dL_wouldBe_95 : decode cL_wouldBe 95 = .ok (.iload_n 3, 1) := by decide +kernel
theorem dL_wouldBe_96 : decode cL_wouldBe 96 = .ok (.if_icmp .eq 5, 3) := by decide +kernel
theorem dL_wouldBe_99 : decode cL_wouldBe 99 = .ok (.iconst 0, 1) := by decide +kernel
theorem dL_wouldBe_100 : decode cL_wouldBe 100 = .ok (.ireturn, 1) := by decide +kernel
theorem dL_wouldBe_101 : decode cL_wouldBe 101 = .ok (.aload_n 0, 1) := by decide +kernel
theorem dL_wouldBe_102 : decode cL_wouldBe 102 = .ok (.invokevirtual 74, 3) := by decide +kernel
theorem dL_wouldBe_105 : decode cL_wouldBe 105 = .ok (.ifCond .lt 36, 3) := by decide +kernel
theorem dL_wouldBe_108 : decode cL_wouldBe 108 = .ok (.aload_n 0, 1) := by decide +kernel
theorem dL_wouldBe_109 : decode cL_wouldBe 109 = .ok (.invokevirtual 74, 3) := by decide +kernel
theorem dL_wouldBe_112 : decode cL_wouldBe 112 = .ok (.ifCond .lt 29, 3) := by decide +kernel
theorem dL_wouldBe_115 : decode cL_wouldBe 115 = .ok (.aload_n 0, 1) := by decide +kernel
theorem dL_wouldBe_116 : decode cL_wouldBe 116 = .ok (.bipush 7, 2) := by decide +kernel
theorem dL_wouldBe_118 : decode cL_wouldBe 118 = .ok (.invokevirtual 43, 3) := by decide +kernel
theorem dL_wouldBe_121 : decode cL_wouldBe 121 = .ok (.iload 8, 2) := by decide +kernel
theorem dL_wouldBe_123 : decode cL_wouldBe 123 = .ok (.if_icmp .ne 18, 3) := by decide +kernel
theorem dL_wouldBe_126 : decode cL_wouldBe 126 = .ok (.aload_n 0, 1) := by decide +kernel
theorem dL_wouldBe_127 : decode cL_wouldBe 127 = .ok (.bipush 11, 2) := by decide +kernel
theorem dL_wouldBe_129 : decode cL_wouldBe 129 = .ok (.invokevirtual 43, 3) := by decide +kernel
theorem dL_wouldBe_132 : decode cL_wouldBe 132 = .ok (.iload 5, 2) := by decide +kernel
theorem dL_wouldBe_134 : decode cL_wouldBe 134 = .ok (.if_icmp .ne 7, 3) := by decide +kernel
theorem dL_wouldBe_137 : decode cL_wouldBe 137 = .ok (.iconst 1, 1) := by decide +kernel
theorem dL_wouldBe_138 : decode cL_wouldBe 138 = .ok (.goto 4, 3) := by decide +kernel
theorem dL_wouldBe_141 : decode cL_wouldBe 141 = .ok (.iconst 0, 1) := by decide +kernel
theorem dL_wouldBe_142 : decode cL_wouldBe 142 = .ok (.ireturn, 1) := by decide +kernel
def bfL_wouldBe_142 (p2 : Int32) (p3 : Int32) (s0 : Int32) (S : RS) : Option (Int32 × (RS)) :=
  (if s0 = 0 ∨ s0 = 1 then some (s0, S) else none)
def bfL_wouldBe_141 (p2 : Int32) (p3 : Int32) (S : RS) : Option (Int32 × (RS)) :=
  bfL_wouldBe_142 p2 p3  ((0 : Int32)) S
def bfL_wouldBe_99 (p2 : Int32) (p3 : Int32) (S : RS) : Option (Int32 × (RS)) :=
  some ((0 : Int32), S)
def fL_wouldBe (p2 : Int32) (p3 : Int32) (S : RS) : Option (Int32 × (RS)) :=
  ob (fX5_ifRun p2 p3 S) fun u15 => ob (fX5_bestDiscipline p2 u15.2) fun u16 => ob (fX5_told (11 : Int32) u16.2) fun u17 => ob (fX5_digest u16.2) fun u18 => ob (fX5_told (7 : Int32) u16.2) fun u19 => (if u16.1 < 0 then bfL_wouldBe_99 p2 p3  u16.2 else (if (3 : Int32) < u16.1 then bfL_wouldBe_99 p2 p3  u16.2 else ob (fX5_ifRun p2 u16.1 u16.2) fun u20 => (if u20.1 < u15.1 then bfL_wouldBe_99 p2 p3  u20.2 else ob (fX5_digest u20.2) fun u21 => (if (lg_cmp u21 u18) = 0 then ob (fX5_setDiscipline p3 u20.2) fun u22 => (if u22.1 = u17 then ob (fX5_run p2 u22.2) fun u23 => (if u23.1 < 0 then bfL_wouldBe_99 p2 p3  u23.2 else ob (fX5_told (7 : Int32) u23.2) fun u24 => (if (u24 - u19) = u15.1 then ob (fX5_undo u23.2) fun u25 => (if u25.1 < 0 then bfL_wouldBe_141 p2 p3  u25.2 else ob (fX5_undo u25.2) fun u26 => (if u26.1 < 0 then bfL_wouldBe_141 p2 p3  u26.2 else ob (fX5_told (7 : Int32) u26.2) fun u27 => (if u27 = u19 then ob (fX5_told (11 : Int32) u26.2) fun u28 => (if u28 = u17 then bfL_wouldBe_142 p2 p3  ((1 : Int32)) u26.2 else bfL_wouldBe_141 p2 p3  u26.2) else bfL_wouldBe_141 p2 p3  u26.2))) else bfL_wouldBe_99 p2 p3  u23.2)) else bfL_wouldBe_99 p2 p3  u22.2) else bfL_wouldBe_99 p2 p3  u20.2))))
set_option maxHeartbeats 4000000 in
set_option maxRecDepth 100000 in
theorem kL_wouldBe (l : Launch) (D : va_G) (cI cS : ClassId) (b L : Nat) (xs : Nat → Int32) (aR : Nat → Nat)  (p2 : Int32) (p3 : Int32) (S : RS) {q : Int32 × (RS)} (h : fL_wouldBe p2 p3 S = some q) : Ms l D (tyL cI cS) b L xs yL_wouldBe cL_wouldBe 9 (some .boolean) 10 0 0 [.ref (aR 0), .int p2, .int p3] (wR cI cS aR S) (some (.int q.1)) (wR cI cS aR q.2) := by
  refine Ms_of RL (by decide +kernel) rfl wc_L_wouldBe (Nat.le_of_ble_eq_true rfl) ?_
  intro p e s m args below meth c A Q ls C hA hz hX hP hD hS hl RET
  have RETh : ∀ {pc : Nat} {ls : Array Slot} {H : Heap} {locs : List Loc} {x : Int32} {S1 : RS}, (x = 0 ∨ x = 1) → decode cL_wouldBe pc = .ok (.ireturn, 1) → some (x, S1) = some q → va_P D vwCl (wR cI cS aR S1) H → va_D A (wR cI cS aR S1) → va_S A s.heap H locs → W p l e (rmN 10 0 0) s m args below meth c H locs 0 0 Q (F0 m pc ls [.int x]) := by
    intro pc ls H locs x S1 hx hd h hP hD hS; cases h; exact RET (x_zretN C hx hd) hP hD hS
  have B142 : ∀ (s0 : Int32) (S : RS), bfL_wouldBe_142 p2 p3 s0 S = some q → ∀ (H : Heap) (locs : List Loc) (ls : Array Slot), va_P D vwCl (wR cI cS aR S) H → va_D A (wR cI cS aR S) → va_S A s.heap H locs → lv_has ls 9 [] → W p l e (rmN 10 0 0) s m args below meth c H locs 0 0 Q (F0 m 142 ls [.int s0]) := by
    intro s0 S h H locs ls hP hD hS hl
    rcases x_ifn h with ⟨hc, h⟩
    exact RETh hc dL_wouldBe_142 h hP hD hS
  have B141 : ∀ (S : RS), bfL_wouldBe_141 p2 p3 S = some q → ∀ (H : Heap) (locs : List Loc) (ls : Array Slot), va_P D vwCl (wR cI cS aR S) H → va_D A (wR cI cS aR S) → va_S A s.heap H locs → lv_has ls 9 [] → W p l e (rmN 10 0 0) s m args below meth c H locs 0 0 Q (F0 m 141 ls []) := by
    intro S h H locs ls hP hD hS hl
    refine x_iconst (v := (0 : Int32)) C dL_wouldBe_141 (by decide) ?_
    exact B142 _ _ h _ _ _ hP hD hS hl
  have B99 : ∀ (S : RS), bfL_wouldBe_99 p2 p3 S = some q → ∀ (H : Heap) (locs : List Loc) (ls : Array Slot), va_P D vwCl (wR cI cS aR S) H → va_D A (wR cI cS aR S) → va_S A s.heap H locs → lv_has ls 9 [] → W p l e (rmN 10 0 0) s m args below meth c H locs 0 0 Q (F0 m 99 ls []) := by
    intro S h H locs ls hP hD hS hl
    refine x_iconst (v := (0 : Int32)) C dL_wouldBe_99 (by decide) ?_
    exact RETh (by decide) dL_wouldBe_100 h hP hD hS
  refine x_aload_n C dL_wouldBe_0 rfl hl 0 rfl ?_
  refine x_iload_n C dL_wouldBe_1 rfl hl 1 rfl ?_
  refine x_iload_n C dL_wouldBe_2 rfl hl 2 rfl ?_
  obtain ⟨u15, hu15, h⟩ := ob_some h
  refine x_callV (As := [.int _, .int _]) (n := 2) C (kX5_ifRun l D cI cS aR _ _ _ hu15) (fun hh => nomatch hh) wm_L_64 wi_X5_ifRun we_X5_ifRun wz_X5 wc_X5_ifRun (by decide +kernel) rfl hP hD hS hA 0 2 rfl rfl rfl hl.1 dL_wouldBe_3 rfl (Nat.le_of_ble_eq_true rfl) ⟨Nat.le_of_ble_eq_true rfl, Nat.le_of_ble_eq_true rfl⟩ ⟨Nat.zero_le _, Nat.zero_le _⟩ (fun H locs hP hD hS => ?_)
  refine x_istore_n (lv' := [(3, .int u15.1), (0, .ref (aR 0)), (1, .int p2), (2, .int p3)]) C dL_wouldBe_6 rfl hl (by decide) rfl (fun ls hl => ?_)
  refine x_aload_n C dL_wouldBe_7 rfl hl 1 rfl ?_
  refine x_iload_n C dL_wouldBe_8 rfl hl 2 rfl ?_
  obtain ⟨u16, hu16, h⟩ := ob_some h
  refine x_callV (As := [.int _]) (n := 1) C (kX5_bestDiscipline l D cI cS aR _ _ hu16) (fun hh => nomatch hh) wm_L_67 wi_X5_bestDiscipline we_X5_bestDiscipline wz_X5 wc_X5_bestDiscipline (by decide +kernel) rfl hP hD hS hA 0 2 rfl rfl rfl hl.1 dL_wouldBe_9 rfl (Nat.le_of_ble_eq_true rfl) ⟨Nat.le_of_ble_eq_true rfl, Nat.le_of_ble_eq_true rfl⟩ ⟨Nat.zero_le _, Nat.zero_le _⟩ (fun H locs hP hD hS => ?_)
  refine x_istore (lv' := [(4, .int u16.1), (3, .int u15.1), (0, .ref (aR 0)), (1, .int p2), (2, .int p3)]) C dL_wouldBe_12 hl (by decide) rfl (fun ls hl => ?_)
  refine x_aload_n C dL_wouldBe_14 rfl hl 2 rfl ?_
  refine x_bipush (v := (11 : Int32)) C dL_wouldBe_15 (by decide) ?_
  obtain ⟨u17, hu17, h⟩ := ob_some h
  refine x_callV (As := [.int _]) (n := 1) C (kX5_told l D cI cS aR _ _ hu17) (fun hh => nomatch hh) wm_L_43 wi_X5_told we_X5_told wz_X5 wc_X5_told (by decide +kernel) rfl hP hD hS hA 0 2 rfl rfl rfl hl.1 dL_wouldBe_17 rfl (Nat.le_of_ble_eq_true rfl) ⟨Nat.le_of_ble_eq_true rfl, Nat.le_of_ble_eq_true rfl⟩ ⟨Nat.zero_le _, Nat.zero_le _⟩ (fun H locs hP hD hS => ?_)
  refine x_istore (lv' := [(5, .int u17), (4, .int u16.1), (3, .int u15.1), (0, .ref (aR 0)), (1, .int p2), (2, .int p3)]) C dL_wouldBe_20 hl (by decide) rfl (fun ls hl => ?_)
  refine x_aload_n C dL_wouldBe_22 rfl hl 3 rfl ?_
  obtain ⟨u18, hu18, h⟩ := ob_some h
  refine x_callV (As := []) (n := 0) C (kX5_digest l D cI cS aR _ hu18) (fun _ => hz) wm_L_70 wi_X5_digest we_X5_digest wz_X5 wc_X5_digest (by decide +kernel) rfl hP hD hS hA 0 2 rfl rfl rfl hl.1 dL_wouldBe_23 rfl (Nat.le_of_ble_eq_true rfl) ⟨Nat.le_of_ble_eq_true rfl, Nat.le_of_ble_eq_true rfl⟩ ⟨Nat.zero_le _, Nat.zero_le _⟩ (fun H locs hP hD hS => ?_)
  refine x_lstore (lv' := [(6, .long u18), (5, .int u17), (4, .int u16.1), (3, .int u15.1), (0, .ref (aR 0)), (1, .int p2), (2, .int p3)]) C dL_wouldBe_26 hl (by decide) rfl (fun ls hl => ?_)
  refine x_aload_n C dL_wouldBe_28 rfl hl 4 rfl ?_
  refine x_bipush (v := (7 : Int32)) C dL_wouldBe_29 (by decide) ?_
  obtain ⟨u19, hu19, h⟩ := ob_some h
  refine x_callV (As := [.int _]) (n := 1) C (kX5_told l D cI cS aR _ _ hu19) (fun hh => nomatch hh) wm_L_43 wi_X5_told we_X5_told wz_X5 wc_X5_told (by decide +kernel) rfl hP hD hS hA 0 2 rfl rfl rfl hl.1 dL_wouldBe_31 rfl (Nat.le_of_ble_eq_true rfl) ⟨Nat.le_of_ble_eq_true rfl, Nat.le_of_ble_eq_true rfl⟩ ⟨Nat.zero_le _, Nat.zero_le _⟩ (fun H locs hP hD hS => ?_)
  refine x_istore (lv' := [(8, .int u19), (6, .long u18), (5, .int u17), (4, .int u16.1), (3, .int u15.1), (0, .ref (aR 0)), (1, .int p2), (2, .int p3)]) C dL_wouldBe_34 hl (by decide) rfl (fun ls hl => ?_)
  refine x_iload C dL_wouldBe_36 hl 3 rfl ?_
  refine x_if_lt (tgt := 99) C h dL_wouldBe_38 (by decide) (fun h => ?_) (fun h => ?_)
  · exact B99 _ h _ _ _ hP hD hS (lv_sub hl [] rfl)
  · refine x_iload C dL_wouldBe_41 hl 3 rfl ?_
    refine x_iconst (v := (3 : Int32)) C dL_wouldBe_43 (by decide) ?_
    refine x_icmp_gt (tgt := 99) C h dL_wouldBe_44 (by decide) (fun h => ?_) (fun h => ?_)
    · exact B99 _ h _ _ _ hP hD hS (lv_sub hl [] rfl)
    · refine x_aload_n C dL_wouldBe_47 rfl hl 5 rfl ?_
      refine x_iload_n C dL_wouldBe_48 rfl hl 6 rfl ?_
      refine x_iload C dL_wouldBe_49 hl 3 rfl ?_
      obtain ⟨u20, hu20, h⟩ := ob_some h
      refine x_callV (As := [.int _, .int _]) (n := 2) C (kX5_ifRun l D cI cS aR _ _ _ hu20) (fun hh => nomatch hh) wm_L_64 wi_X5_ifRun we_X5_ifRun wz_X5 wc_X5_ifRun (by decide +kernel) rfl hP hD hS hA 0 2 rfl rfl rfl hl.1 dL_wouldBe_51 rfl (Nat.le_of_ble_eq_true rfl) ⟨Nat.le_of_ble_eq_true rfl, Nat.le_of_ble_eq_true rfl⟩ ⟨Nat.zero_le _, Nat.zero_le _⟩ (fun H locs hP hD hS => ?_)
      refine x_iload_n C dL_wouldBe_54 rfl hl 4 rfl ?_
      refine x_icmp_lt (tgt := 99) C h dL_wouldBe_55 (by decide) (fun h => ?_) (fun h => ?_)
      · exact B99 _ h _ _ _ hP hD hS (lv_sub hl [] rfl)
      · refine x_aload_n C dL_wouldBe_58 rfl hl 5 rfl ?_
        obtain ⟨u21, hu21, h⟩ := ob_some h
        refine x_callV (As := []) (n := 0) C (kX5_digest l D cI cS aR _ hu21) (fun _ => hz) wm_L_70 wi_X5_digest we_X5_digest wz_X5 wc_X5_digest (by decide +kernel) rfl hP hD hS hA 0 2 rfl rfl rfl hl.1 dL_wouldBe_59 rfl (Nat.le_of_ble_eq_true rfl) ⟨Nat.le_of_ble_eq_true rfl, Nat.le_of_ble_eq_true rfl⟩ ⟨Nat.zero_le _, Nat.zero_le _⟩ (fun H locs hP hD hS => ?_)
        refine x_lload C dL_wouldBe_62 hl 1 rfl ?_
        refine x_lcmp C dL_wouldBe_64 ?_
        refine x_if_ne (tgt := 99) C h dL_wouldBe_65 (by decide) (fun h => ?_) (fun h => ?_)
        · exact B99 _ h _ _ _ hP hD hS (lv_sub hl [] rfl)
        · refine x_aload_n C dL_wouldBe_68 rfl hl 5 rfl ?_
          refine x_iload_n C dL_wouldBe_69 rfl hl 7 rfl ?_
          obtain ⟨u22, hu22, h⟩ := ob_some h
          refine x_callV (As := [.int _]) (n := 1) C (kX5_setDiscipline l D cI cS aR _ _ hu22) (fun hh => nomatch hh) wm_L_31 wi_X5_setDiscipline we_X5_setDiscipline wz_X5 wc_X5_setDiscipline (by decide +kernel) rfl hP hD hS hA 0 2 rfl rfl rfl hl.1 dL_wouldBe_70 rfl (Nat.le_of_ble_eq_true rfl) ⟨Nat.le_of_ble_eq_true rfl, Nat.le_of_ble_eq_true rfl⟩ ⟨Nat.zero_le _, Nat.zero_le _⟩ (fun H locs hP hD hS => ?_)
          refine x_iload C dL_wouldBe_73 hl 2 rfl ?_
          refine x_icmp_ne (tgt := 99) C h dL_wouldBe_75 (by decide) (fun h => ?_) (fun h => ?_)
          · exact B99 _ h _ _ _ hP hD hS (lv_sub hl [] rfl)
          · refine x_aload_n C dL_wouldBe_78 rfl hl 5 rfl ?_
            refine x_iload_n C dL_wouldBe_79 rfl hl 6 rfl ?_
            obtain ⟨u23, hu23, h⟩ := ob_some h
            refine x_callV (As := [.int _]) (n := 1) C (kX5_run l D cI cS aR _ _ hu23) (fun hh => nomatch hh) wm_L_58 wi_X5_run we_X5_run wz_X5 wc_X5_run (by decide +kernel) rfl hP hD hS hA 0 2 rfl rfl rfl hl.1 dL_wouldBe_80 rfl (Nat.le_of_ble_eq_true rfl) ⟨Nat.le_of_ble_eq_true rfl, Nat.le_of_ble_eq_true rfl⟩ ⟨Nat.zero_le _, Nat.zero_le _⟩ (fun H locs hP hD hS => ?_)
            refine x_if_lt (tgt := 99) C h dL_wouldBe_83 (by decide) (fun h => ?_) (fun h => ?_)
            · exact B99 _ h _ _ _ hP hD hS (lv_sub hl [] rfl)
            · refine x_aload_n C dL_wouldBe_86 rfl hl 5 rfl ?_
              refine x_bipush (v := (7 : Int32)) C dL_wouldBe_87 (by decide) ?_
              obtain ⟨u24, hu24, h⟩ := ob_some h
              refine x_callV (As := [.int _]) (n := 1) C (kX5_told l D cI cS aR _ _ hu24) (fun hh => nomatch hh) wm_L_43 wi_X5_told we_X5_told wz_X5 wc_X5_told (by decide +kernel) rfl hP hD hS hA 0 2 rfl rfl rfl hl.1 dL_wouldBe_89 rfl (Nat.le_of_ble_eq_true rfl) ⟨Nat.le_of_ble_eq_true rfl, Nat.le_of_ble_eq_true rfl⟩ ⟨Nat.zero_le _, Nat.zero_le _⟩ (fun H locs hP hD hS => ?_)
              refine x_iload C dL_wouldBe_92 hl 0 rfl ?_
              refine x_isub C dL_wouldBe_94 ?_
              refine x_iload_n C dL_wouldBe_95 rfl hl 4 rfl ?_
              refine x_icmp_eq (tgt := 101) C h dL_wouldBe_96 (by decide) (fun h => ?_) (fun h => ?_)
              · refine x_aload_n C dL_wouldBe_101 rfl hl 5 rfl ?_
                obtain ⟨u25, hu25, h⟩ := ob_some h
                refine x_callV (As := []) (n := 0) C (kX5_undo l D cI cS aR _ hu25) (fun hh => nomatch hh) wm_L_74 wi_X5_undo we_X5_undo wz_X5 wc_X5_undo (by decide +kernel) rfl hP hD hS hA 0 2 rfl rfl rfl hl.1 dL_wouldBe_102 rfl (Nat.le_of_ble_eq_true rfl) ⟨Nat.le_of_ble_eq_true rfl, Nat.le_of_ble_eq_true rfl⟩ ⟨Nat.zero_le _, Nat.zero_le _⟩ (fun H locs hP hD hS => ?_)
                refine x_if_lt (tgt := 141) C h dL_wouldBe_105 (by decide) (fun h => ?_) (fun h => ?_)
                · exact B141 _ h _ _ _ hP hD hS (lv_sub hl [] rfl)
                · refine x_aload_n C dL_wouldBe_108 rfl hl 5 rfl ?_
                  obtain ⟨u26, hu26, h⟩ := ob_some h
                  refine x_callV (As := []) (n := 0) C (kX5_undo l D cI cS aR _ hu26) (fun hh => nomatch hh) wm_L_74 wi_X5_undo we_X5_undo wz_X5 wc_X5_undo (by decide +kernel) rfl hP hD hS hA 0 2 rfl rfl rfl hl.1 dL_wouldBe_109 rfl (Nat.le_of_ble_eq_true rfl) ⟨Nat.le_of_ble_eq_true rfl, Nat.le_of_ble_eq_true rfl⟩ ⟨Nat.zero_le _, Nat.zero_le _⟩ (fun H locs hP hD hS => ?_)
                  refine x_if_lt (tgt := 141) C h dL_wouldBe_112 (by decide) (fun h => ?_) (fun h => ?_)
                  · exact B141 _ h _ _ _ hP hD hS (lv_sub hl [] rfl)
                  · refine x_aload_n C dL_wouldBe_115 rfl hl 5 rfl ?_
                    refine x_bipush (v := (7 : Int32)) C dL_wouldBe_116 (by decide) ?_
                    obtain ⟨u27, hu27, h⟩ := ob_some h
                    refine x_callV (As := [.int _]) (n := 1) C (kX5_told l D cI cS aR _ _ hu27) (fun hh => nomatch hh) wm_L_43 wi_X5_told we_X5_told wz_X5 wc_X5_told (by decide +kernel) rfl hP hD hS hA 0 2 rfl rfl rfl hl.1 dL_wouldBe_118 rfl (Nat.le_of_ble_eq_true rfl) ⟨Nat.le_of_ble_eq_true rfl, Nat.le_of_ble_eq_true rfl⟩ ⟨Nat.zero_le _, Nat.zero_le _⟩ (fun H locs hP hD hS => ?_)
                    refine x_iload C dL_wouldBe_121 hl 0 rfl ?_
                    refine x_icmp_ne (tgt := 141) C h dL_wouldBe_123 (by decide) (fun h => ?_) (fun h => ?_)
                    · exact B141 _ h _ _ _ hP hD hS (lv_sub hl [] rfl)
                    · refine x_aload_n C dL_wouldBe_126 rfl hl 5 rfl ?_
                      refine x_bipush (v := (11 : Int32)) C dL_wouldBe_127 (by decide) ?_
                      obtain ⟨u28, hu28, h⟩ := ob_some h
                      refine x_callV (As := [.int _]) (n := 1) C (kX5_told l D cI cS aR _ _ hu28) (fun hh => nomatch hh) wm_L_43 wi_X5_told we_X5_told wz_X5 wc_X5_told (by decide +kernel) rfl hP hD hS hA 0 2 rfl rfl rfl hl.1 dL_wouldBe_129 rfl (Nat.le_of_ble_eq_true rfl) ⟨Nat.le_of_ble_eq_true rfl, Nat.le_of_ble_eq_true rfl⟩ ⟨Nat.zero_le _, Nat.zero_le _⟩ (fun H locs hP hD hS => ?_)
                      refine x_iload C dL_wouldBe_132 hl 2 rfl ?_
                      refine x_icmp_ne (tgt := 141) C h dL_wouldBe_134 (by decide) (fun h => ?_) (fun h => ?_)
                      · exact B141 _ h _ _ _ hP hD hS (lv_sub hl [] rfl)
                      · refine x_iconst (v := (1 : Int32)) C dL_wouldBe_137 (by decide) ?_
                        refine x_goto (tgt := 142) C dL_wouldBe_138 (by decide) ?_
                        exact B142 _ _ h _ _ _ hP hD hS (lv_sub hl [] rfl)
              · exact B99 _ h _ _ _ hP hD hS (lv_sub hl [] rfl)
