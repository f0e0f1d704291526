theorem dX6_init_0 : decode cX6_init 0 = .ok (.aload_n 0, 1) := by decide +kernel
theorem dX6_init_1 : decode cX6_init 1 = .ok (.invokespecial 1, 3) := by decide +kernel
theorem dX6_init_4 : decode cX6_init 4 = .ok (.aload_n 0, 1) := by decide +kernel
theorem dX6_init_5 : decode cX6_init 5 = .ok (.sipush 5130, 3) := by decide +kernel
theorem dX6_init_8 : decode cX6_init 8 = .ok (.newarray .int, 2) := by decide +kernel
theorem dX6_init_10 : decode cX6_init 10 = .ok (.putfield 7, 3) := by decide +kernel
theorem dX6_init_13 : decode cX6_init 13 = .ok (.aload_n 0, 1) := by decide +kernel
theorem dX6_init_14 : decode cX6_init 14 = .ok (.bipush 12, 2) := by decide +kernel
theorem dX6_init_16 : decode cX6_init 16 = .ok (.newarray .int, 2) := by decide +kernel
theorem dX6_init_18 : decode cX6_init 18 = .ok (.dup, 1) := by decide +kernel
theorem dX6_init_19 : decode cX6_init 19 = .ok (.iconst 0, 1) := by decide +kernel
theorem dX6_init_20 : decode cX6_init 20 = .ok (.iconst 0, 1) := by decide +kernel
theorem dX6_init_21 : decode cX6_init 21 = .ok (.iastore, 1) := by decide +kernel
theorem dX6_init_22 : decode cX6_init 22 = .ok (.dup, 1) := by decide +kernel
theorem dX6_init_23 : decode cX6_init 23 = .ok (.iconst 1, 1) := by decide +kernel
theorem dX6_init_24 : decode cX6_init 24 = .ok (.iconst 0, 1) := by decide +kernel
theorem dX6_init_25 : decode cX6_init 25 = .ok (.iastore, 1) := by decide +kernel
theorem dX6_init_26 : decode cX6_init 26 = .ok (.dup, 1) := by decide +kernel
theorem dX6_init_27 : decode cX6_init 27 = .ok (.iconst 2, 1) := by decide +kernel
theorem dX6_init_28 : decode cX6_init 28 = .ok (.iconst 1, 1) := by decide +kernel
theorem dX6_init_29 : decode cX6_init 29 = .ok (.iastore, 1) := by decide +kernel
theorem dX6_init_30 : decode cX6_init 30 = .ok (.dup, 1) := by decide +kernel
theorem dX6_init_31 : decode cX6_init 31 = .ok (.iconst 3, 1) := by decide +kernel
theorem dX6_init_32 : decode cX6_init 32 = .ok (.iconst 1, 1) := by decide +kernel
theorem dX6_init_33 : decode cX6_init 33 = .ok (.iastore, 1) := by decide +kernel
theorem dX6_init_34 : decode cX6_init 34 = .ok (.dup, 1) := by decide +kernel
theorem dX6_init_35 : decode cX6_init 35 = .ok (.iconst 4, 1) := by decide +kernel
theorem dX6_init_36 : decode cX6_init 36 = .ok (.iconst 1, 1) := by decide +kernel
theorem dX6_init_37 : decode cX6_init 37 = .ok (.iastore, 1) := by decide +kernel
theorem dX6_init_38 : decode cX6_init 38 = .ok (.dup, 1) := by decide +kernel
theorem dX6_init_39 : decode cX6_init 39 = .ok (.iconst 5, 1) := by decide +kernel
theorem dX6_init_40 : decode cX6_init 40 = .ok (.iconst 1, 1) := by decide +kernel
theorem dX6_init_41 : decode cX6_init 41 = .ok (.iastore, 1) := by decide +kernel
theorem dX6_init_42 : decode cX6_init 42 = .ok (.dup, 1) := by decide +kernel
theorem dX6_init_43 : decode cX6_init 43 = .ok (.bipush 6, 2) := by decide +kernel
theorem dX6_init_45 : decode cX6_init 45 = .ok (.iconst 1, 1) := by decide +kernel
theorem dX6_init_46 : decode cX6_init 46 = .ok (.iastore, 1) := by decide +kernel
theorem dX6_init_47 : decode cX6_init 47 = .ok (.dup, 1) := by decide +kernel
theorem dX6_init_48 : decode cX6_init 48 = .ok (.bipush 7, 2) := by decide +kernel
theorem dX6_init_50 : decode cX6_init 50 = .ok (.iconst 0, 1) := by decide +kernel
theorem dX6_init_51 : decode cX6_init 51 = .ok (.iastore, 1) := by decide +kernel
theorem dX6_init_52 : decode cX6_init 52 = .ok (.dup, 1) := by decide +kernel
theorem dX6_init_53 : decode cX6_init 53 = .ok (.bipush 8, 2) := by decide +kernel
theorem dX6_init_55 : decode cX6_init 55 = .ok (.iconst 1, 1) := by decide +kernel
theorem dX6_init_56 : decode cX6_init 56 = .ok (.iastore, 1) := by decide +kernel
theorem dX6_init_57 : decode cX6_init 57 = .ok (.dup, 1) := by decide +kernel
theorem dX6_init_58 : decode cX6_init 58 = .ok (.bipush 9, 2) := by decide +kernel
theorem dX6_init_60 : decode cX6_init 60 = .ok (.iconst 0, 1) := by decide +kernel
theorem dX6_init_61 : decode cX6_init 61 = .ok (.iastore, 1) := by decide +kernel
theorem dX6_init_62 : decode cX6_init 62 = .ok (.dup, 1) := by decide +kernel
theorem dX6_init_63 : decode cX6_init 63 = .ok (.bipush 10, 2) := by decide +kernel
theorem dX6_init_65 : decode cX6_init 65 = .ok (.iconst 0, 1) := by decide +kernel
theorem dX6_init_66 : decode cX6_init 66 = .ok (.iastore, 1) := by decide +kernel
theorem dX6_init_67 : decode cX6_init 67 = .ok (.dup, 1) := by decide +kernel
theorem dX6_init_68 : decode cX6_init 68 = .ok (.bipush 11, 2) := by decide +kernel
theorem dX6_init_70 : decode cX6_init 70 = .ok (.iconst 0, 1) := by decide +kernel
theorem dX6_init_71 : decode cX6_init 71 = .ok (.iastore, 1) := by decide +kernel
theorem dX6_init_72 : decode cX6_init 72 = .ok (.putfield 13, 3) := by decide +kernel
theorem dX6_init_75 : decode cX6_init 75 = .ok (.aload_n 0, 1) := by decide +kernel
theorem dX6_init_76 : decode cX6_init 76 = .ok (.bipush 12, 2) := by decide +kernel
theorem dX6_init_78 : decode cX6_init 78 = .ok (.newarray .int, 2) := by decide +kernel
theorem dX6_init_80 : decode cX6_init 80 = .ok (.dup, 1) := by decide +kernel
theorem dX6_init_81 : decode cX6_init 81 = .ok (.iconst 0, 1) := by decide +kernel
theorem dX6_init_82 : decode cX6_init 82 = .ok (.bipush 50, 2) := by decide +kernel
theorem dX6_init_84 : decode cX6_init 84 = .ok (.iastore, 1) := by decide +kernel
theorem dX6_init_85 : decode cX6_init 85 = .ok (.dup, 1) := by decide +kernel
theorem dX6_init_86 : decode cX6_init 86 = .ok (.iconst 1, 1) := by decide +kernel
theorem dX6_init_87 : decode cX6_init 87 = .ok (.bipush 50, 2) := by decide +kernel
theorem dX6_init_89 : decode cX6_init 89 = .ok (.iastore, 1) := by decide +kernel
theorem dX6_init_90 : decode cX6_init 90 = .ok (.dup, 1) := by decide +kernel
theorem dX6_init_91 : decode cX6_init 91 = .ok (.iconst 2, 1) := by decide +kernel
theorem dX6_init_92 : decode cX6_init 92 = .ok (.bipush 60, 2) := by decide +kernel
theorem dX6_init_94 : decode cX6_init 94 = .ok (.iastore, 1) := by decide +kernel
theorem dX6_init_95 : decode cX6_init 95 = .ok (.dup, 1) := by decide +kernel
theorem dX6_init_96 : decode cX6_init 96 = .ok (.iconst 3, 1) := by decide +kernel
theorem dX6_init_97 : decode cX6_init 97 = .ok (.bipush 6, 2) := by decide +kernel
theorem dX6_init_99 : decode cX6_init 99 = .ok (.iastore, 1) := by decide +kernel
theorem dX6_init_100 : decode cX6_init 100 = .ok (.dup, 1) := by decide +kernel
theorem dX6_init_101 : decode cX6_init 101 = .ok (.iconst 4, 1) := by decide +kernel
theorem dX6_init_102 : decode cX6_init 102 = .ok (.bipush 40, 2) := by decide +kernel
theorem dX6_init_104 : decode cX6_init 104 = .ok (.iastore, 1) := by decide +kernel
theorem dX6_init_105 : decode cX6_init 105 = .ok (.dup, 1) := by decide +kernel
theorem dX6_init_106 : decode cX6_init 106 = .ok (.iconst 5, 1) := by decide +kernel
theorem dX6_init_107 : decode cX6_init 107 = .ok (.bipush 16, 2) := by decide +kernel
theorem dX6_init_109 : decode cX6_init 109 = .ok (.iastore, 1) := by decide +kernel
theorem dX6_init_110 : decode cX6_init 110 = .ok (.dup, 1) := by decide +kernel
theorem dX6_init_111 : decode cX6_init 111 = .ok (.bipush 6, 2) := by decide +kernel
theorem dX6_init_113 : decode cX6_init 113 = .ok (.bipush 64, 2) := by decide +kernel
theorem dX6_init_115 : decode cX6_init 115 = .ok (.iastore, 1) := by decide +kernel
theorem dX6_init_116 : decode cX6_init 116 = .ok (.dup, 1) := by decide +kernel
theorem dX6_init_117 : decode cX6_init 117 = .ok (.bipush 7, 2) := by decide +kernel
theorem dX6_init_119 : decode cX6_init 119 = .ok (.iconst 3, 1) := by decide +kernel
theorem dX6_init_120 : decode cX6_init 120 = .ok (.iastore, 1) := by decide +kernel
theorem dX6_init_121 : decode cX6_init 121 = .ok (.dup, 1) := by decide +kernel
theorem dX6_init_122 : decode cX6_init 122 = .ok (.bipush 8, 2) := by decide +kernel
theorem dX6_init_124 : decode cX6_init 124 = .ok (.bipush 12, 2) := by decide +kernel
theorem dX6_init_126 : decode cX6_init 126 = .ok (.iastore, 1) := by decide +kernel
theorem dX6_init_127 : decode cX6_init 127 = .ok (.dup, 1) := by decide +kernel
theorem dX6_init_128 : decode cX6_init 128 = .ok (.bipush 9, 2) := by decide +kernel
theorem dX6_init_130 : decode cX6_init 130 = .ok (.bipush 12, 2) := by decide +kernel
theorem dX6_init_132 : decode cX6_init 132 = .ok (.iastore, 1) := by decide +kernel
theorem dX6_init_133 : decode cX6_init 133 = .ok (.dup, 1) := by decide +kernel
theorem dX6_init_134 : decode cX6_init 134 = .ok (.bipush 10, 2) := by decide +kernel
theorem dX6_init_136 : decode cX6_init 136 = .ok (.bipush 20, 2) := by decide +kernel
theorem dX6_init_138 : decode cX6_init 138 = .ok (.iastore, 1) := by decide +kernel
theorem dX6_init_139 : decode cX6_init 139 = .ok (.dup, 1) := by decide +kernel
theorem dX6_init_140 : decode cX6_init 140 = .ok (.bipush 11, 2) := by decide +kernel
theorem dX6_init_142 : decode cX6_init 142 = .ok (.bipush 10, 2) := by decide +kernel
theorem dX6_init_144 : decode cX6_init 144 = .ok (.iastore, 1) := by decide +kernel
theorem dX6_init_145 : decode cX6_init 145 = .ok (.putfield 16, 3) := by decide +kernel
theorem dX6_init_148 : decode cX6_init 148 = .ok (.aload_n 0, 1) := by decide +kernel
theorem dX6_init_149 : decode cX6_init 149 = .ok (.bipush 12, 2) := by decide +kernel
theorem dX6_init_151 : decode cX6_init 151 = .ok (.newarray .int, 2) := by decide +kernel
theorem dX6_init_153 : decode cX6_init 153 = .ok (.dup, 1) := by decide +kernel
theorem dX6_init_154 : decode cX6_init 154 = .ok (.iconst 0, 1) := by decide +kernel
theorem dX6_init_155 : decode cX6_init 155 = .ok (.iconst 0, 1) := by decide +kernel
theorem dX6_init_156 : decode cX6_init 156 = .ok (.iastore, 1) := by decide +kernel
theorem dX6_init_157 : decode cX6_init 157 = .ok (.dup, 1) := by decide +kernel
theorem dX6_init_158 : decode cX6_init 158 = .ok (.iconst 1, 1) := by decide +kernel
theorem dX6_init_159 : decode cX6_init 159 = .ok (.iconst 0, 1) := by decide +kernel
theorem dX6_init_160 : decode cX6_init 160 = .ok (.iastore, 1) := by decide +kernel
theorem dX6_init_161 : decode cX6_init 161 = .ok (.dup, 1) := by decide +kernel
theorem dX6_init_162 : decode cX6_init 162 = .ok (.iconst 2, 1) := by decide +kernel
theorem dX6_init_163 : decode cX6_init 163 = .ok (.bipush 20, 2) := by decide +kernel
theorem dX6_init_165 : decode cX6_init 165 = .ok (.iastore, 1) := by decide +kernel
theorem dX6_init_166 : decode cX6_init 166 = .ok (.dup, 1) := by decide +kernel
theorem dX6_init_167 : decode cX6_init 167 = .ok (.iconst 3, 1) := by decide +kernel
theorem dX6_init_168 : decode cX6_init 168 = .ok (.iconst 3, 1) := by decide +kernel
theorem dX6_init_169 : decode cX6_init 169 = .ok (.iastore, 1) := by decide +kernel
theorem dX6_init_170 : decode cX6_init 170 = .ok (.dup, 1) := by decide +kernel
theorem dX6_init_171 : decode cX6_init 171 = .ok (.iconst 4, 1) := by decide +kernel
theorem dX6_init_172 : decode cX6_init 172 = .ok (.bipush 10, 2) := by decide +kernel
theorem dX6_init_174 : decode cX6_init 174 = .ok (.iastore, 1) := by decide +kernel
theorem dX6_init_175 : decode cX6_init 175 = .ok (.dup, 1) := by decide +kernel
theorem dX6_init_176 : decode cX6_init 176 = .ok (.iconst 5, 1) := by decide +kernel
theorem dX6_init_177 : decode cX6_init 177 = .ok (.iconst 2, 1) := by decide +kernel
theorem dX6_init_178 : decode cX6_init 178 = .ok (.iastore, 1) := by decide +kernel
theorem dX6_init_179 : decode cX6_init 179 = .ok (.dup, 1) := by decide +kernel
theorem dX6_init_180 : decode cX6_init 180 = .ok (.bipush 6, 2) := by decide +kernel
theorem dX6_init_182 : decode cX6_init 182 = .ok (.bipush 16, 2) := by decide +kernel
theorem dX6_init_184 : decode cX6_init 184 = .ok (.iastore, 1) := by decide +kernel
theorem dX6_init_185 : decode cX6_init 185 = .ok (.dup, 1) := by decide +kernel
theorem dX6_init_186 : decode cX6_init 186 = .ok (.bipush 7, 2) := by decide +kernel
theorem dX6_init_188 : decode cX6_init 188 = .ok (.iconst 0, 1) := by decide +kernel
theorem dX6_init_189 : decode cX6_init 189 = .ok (.iastore, 1) := by decide +kernel
theorem dX6_init_190 : decode cX6_init 190 = .ok (.dup, 1) := by decide +kernel
theorem dX6_init_191 : decode cX6_init 191 = .ok (.bipush 8, 2) := by decide +kernel
theorem dX6_init_193 : decode cX6_init 193 = .ok (.iconst 2, 1) := by decide +kernel
theorem dX6_init_194 : decode cX6_init 194 = .ok (.iastore, 1) := by decide +kernel
theorem dX6_init_195 : decode cX6_init 195 = .ok (.dup, 1) := by decide +kernel
theorem dX6_init_196 : decode cX6_init 196 = .ok (.bipush 9, 2) := by decide +kernel
theorem dX6_init_198 : decode cX6_init 198 = .ok (.iconst 0, 1) := by decide +kernel
theorem dX6_init_199 : decode cX6_init 199 = .ok (.iastore, 1) := by decide +kernel
theorem dX6_init_200 : decode cX6_init 200 = .ok (.dup, 1) := by decide +kernel
theorem dX6_init_201 : decode cX6_init 201 = .ok (.bipush 10, 2) := by decide +kernel
theorem dX6_init_203 : decode cX6_init 203 = .ok (.bipush 20, 2) := by decide +kernel
theorem dX6_init_205 : decode cX6_init 205 = .ok (.iastore, 1) := by decide +kernel
theorem dX6_init_206 : decode cX6_init 206 = .ok (.dup, 1) := by decide +kernel
theorem dX6_init_207 : decode cX6_init 207 = .ok (.bipush 11, 2) := by decide +kernel
theorem dX6_init_209 : decode cX6_init 209 = .ok (.bipush 10, 2) := by decide +kernel
theorem dX6_init_211 : decode cX6_init 211 = .ok (.iastore, 1) := by decide +kernel
theorem dX6_init_212 : decode cX6_init 212 = .ok (.putfield 19, 3) := by decide +kernel
theorem dX6_init_215 : decode cX6_init 215 = .ok (.aload_n 0, 1) := by decide +kernel
theorem dX6_init_216 : decode cX6_init 216 = .ok (.bipush 16, 2) := by decide +kernel
theorem dX6_init_218 : decode cX6_init 218 = .ok (.newarray .int, 2) := by decide +kernel
theorem dX6_init_220 : decode cX6_init 220 = .ok (.putfield 22, 3) := by decide +kernel
theorem dX6_init_223 : decode cX6_init 223 = .ok (.iconst 0, 1) := by decide +kernel
theorem dX6_init_224 : decode cX6_init 224 = .ok (.istore_n 1, 1) := by decide +kernel
theorem dX6_init_225 : decode cX6_init 225 = .ok (.iload_n 1, 1) := by decide +kernel
theorem dX6_init_226 : decode cX6_init 226 = .ok (.bipush 6, 2) := by decide +kernel
theorem dX6_init_228 : decode cX6_init 228 = .ok (.if_icmp .ge 60, 3) := by decide +kernel
theorem dX6_init_231 : decode cX6_init 231 = .ok (.iconst 0, 1) := by decide +kernel
theorem dX6_init_232 : decode cX6_init 232 = .ok (.istore_n 2, 1) := by decide +kernel
theorem dX6_init_233 : decode cX6_init 233 = .ok (.iload_n 2, 1) := by decide +kernel
theorem dX6_init_234 : decode cX6_init 234 = .ok (.bipush 12, 2) := by decide +kernel
theorem dX6_init_236 : decode cX6_init 236 = .ok (.if_icmp .ge 28, 3) := by decide +kernel
theorem dX6_init_239 : decode cX6_init 239 = .ok (.aload_n 0, 1) := by decide +kernel
theorem dX6_init_240 : decode cX6_init 240 = .ok (.getfield 7, 3) := by decide +kernel
theorem dX6_init_243 : decode cX6_init 243 = .ok (.iconst 0, 1) := by decide +kernel
theorem dX6_init_244 : decode cX6_init 244 = .ok (.bipush 12, 2) := by decide +kernel
theorem dX6_init_246 : decode cX6_init 246 = .ok (.iload_n 1, 1) := by decide +kernel
theorem dX6_init_247 : decode cX6_init 247 = .ok (.imul, 1) := by decide +kernel
theorem dX6_init_248 : decode cX6_init 248 = .ok (.iadd, 1) := by decide +kernel
theorem dX6_init_249 : decode cX6_init 249 = .ok (.iload_n 2, 1) := by decide +kernel
theorem dX6_init_250 : decode cX6_init 250 = .ok (.iadd, 1) := by decide +kernel
theorem dX6_init_251 : decode cX6_init 251 = .ok (.aload_n 0, 1) := by decide +kernel
theorem dX6_init_252 : decode cX6_init 252 = .ok (.getfield 19, 3) := by decide +kernel
theorem dX6_init_255 : decode cX6_init 255 = .ok (.iload_n 2, 1) := by decide +kernel
theorem dX6_init_256 : decode cX6_init 256 = .ok (.iaload, 1) := by decide +kernel
theorem dX6_init_257 : decode cX6_init 257 = .ok (.iastore, 1) := by decide +kernel
theorem dX6_init_258 : decode cX6_init 258 = .ok (.iinc 2 1, 3) := by decide +kernel
theorem dX6_init_261 : decode cX6_init 261 = .ok (.goto (-28), 3) := by decide +kernel
theorem dX6_init_264 : decode cX6_init 264 = .ok (.aload_n 0, 1) := by decide +kernel
theorem dX6_init_265 : decode cX6_init 265 = .ok (.getfield 7, 3) := by decide +kernel
theorem dX6_init_268 : decode cX6_init 268 = .ok (.bipush 90, 2) := by decide +kernel
theorem dX6_init_270 : decode cX6_init 270 = .ok (.bipush 8, 2) := by decide +kernel
theorem dX6_init_272 : decode cX6_init 272 = .ok (.iload_n 1, 1) := by decide +kernel
theorem dX6_init_273 : decode cX6_init 273 = .ok (.imul, 1) := by decide +kernel
theorem dX6_init_274 : decode cX6_init 274 = .ok (.iadd, 1) := by decide +kernel
theorem dX6_init_275 : decode cX6_init 275 = .ok (.bipush 7, 2) := by decide +kernel
theorem dX6_init_277 : decode cX6_init 277 = .ok (.iadd, 1) := by decide +kernel
theorem dX6_init_278 : decode cX6_init 278 = .ok (.sipush 200, 3) := by decide +kernel
theorem dX6_init_281 : decode cX6_init 281 = .ok (.iastore, 1) := by decide +kernel
theorem dX6_init_282 : decode cX6_init 282 = .ok (.iinc 1 1, 3) := by decide +kernel
theorem dX6_init_285 : decode cX6_init 285 = .ok (.goto (-60), 3) := by decide +kernel
theorem dX6_init_288 : decode cX6_init 288 = .ok (.aload_n 0, 1) := by decide +kernel
theorem dX6_init_289 : decode cX6_init 289 = .ok (.getfield 7, 3) := by decide +kernel
theorem dX6_init_292 : decode cX6_init 292 = .ok (.sipush 174, 3) := by decide +kernel
theorem dX6_init_295 : decode cX6_init 295 = .ok (.iconst 2, 1) := by decide +kernel
theorem dX6_init_296 : decode cX6_init 296 = .ok (.iastore, 1) := by decide +kernel
theorem dX6_init_297 : decode cX6_init 297 = .ok (.aload_n 0, 1) := by decide +kernel
theorem dX6_init_298 : decode cX6_init 298 = .ok (.getfield 7, 3) := by decide +kernel
theorem dX6_init_301 : decode cX6_init 301 = .ok (.sipush 175, 3) := by decide +kernel
theorem dX6_init_304 : decode cX6_init 304 = .ok (.bipush 8, 2) := by decide +kernel
theorem dX6_init_306 : decode cX6_init 306 = .ok (.iastore, 1) := by decide +kernel
theorem dX6_init_307 : decode cX6_init 307 = .ok (.aload_n 0, 1) := by decide +kernel
theorem dX6_init_308 : decode cX6_init 308 = .ok (.getfield 7, 3) := by decide +kernel
theorem dX6_init_311 : decode cX6_init 311 = .ok (.sipush 176, 3) := by decide +kernel
theorem dX6_init_314 : decode cX6_init 314 = .ok (.iconst 1, 1) := by decide +kernel
theorem dX6_init_315 : decode cX6_init 315 = .ok (.iastore, 1) := by decide +kernel
theorem dX6_init_316 : decode cX6_init 316 = .ok (.aload_n 0, 1) := by decide +kernel
theorem dX6_init_317 : decode cX6_init 317 = .ok (.getfield 7, 3) := by decide +kernel
theorem dX6_init_320 : decode cX6_init 320 = .ok (.sipush 177, 3) := by decide +kernel
theorem dX6_init_323 : decode cX6_init 323 = .ok (.iconst 4, 1) := by decide +kernel
theorem dX6_init_324 : decode cX6_init 324 = .ok (.iastore, 1) := by decide +kernel
theorem dX6_init_325 : decode cX6_init 325 = .ok (.aload_n 0, 1) := by decide +kernel
theorem dX6_init_326 : decode cX6_init 326 = .ok (.getfield 7, 3) := by decide +kernel
theorem dX6_init_329 : decode cX6_init 329 = .ok (.sipush 184, 3) := by decide +kernel
theorem dX6_init_332 : decode cX6_init 332 = .ok (.iconst 1, 1) := by decide +kernel
theorem dX6_init_333 : decode cX6_init 333 = .ok (.iastore, 1) := by decide +kernel
theorem dX6_init_334 : decode cX6_init 334 = .ok (.iconst 0, 1) := by decide +kernel
theorem dX6_init_335 : decode cX6_init 335 = .ok (.istore_n 1, 1) := by decide +kernel
theorem dX6_init_336 : decode cX6_init 336 = .ok (.iload_n 1, 1) := by decide +kernel
theorem dX6_init_337 : decode cX6_init 337 = .ok (.iconst 4, 1) := by decide +kernel
theorem dX6_init_338 : decode cX6_init 338 = .ok (.if_icmp .ge 33, 3) := by decide +kernel
theorem dX6_init_341 : decode cX6_init 341 = .ok (.aload_n 0, 1) := by decide +kernel
theorem dX6_init_342 : decode cX6_init 342 = .ok (.getfield 7, 3) := by decide +kernel
theorem dX6_init_345 : decode cX6_init 345 = .ok (.sipush 591, 3) := by decide +kernel
theorem dX6_init_348 : decode cX6_init 348 = .ok (.iload_n 1, 1) := by decide +kernel
theorem dX6_init_349 : decode cX6_init 349 = .ok (.iadd, 1) := by decide +kernel
theorem dX6_init_350 : decode cX6_init 350 = .ok (.bipush (-9), 2) := by decide +kernel
theorem dX6_init_352 : decode cX6_init 352 = .ok (.iastore, 1) := by decide +kernel
theorem dX6_init_353 : decode cX6_init 353 = .ok (.aload_n 0, 1) := by decide +kernel
theorem dX6_init_354 : decode cX6_init 354 = .ok (.getfield 7, 3) := by decide +kernel
theorem dX6_init_357 : decode cX6_init 357 = .ok (.sipush 595, 3) := by decide +kernel
theorem dX6_init_360 : decode cX6_init 360 = .ok (.iload_n 1, 1) := by decide +kernel
theorem dX6_init_361 : decode cX6_init 361 = .ok (.iadd, 1) := by decide +kernel
theorem dX6_init_362 : decode cX6_init 362 = .ok (.bipush (-9), 2) := by decide +kernel
theorem dX6_init_364 : decode cX6_init 364 = .ok (.iastore, 1) := by decide +kernel
theorem dX6_init_365 : decode cX6_init 365 = .ok (.iinc 1 1, 3) := by decide +kernel
theorem dX6_init_368 : decode cX6_init 368 = .ok (.goto (-32), 3) := by decide +kernel
theorem dX6_init_371 : decode cX6_init 371 = .ok (.return_, 1) := by decide +kernel
def bfX6_init_tail_336  (K336 : Int32 × (MS) → Option (MS)) (x : Int32 × (MS)) : Option (MS) :=
  match x with
  | (x1, S) => (if (4 : Int32) ≤ x1 then some S else (if okI ((591 : Int32) + x1) 5130 then nm (upd S.1 (((591 : Int32) + x1)).toNatClampNeg (-9 : Int32), S.2) fun S10 => (if okI ((595 : Int32) + x1) 5130 then nm (upd S10.1 (((595 : Int32) + x1)).toNatClampNeg (-9 : Int32), S10.2) fun S11 => K336 ((x1 + (1 : Int32)), S11) else none) else none))
def bfX6_init_tail_233  (K225 : Int32 × (MS) → Option (MS)) (K233 : Int32 × Int32 × (MS) → Option (MS)) (x : Int32 × Int32 × (MS)) : Option (MS) :=
  match x with
  | (x1, x2, S) => (if (12 : Int32) ≤ x2 then (if okI (((90 : Int32) + ((8 : Int32) * x1)) + (7 : Int32)) 5130 then nm (upd S.1 ((((90 : Int32) + ((8 : Int32) * x1)) + (7 : Int32))).toNatClampNeg (200 : Int32), S.2) fun S12 => K225 ((x1 + (1 : Int32)), S12) else none) else (if okI x2 12 then (if okI (((0 : Int32) + ((12 : Int32) * x1)) + x2) 5130 then nm (upd S.1 ((((0 : Int32) + ((12 : Int32) * x1)) + x2)).toNatClampNeg ((tabI firstL) (x2).toNatClampNeg), S.2) fun S13 => K233 (x1, (x2 + (1 : Int32)), S13) else none) else none))
def bfX6_init_tail_225  (K225 : Int32 × (MS) → Option (MS)) (x : Int32 × (MS)) : Option (MS) :=
  match x with
  | (x1, S) => (if (6 : Int32) ≤ x1 then nm (upd S.1 ((174 : Int32)).toNatClampNeg (2 : Int32), S.2) fun S14 => nm (upd S14.1 ((175 : Int32)).toNatClampNeg (8 : Int32), S14.2) fun S15 => nm (upd S15.1 ((176 : Int32)).toNatClampNeg (1 : Int32), S15.2) fun S16 => nm (upd S16.1 ((177 : Int32)).toNatClampNeg (4 : Int32), S16.2) fun S17 => nm (upd S17.1 ((184 : Int32)).toNatClampNeg (1 : Int32), S17.2) fun S18 => iter (bfX6_init_tail_336) FU ((0 : Int32), S18) else iter (bfX6_init_tail_233  K225) FU (x1, (0 : Int32), S))
def fX6_init_tail (S : MS) : Option (MS) :=
  iter (bfX6_init_tail_225) FU ((0 : Int32), S)
set_option maxHeartbeats 4000000 in
set_option maxRecDepth 100000 in
theorem kX6_init_tail {p : Program} {l : Launch} {e : Env} {s : State} {m : MethodId} {args : Array Value} {below : List Frame} {meth : Method} {c : Code} {A : Nat → Prop} {Q : State → Prop} {D : va_G} {cI cS : ClassId} (C : Cx p s m args meth c RX6 cX6_init 3 none D (tyL cI cS)) (hA : ∀ q, s.heap.size ≤ q → A q) (hz : ZZ A s s.heap) (hN : NN s) (aM : Nat → Nat) (S : MS) {q : MS} (h : fX6_init_tail S = some q) (RET : ∀ {H : Heap} {locs : List Loc} {pc : Nat} {ls : Array Slot}, decode cX6_init pc = .ok (.return_, 1) → va_P D vwCl (wM cI aM q) H → va_D A (wM cI aM q) → va_S A s.heap H locs → W p l e (rmN 1 5 5182) s m args below meth c H locs 5 5182 Q (F0 m pc ls [])) (H : Heap) (locs : List Loc) (ls : Array Slot) (hP : va_P D vwCl (wM cI aM S) H) (hD : va_D A (wM cI aM S)) (hS : va_S A s.heap H locs) (hl : lv_has ls 3 [(0, .ref (aM 0))]) : W p l e (rmN 1 5 5182) s m args below meth c H locs 5 5182 Q (F0 m 223 ls []) := by
  have RETh : ∀ {pc : Nat} {ls : Array Slot} {H : Heap} {locs : List Loc} {S1 : MS}, decode cX6_init pc = .ok (.return_, 1) → some S1 = some q → va_P D vwCl (wM cI aM S1) H → va_D A (wM cI aM S1) → va_S A s.heap H locs → W p l e (rmN 1 5 5182) s m args below meth c H locs 5 5182 Q (F0 m pc ls []) := by
    intro pc ls H locs S1 hd h hP hD hS; cases h; exact RET hd hP hD hS
  clear RET
  have B336 : ∀ (n : Nat) (x : Int32 × (MS)), iter (bfX6_init_tail_336) n x = some q → (match x with | (x1, S) => ∀ (H : Heap) (locs : List Loc) (ls : Array Slot), va_P D vwCl (wM cI aM S) H → va_D A (wM cI aM S) → va_S A s.heap H locs → lv_has ls 3 [(0, .ref (aM 0)), (1, .int x1)] → W p l e (rmN 1 5 5182) s m args below meth c H locs 5 5182 Q (F0 m 336 ls [])) := by
    refine iter_ind (fun x : Int32 × (MS) => (match x with | (x1, S) => ∀ (H : Heap) (locs : List Loc) (ls : Array Slot), va_P D vwCl (wM cI aM S) H → va_D A (wM cI aM S) → va_S A s.heap H locs → lv_has ls 3 [(0, .ref (aM 0)), (1, .int x1)] → W p l e (rmN 1 5 5182) s m args below meth c H locs 5 5182 Q (F0 m 336 ls []))) ?_
    intro K336 ih336 x h
    obtain ⟨x1, S⟩ := x
    intro H locs ls hP hD hS hl
    refine x_iload_n C dX6_init_336 rfl hl 1 rfl ?_
    refine x_iconst (v := (4 : Int32)) C dX6_init_337 (by decide) ?_
    refine x_icmp_ge (tgt := 371) C h dX6_init_338 (by decide) (fun h => ?_) (fun h => ?_)
    · exact RETh dX6_init_371 h hP hD hS
    · refine x_aload_n C dX6_init_341 rfl hl 0 rfl ?_
      refine x_get C inX6 hP 0 rfl rfl 0 (by decide) wf_X6_7 rfl dX6_init_342 ?_
      refine x_sipush (v := (591 : Int32)) C dX6_init_345 (by decide) ?_
      refine x_iload_n C dX6_init_348 rfl hl 1 rfl ?_
      refine x_iadd C dX6_init_349 ?_
      refine x_bipush (v := (-9 : Int32)) C dX6_init_350 (by decide) ?_
      refine x_iastM (wM cI aM) C h hP hD hS 1 rfl (t0 := 0) rfl rfl dX6_init_352 (fun S10 h H locs hP hD hS => ?_)
      refine x_aload_n C dX6_init_353 rfl hl 0 rfl ?_
      refine x_get C inX6 hP 0 rfl rfl 0 (by decide) wf_X6_7 rfl dX6_init_354 ?_
      refine x_sipush (v := (595 : Int32)) C dX6_init_357 (by decide) ?_
      refine x_iload_n C dX6_init_360 rfl hl 1 rfl ?_
      refine x_iadd C dX6_init_361 ?_
      refine x_bipush (v := (-9 : Int32)) C dX6_init_362 (by decide) ?_
      refine x_iastM (wM cI aM) C h hP hD hS 1 rfl (t0 := 0) rfl rfl dX6_init_364 (fun S11 h H locs hP hD hS => ?_)
      refine x_iinc (v := (x1 + (1 : Int32))) (lv' := [(1, .int (x1 + (1 : Int32))), (0, .ref (aM 0))]) C dX6_init_365 hl (k := 1) rfl rfl (by decide) rfl (fun ls hl => ?_)
      refine x_goto (tgt := 336) C dX6_init_368 (by decide) ?_
      exact ih336 _ h _ _ _ hP hD hS (lv_sub hl [1, 0] rfl)
  have B233 : ∀ (K225 : Int32 × (MS) → Option (MS)) (ih225 : ∀ x, K225 x = some q → (match x with | (x1, S) => ∀ (H : Heap) (locs : List Loc) (ls : Array Slot), va_P D vwCl (wM cI aM S) H → va_D A (wM cI aM S) → va_S A s.heap H locs → lv_has ls 3 [(0, .ref (aM 0)), (1, .int x1)] → W p l e (rmN 1 5 5182) s m args below meth c H locs 5 5182 Q (F0 m 225 ls []))) (n : Nat) (x : Int32 × Int32 × (MS)), iter (bfX6_init_tail_233 K225) n x = some q → (match x with | (x1, x2, S) => ∀ (H : Heap) (locs : List Loc) (ls : Array Slot), va_P D vwCl (wM cI aM S) H → va_D A (wM cI aM S) → va_S A s.heap H locs → lv_has ls 3 [(0, .ref (aM 0)), (1, .int x1), (2, .int x2)] → W p l e (rmN 1 5 5182) s m args below meth c H locs 5 5182 Q (F0 m 233 ls [])) := by
    intro K225 ih225
    refine iter_ind (fun x : Int32 × Int32 × (MS) => (match x with | (x1, x2, S) => ∀ (H : Heap) (locs : List Loc) (ls : Array Slot), va_P D vwCl (wM cI aM S) H → va_D A (wM cI aM S) → va_S A s.heap H locs → lv_has ls 3 [(0, .ref (aM 0)), (1, .int x1), (2, .int x2)] → W p l e (rmN 1 5 5182) s m args below meth c H locs 5 5182 Q (F0 m 233 ls []))) ?_
    intro K233 ih233 x h
    obtain ⟨x1, x2, S⟩ := x
    intro H locs ls hP hD hS hl
    refine x_iload_n C dX6_init_233 rfl hl 2 rfl ?_
    refine x_bipush (v := (12 : Int32)) C dX6_init_234 (by decide) ?_
    refine x_icmp_ge (tgt := 264) C h dX6_init_236 (by decide) (fun h => ?_) (fun h => ?_)
    · refine x_aload_n C dX6_init_264 rfl hl 0 rfl ?_
      refine x_get C inX6 hP 0 rfl rfl 0 (by decide) wf_X6_7 rfl dX6_init_265 ?_
      refine x_bipush (v := (90 : Int32)) C dX6_init_268 (by decide) ?_
      refine x_bipush (v := (8 : Int32)) C dX6_init_270 (by decide) ?_
      refine x_iload_n C dX6_init_272 rfl hl 1 rfl ?_
      refine x_imul C dX6_init_273 ?_
      refine x_iadd C dX6_init_274 ?_
      refine x_bipush (v := (7 : Int32)) C dX6_init_275 (by decide) ?_
      refine x_iadd C dX6_init_277 ?_
      refine x_sipush (v := (200 : Int32)) C dX6_init_278 (by decide) ?_
      refine x_iastM (wM cI aM) C h hP hD hS 1 rfl (t0 := 0) rfl rfl dX6_init_281 (fun S12 h H locs hP hD hS => ?_)
      refine x_iinc (v := (x1 + (1 : Int32))) (lv' := [(1, .int (x1 + (1 : Int32))), (0, .ref (aM 0)), (2, .int x2)]) C dX6_init_282 hl (k := 1) rfl rfl (by decide) rfl (fun ls hl => ?_)
      refine x_goto (tgt := 225) C dX6_init_285 (by decide) ?_
      exact ih225 _ h _ _ _ hP hD hS (lv_sub hl [1, 0] rfl)
    · refine x_aload_n C dX6_init_239 rfl hl 0 rfl ?_
      refine x_get C inX6 hP 0 rfl rfl 0 (by decide) wf_X6_7 rfl dX6_init_240 ?_
      refine x_iconst (v := (0 : Int32)) C dX6_init_243 (by decide) ?_
      refine x_bipush (v := (12 : Int32)) C dX6_init_244 (by decide) ?_
      refine x_iload_n C dX6_init_246 rfl hl 1 rfl ?_
      refine x_imul C dX6_init_247 ?_
      refine x_iadd C dX6_init_248 ?_
      refine x_iload_n C dX6_init_249 rfl hl 2 rfl ?_
      refine x_iadd C dX6_init_250 ?_
      refine x_aload_n C dX6_init_251 rfl hl 0 rfl ?_
      refine x_get C inX6 hP 0 rfl rfl 4 (by decide) wf_X6_19 rfl dX6_init_252 ?_
      refine x_iload_n C dX6_init_255 rfl hl 2 rfl ?_
      refine x_iald C h hP 4 rfl (t0 := 0) rfl dX6_init_256 (fun h => ?_)
      refine x_iastM (wM cI aM) C h hP hD hS 1 rfl (t0 := 0) rfl rfl dX6_init_257 (fun S13 h H locs hP hD hS => ?_)
      refine x_iinc (v := (x2 + (1 : Int32))) (lv' := [(2, .int (x2 + (1 : Int32))), (0, .ref (aM 0)), (1, .int x1)]) C dX6_init_258 hl (k := 2) rfl rfl (by decide) rfl (fun ls hl => ?_)
      refine x_goto (tgt := 233) C dX6_init_261 (by decide) ?_
      exact ih233 _ h _ _ _ hP hD hS (lv_sub hl [1, 2, 0] rfl)
  have B225 : ∀ (n : Nat) (x : Int32 × (MS)), iter (bfX6_init_tail_225) n x = some q → (match x with | (x1, S) => ∀ (H : Heap) (locs : List Loc) (ls : Array Slot), va_P D vwCl (wM cI aM S) H → va_D A (wM cI aM S) → va_S A s.heap H locs → lv_has ls 3 [(0, .ref (aM 0)), (1, .int x1)] → W p l e (rmN 1 5 5182) s m args below meth c H locs 5 5182 Q (F0 m 225 ls [])) := by
    refine iter_ind (fun x : Int32 × (MS) => (match x with | (x1, S) => ∀ (H : Heap) (locs : List Loc) (ls : Array Slot), va_P D vwCl (wM cI aM S) H → va_D A (wM cI aM S) → va_S A s.heap H locs → lv_has ls 3 [(0, .ref (aM 0)), (1, .int x1)] → W p l e (rmN 1 5 5182) s m args below meth c H locs 5 5182 Q (F0 m 225 ls []))) ?_
    intro K225 ih225 x h
    obtain ⟨x1, S⟩ := x
    intro H locs ls hP hD hS hl
    refine x_iload_n C dX6_init_225 rfl hl 1 rfl ?_
    refine x_bipush (v := (6 : Int32)) C dX6_init_226 (by decide) ?_
    refine x_icmp_ge (tgt := 288) C h dX6_init_228 (by decide) (fun h => ?_) (fun h => ?_)
    · refine x_aload_n C dX6_init_288 rfl hl 0 rfl ?_
      refine x_get C inX6 hP 0 rfl rfl 0 (by decide) wf_X6_7 rfl dX6_init_289 ?_
      refine x_sipush (v := (174 : Int32)) C dX6_init_292 (by decide) ?_
      refine x_iconst (v := (2 : Int32)) C dX6_init_295 (by decide) ?_
      refine x_iastMK (wM cI aM) C h (by decide) hP hD hS 1 rfl (t0 := 0) rfl rfl dX6_init_296 (fun S14 h H locs hP hD hS => ?_)
      refine x_aload_n C dX6_init_297 rfl hl 0 rfl ?_
      refine x_get C inX6 hP 0 rfl rfl 0 (by decide) wf_X6_7 rfl dX6_init_298 ?_
      refine x_sipush (v := (175 : Int32)) C dX6_init_301 (by decide) ?_
      refine x_bipush (v := (8 : Int32)) C dX6_init_304 (by decide) ?_
      refine x_iastMK (wM cI aM) C h (by decide) hP hD hS 1 rfl (t0 := 0) rfl rfl dX6_init_306 (fun S15 h H locs hP hD hS => ?_)
      refine x_aload_n C dX6_init_307 rfl hl 0 rfl ?_
      refine x_get C inX6 hP 0 rfl rfl 0 (by decide) wf_X6_7 rfl dX6_init_308 ?_
      refine x_sipush (v := (176 : Int32)) C dX6_init_311 (by decide) ?_
      refine x_iconst (v := (1 : Int32)) C dX6_init_314 (by decide) ?_
      refine x_iastMK (wM cI aM) C h (by decide) hP hD hS 1 rfl (t0 := 0) rfl rfl dX6_init_315 (fun S16 h H locs hP hD hS => ?_)
      refine x_aload_n C dX6_init_316 rfl hl 0 rfl ?_
      refine x_get C inX6 hP 0 rfl rfl 0 (by decide) wf_X6_7 rfl dX6_init_317 ?_
      refine x_sipush (v := (177 : Int32)) C dX6_init_320 (by decide) ?_
      refine x_iconst (v := (4 : Int32)) C dX6_init_323 (by decide) ?_
      refine x_iastMK (wM cI aM) C h (by decide) hP hD hS 1 rfl (t0 := 0) rfl rfl dX6_init_324 (fun S17 h H locs hP hD hS => ?_)
      refine x_aload_n C dX6_init_325 rfl hl 0 rfl ?_
      refine x_get C inX6 hP 0 rfl rfl 0 (by decide) wf_X6_7 rfl dX6_init_326 ?_
      refine x_sipush (v := (184 : Int32)) C dX6_init_329 (by decide) ?_
      refine x_iconst (v := (1 : Int32)) C dX6_init_332 (by decide) ?_
      refine x_iastMK (wM cI aM) C h (by decide) hP hD hS 1 rfl (t0 := 0) rfl rfl dX6_init_333 (fun S18 h H locs hP hD hS => ?_)
      refine x_iconst (v := (0 : Int32)) C dX6_init_334 (by decide) ?_
      refine x_istore_n (lv' := [(1, .int (0 : Int32)), (0, .ref (aM 0))]) C dX6_init_335 rfl hl (by decide) rfl (fun ls hl => ?_)
      exact B336 FU _ h _ _ _ hP hD hS (lv_sub hl [1, 0] rfl)
    · refine x_iconst (v := (0 : Int32)) C dX6_init_231 (by decide) ?_
      refine x_istore_n (lv' := [(2, .int (0 : Int32)), (0, .ref (aM 0)), (1, .int x1)]) C dX6_init_232 rfl hl (by decide) rfl (fun ls hl => ?_)
      exact B233 K225 ih225 FU _ h _ _ _ hP hD hS (lv_sub hl [1, 2, 0] rfl)
  refine x_iconst (v := (0 : Int32)) C dX6_init_223 (by decide) ?_
  refine x_istore_n (lv' := [(1, .int (0 : Int32)), (0, .ref (aM 0))]) C dX6_init_224 rfl hl (by decide) rfl (fun ls hl => ?_)
  exact B225 FU _ h _ _ _ hP hD hS (lv_sub hl [1, 0] rfl)
def bornM : MS := (fun _ => 0, fun _ => 0, fun _ => 0)
def initM : MS := (fX6_init_tail bornM).getD bornM
theorem initM_eq : fX6_init_tail bornM = some initM := by
  have h : (fX6_init_tail bornM).isSome = true := by decide +kernel
  unfold initM
  cases e : fX6_init_tail bornM with
  | none => rw [e] at h; cases h
  | some q => rfl
theorem arr_at_congr {D : va_G} {pre post : va_W} {cI : ClassId} {a n : Nat} {f g : Nat → Int32} {H : Heap} (h : ∀ j, j < n → f j = g j) (hP : va_P D vwCl (pre ++ ((a, .inl (cI, n, .inl f)) :: post)) H) : va_P D vwCl (pre ++ ((a, .inl (cI, n, .inl g)) :: post)) H := by
  have h' := va_P_mem.mp hP
  refine va_P_mem.mpr fun q hq => ?_
  rcases List.mem_append.mp hq with hq | hq
  · exact h' q (List.mem_append_left _ hq)
  · rcases List.mem_cons.mp hq with rfl | hq
    · have h2 := h' (a, .inl (cI, n, .inl f)) (List.mem_append_right _ List.mem_cons_self)
      show H[a]? = some (vp_cell cI (n, .inl g))
      rw [vp_cell_i, ← arrV_congr (fun j hj => congrArg Value.int (h j hj)), ← vp_cell_i]
      exact h2
    · exact h' q (List.mem_append_right _ (List.mem_cons_of_mem _ hq))
set_option maxHeartbeats 4000000 in
set_option maxRecDepth 100000 in
theorem kX6_init (l : Launch) (D : va_G) (cI cS : ClassId) (mA : Nat) : McN l D (tyL cI cS) yX6_init cX6_init 3 1 [.ref mA] [(mA, .inr (3, [.null, .int 0, .null, .null, .null, .int 0, .int 0, .int 0, .int 0, .null]))] 5 5182 (fun u => wM cI (ad0 mA u) initM) := by
  refine McN_of RX6 (by decide +kernel) rfl wc_X6_init (Nat.le_of_ble_eq_true rfl) ?_
  intro p e s m args below meth c A Q ls C hnm hA hz hN hP hD hS hl RET
  refine x_aload_n C dX6_init_0 rfl hl 0 rfl ?_
  refine x_obj C wm_X6_1 hl.1 dX6_init_1 (Nat.le_of_ble_eq_true rfl) (Nat.le_of_ble_eq_true rfl) ?_
  refine x_aload_n C dX6_init_4 rfl hl 0 rfl ?_
  refine x_sipush (v := (5130 : Int32)) C dX6_init_5 (by decide) ?_
  refine x_newI (N := 5130) C hP hD hS hA (by decide) (by decide) (by decide) (Nat.le_of_ble_eq_true rfl) (Nat.le_of_ble_eq_true rfl) dX6_init_8 (fun a_page H hP hD hS => ?_)
  refine x_putF C hnm (ws' := [(mA, .inr (3, [.ref a_page, .int 0, .null, .null, .null, .int 0, .int 0, .int 0, .int 0, .null])), (a_page, .inl (cI, 5130, .inl (fun _ => 0)))]) (ft := .array .int) inX6 tyX6 tyX6_ok nmX6 hP hD hS 0 rfl rfl 0 (by decide) wf_X6_7 rfl rfl (by decide +kernel) rfl rfl (Nat.le_of_ble_eq_true rfl) rfl dX6_init_10 (fun H locs hP hD hS => ?_)
  refine x_aload_n C dX6_init_13 rfl hl 0 rfl ?_
  refine x_bipush (v := (12 : Int32)) C dX6_init_14 (by decide) ?_
  refine x_newI (N := 12) C hP hD hS hA (by decide) (by decide) (by decide) (Nat.le_of_ble_eq_true rfl) (Nat.le_of_ble_eq_true rfl) dX6_init_16 (fun a_lows H hP hD hS => ?_)
  refine x_dup C dX6_init_18 rfl ?_
  refine x_iconst (v := (0 : Int32)) C dX6_init_19 (by decide) ?_
  refine x_iconst (v := (0 : Int32)) C dX6_init_20 (by decide) ?_
  refine x_iastK C (t0 := 0) (ws' := [(mA, .inr (3, [.ref a_page, .int 0, .null, .null, .null, .int 0, .int 0, .int 0, .int 0, .null])), (a_page, .inl (cI, 5130, .inl (fun _ => 0))), (a_lows, .inl (cI, 12, .inl (upd (fun _ => 0) 0 0)))]) (by decide) hP hD hS 2 rfl rfl rfl dX6_init_21 (fun H locs hP hD hS => ?_)
  refine x_dup C dX6_init_22 rfl ?_
  refine x_iconst (v := (1 : Int32)) C dX6_init_23 (by decide) ?_
  refine x_iconst (v := (0 : Int32)) C dX6_init_24 (by decide) ?_
  refine x_iastK C (t0 := 0) (ws' := [(mA, .inr (3, [.ref a_page, .int 0, .null, .null, .null, .int 0, .int 0, .int 0, .int 0, .null])), (a_page, .inl (cI, 5130, .inl (fun _ => 0))), (a_lows, .inl (cI, 12, .inl (upd (upd (fun _ => 0) 0 0) 1 0)))]) (by decide) hP hD hS 2 rfl rfl rfl dX6_init_25 (fun H locs hP hD hS => ?_)
  refine x_dup C dX6_init_26 rfl ?_
  refine x_iconst (v := (2 : Int32)) C dX6_init_27 (by decide) ?_
  refine x_iconst (v := (1 : Int32)) C dX6_init_28 (by decide) ?_
  refine x_iastK C (t0 := 0) (ws' := [(mA, .inr (3, [.ref a_page, .int 0, .null, .null, .null, .int 0, .int 0, .int 0, .int 0, .null])), (a_page, .inl (cI, 5130, .inl (fun _ => 0))), (a_lows, .inl (cI, 12, .inl (upd (upd (upd (fun _ => 0) 0 0) 1 0) 2 1)))]) (by decide) hP hD hS 2 rfl rfl rfl dX6_init_29 (fun H locs hP hD hS => ?_)
  refine x_dup C dX6_init_30 rfl ?_
  refine x_iconst (v := (3 : Int32)) C dX6_init_31 (by decide) ?_
  refine x_iconst (v := (1 : Int32)) C dX6_init_32 (by decide) ?_
  refine x_iastK C (t0 := 0) (ws' := [(mA, .inr (3, [.ref a_page, .int 0, .null, .null, .null, .int 0, .int 0, .int 0, .int 0, .null])), (a_page, .inl (cI, 5130, .inl (fun _ => 0))), (a_lows, .inl (cI, 12, .inl (upd (upd (upd (upd (fun _ => 0) 0 0) 1 0) 2 1) 3 1)))]) (by decide) hP hD hS 2 rfl rfl rfl dX6_init_33 (fun H locs hP hD hS => ?_)
  refine x_dup C dX6_init_34 rfl ?_
  refine x_iconst (v := (4 : Int32)) C dX6_init_35 (by decide) ?_
  refine x_iconst (v := (1 : Int32)) C dX6_init_36 (by decide) ?_
  refine x_iastK C (t0 := 0) (ws' := [(mA, .inr (3, [.ref a_page, .int 0, .null, .null, .null, .int 0, .int 0, .int 0, .int 0, .null])), (a_page, .inl (cI, 5130, .inl (fun _ => 0))), (a_lows, .inl (cI, 12, .inl (upd (upd (upd (upd (upd (fun _ => 0) 0 0) 1 0) 2 1) 3 1) 4 1)))]) (by decide) hP hD hS 2 rfl rfl rfl dX6_init_37 (fun H locs hP hD hS => ?_)
  refine x_dup C dX6_init_38 rfl ?_
  refine x_iconst (v := (5 : Int32)) C dX6_init_39 (by decide) ?_
  refine x_iconst (v := (1 : Int32)) C dX6_init_40 (by decide) ?_
  refine x_iastK C (t0 := 0) (ws' := [(mA, .inr (3, [.ref a_page, .int 0, .null, .null, .null, .int 0, .int 0, .int 0, .int 0, .null])), (a_page, .inl (cI, 5130, .inl (fun _ => 0))), (a_lows, .inl (cI, 12, .inl (upd (upd (upd (upd (upd (upd (fun _ => 0) 0 0) 1 0) 2 1) 3 1) 4 1) 5 1)))]) (by decide) hP hD hS 2 rfl rfl rfl dX6_init_41 (fun H locs hP hD hS => ?_)
  refine x_dup C dX6_init_42 rfl ?_
  refine x_bipush (v := (6 : Int32)) C dX6_init_43 (by decide) ?_
  refine x_iconst (v := (1 : Int32)) C dX6_init_45 (by decide) ?_
  refine x_iastK C (t0 := 0) (ws' := [(mA, .inr (3, [.ref a_page, .int 0, .null, .null, .null, .int 0, .int 0, .int 0, .int 0, .null])), (a_page, .inl (cI, 5130, .inl (fun _ => 0))), (a_lows, .inl (cI, 12, .inl (upd (upd (upd (upd (upd (upd (upd (fun _ => 0) 0 0) 1 0) 2 1) 3 1) 4 1) 5 1) 6 1)))]) (by decide) hP hD hS 2 rfl rfl rfl dX6_init_46 (fun H locs hP hD hS => ?_)
  refine x_dup C dX6_init_47 rfl ?_
  refine x_bipush (v := (7 : Int32)) C dX6_init_48 (by decide) ?_
  refine x_iconst (v := (0 : Int32)) C dX6_init_50 (by decide) ?_
  refine x_iastK C (t0 := 0) (ws' := [(mA, .inr (3, [.ref a_page, .int 0, .null, .null, .null, .int 0, .int 0, .int 0, .int 0, .null])), (a_page, .inl (cI, 5130, .inl (fun _ => 0))), (a_lows, .inl (cI, 12, .inl (upd (upd (upd (upd (upd (upd (upd (upd (fun _ => 0) 0 0) 1 0) 2 1) 3 1) 4 1) 5 1) 6 1) 7 0)))]) (by decide) hP hD hS 2 rfl rfl rfl dX6_init_51 (fun H locs hP hD hS => ?_)
  refine x_dup C dX6_init_52 rfl ?_
  refine x_bipush (v := (8 : Int32)) C dX6_init_53 (by decide) ?_
  refine x_iconst (v := (1 : Int32)) C dX6_init_55 (by decide) ?_
  refine x_iastK C (t0 := 0) (ws' := [(mA, .inr (3, [.ref a_page, .int 0, .null, .null, .null, .int 0, .int 0, .int 0, .int 0, .null])), (a_page, .inl (cI, 5130, .inl (fun _ => 0))), (a_lows, .inl (cI, 12, .inl (upd (upd (upd (upd (upd (upd (upd (upd (upd (fun _ => 0) 0 0) 1 0) 2 1) 3 1) 4 1) 5 1) 6 1) 7 0) 8 1)))]) (by decide) hP hD hS 2 rfl rfl rfl dX6_init_56 (fun H locs hP hD hS => ?_)
  refine x_dup C dX6_init_57 rfl ?_
  refine x_bipush (v := (9 : Int32)) C dX6_init_58 (by decide) ?_
  refine x_iconst (v := (0 : Int32)) C dX6_init_60 (by decide) ?_
  refine x_iastK C (t0 := 0) (ws' := [(mA, .inr (3, [.ref a_page, .int 0, .null, .null, .null, .int 0, .int 0, .int 0, .int 0, .null])), (a_page, .inl (cI, 5130, .inl (fun _ => 0))), (a_lows, .inl (cI, 12, .inl (upd (upd (upd (upd (upd (upd (upd (upd (upd (upd (fun _ => 0) 0 0) 1 0) 2 1) 3 1) 4 1) 5 1) 6 1) 7 0) 8 1) 9 0)))]) (by decide) hP hD hS 2 rfl rfl rfl dX6_init_61 (fun H locs hP hD hS => ?_)
  refine x_dup C dX6_init_62 rfl ?_
  refine x_bipush (v := (10 : Int32)) C dX6_init_63 (by decide) ?_
  refine x_iconst (v := (0 : Int32)) C dX6_init_65 (by decide) ?_
  refine x_iastK C (t0 := 0) (ws' := [(mA, .inr (3, [.ref a_page, .int 0, .null, .null, .null, .int 0, .int 0, .int 0, .int 0, .null])), (a_page, .inl (cI, 5130, .inl (fun _ => 0))), (a_lows, .inl (cI, 12, .inl (upd (upd (upd (upd (upd (upd (upd (upd (upd (upd (upd (fun _ => 0) 0 0) 1 0) 2 1) 3 1) 4 1) 5 1) 6 1) 7 0) 8 1) 9 0) 10 0)))]) (by decide) hP hD hS 2 rfl rfl rfl dX6_init_66 (fun H locs hP hD hS => ?_)
  refine x_dup C dX6_init_67 rfl ?_
  refine x_bipush (v := (11 : Int32)) C dX6_init_68 (by decide) ?_
  refine x_iconst (v := (0 : Int32)) C dX6_init_70 (by decide) ?_
  refine x_iastK C (t0 := 0) (ws' := [(mA, .inr (3, [.ref a_page, .int 0, .null, .null, .null, .int 0, .int 0, .int 0, .int 0, .null])), (a_page, .inl (cI, 5130, .inl (fun _ => 0))), (a_lows, .inl (cI, 12, .inl (upd (upd (upd (upd (upd (upd (upd (upd (upd (upd (upd (upd (fun _ => 0) 0 0) 1 0) 2 1) 3 1) 4 1) 5 1) 6 1) 7 0) 8 1) 9 0) 10 0) 11 0)))]) (by decide) hP hD hS 2 rfl rfl rfl dX6_init_71 (fun H locs hP hD hS => ?_)
  replace hP := arr_at_congr (pre := [(mA, .inr (3, [.ref a_page, .int 0, .null, .null, .null, .int 0, .int 0, .int 0, .int 0, .null])), (a_page, .inl (cI, 5130, .inl (fun _ => 0)))]) (post := []) (g := tabI leastL) (fun j hj => by match j, hj with | 0, _ => rfl | 1, _ => rfl | 2, _ => rfl | 3, _ => rfl | 4, _ => rfl | 5, _ => rfl | 6, _ => rfl | 7, _ => rfl | 8, _ => rfl | 9, _ => rfl | 10, _ => rfl | 11, _ => rfl | j + 12, h => exact absurd h (by omega)) hP
  replace hD : va_D A [(mA, .inr (3, [.ref a_page, .int 0, .null, .null, .null, .int 0, .int 0, .int 0, .int 0, .null])), (a_page, .inl (cI, 5130, .inl (fun _ => 0))), (a_lows, .inl (cI, 12, .inl (tabI leastL)))] := by have h0 := va_D_nd.mp hD; exact va_D_nd.mpr ⟨h0.1, fun q hq => by have h1 : q.1 ∈ ([(mA, .inr (3, [.ref a_page, .int 0, .null, .null, .null, .int 0, .int 0, .int 0, .int 0, .null])), (a_page, .inl (cI, 5130, .inl (fun _ => 0))), (a_lows, .inl (cI, 12, .inl (tabI leastL)))] : va_W).map Prod.fst := List.mem_map.mpr ⟨q, hq, rfl⟩; obtain ⟨q2, h2, h3⟩ := List.mem_map.mp (show q.1 ∈ ([(mA, .inr (3, [.ref a_page, .int 0, .null, .null, .null, .int 0, .int 0, .int 0, .int 0, .null])), (a_page, .inl (cI, 5130, .inl (fun _ => 0))), (a_lows, .inl (cI, 12, .inl (upd (upd (upd (upd (upd (upd (upd (upd (upd (upd (upd (upd (fun _ => 0) 0 0) 1 0) 2 1) 3 1) 4 1) 5 1) 6 1) 7 0) 8 1) 9 0) 10 0) 11 0)))] : va_W).map Prod.fst from h1); rw [← h3]; exact h0.2 q2 h2⟩
  refine x_putF C hnm (ws' := [(mA, .inr (3, [.ref a_page, .int 0, .ref a_lows, .null, .null, .int 0, .int 0, .int 0, .int 0, .null])), (a_page, .inl (cI, 5130, .inl (fun _ => 0))), (a_lows, .inl (cI, 12, .inl (tabI leastL)))]) (ft := .array .int) inX6 tyX6 tyX6_ok nmX6 hP hD hS 0 rfl rfl 2 (by decide) wf_X6_13 rfl rfl (by decide +kernel) rfl rfl (Nat.le_of_ble_eq_true rfl) rfl dX6_init_72 (fun H locs hP hD hS => ?_)
  refine x_aload_n C dX6_init_75 rfl hl 0 rfl ?_
  refine x_bipush (v := (12 : Int32)) C dX6_init_76 (by decide) ?_
  refine x_newI (N := 12) C hP hD hS hA (by decide) (by decide) (by decide) (Nat.le_of_ble_eq_true rfl) (Nat.le_of_ble_eq_true rfl) dX6_init_78 (fun a_highs H hP hD hS => ?_)
  refine x_dup C dX6_init_80 rfl ?_
  refine x_iconst (v := (0 : Int32)) C dX6_init_81 (by decide) ?_
  refine x_bipush (v := (50 : Int32)) C dX6_init_82 (by decide) ?_
  refine x_iastK C (t0 := 0) (ws' := [(mA, .inr (3, [.ref a_page, .int 0, .ref a_lows, .null, .null, .int 0, .int 0, .int 0, .int 0, .null])), (a_page, .inl (cI, 5130, .inl (fun _ => 0))), (a_lows, .inl (cI, 12, .inl (tabI leastL))), (a_highs, .inl (cI, 12, .inl (upd (fun _ => 0) 0 50)))]) (by decide) hP hD hS 3 rfl rfl rfl dX6_init_84 (fun H locs hP hD hS => ?_)
  refine x_dup C dX6_init_85 rfl ?_
  refine x_iconst (v := (1 : Int32)) C dX6_init_86 (by decide) ?_
  refine x_bipush (v := (50 : Int32)) C dX6_init_87 (by decide) ?_
  refine x_iastK C (t0 := 0) (ws' := [(mA, .inr (3, [.ref a_page, .int 0, .ref a_lows, .null, .null, .int 0, .int 0, .int 0, .int 0, .null])), (a_page, .inl (cI, 5130, .inl (fun _ => 0))), (a_lows, .inl (cI, 12, .inl (tabI leastL))), (a_highs, .inl (cI, 12, .inl (upd (upd (fun _ => 0) 0 50) 1 50)))]) (by decide) hP hD hS 3 rfl rfl rfl dX6_init_89 (fun H locs hP hD hS => ?_)
  refine x_dup C dX6_init_90 rfl ?_
  refine x_iconst (v := (2 : Int32)) C dX6_init_91 (by decide) ?_
  refine x_bipush (v := (60 : Int32)) C dX6_init_92 (by decide) ?_
  refine x_iastK C (t0 := 0) (ws' := [(mA, .inr (3, [.ref a_page, .int 0, .ref a_lows, .null, .null, .int 0, .int 0, .int 0, .int 0, .null])), (a_page, .inl (cI, 5130, .inl (fun _ => 0))), (a_lows, .inl (cI, 12, .inl (tabI leastL))), (a_highs, .inl (cI, 12, .inl (upd (upd (upd (fun _ => 0) 0 50) 1 50) 2 60)))]) (by decide) hP hD hS 3 rfl rfl rfl dX6_init_94 (fun H locs hP hD hS => ?_)
  refine x_dup C dX6_init_95 rfl ?_
  refine x_iconst (v := (3 : Int32)) C dX6_init_96 (by decide) ?_
  refine x_bipush (v := (6 : Int32)) C dX6_init_97 (by decide) ?_
  refine x_iastK C (t0 := 0) (ws' := [(mA, .inr (3, [.ref a_page, .int 0, .ref a_lows, .null, .null, .int 0, .int 0, .int 0, .int 0, .null])), (a_page, .inl (cI, 5130, .inl (fun _ => 0))), (a_lows, .inl (cI, 12, .inl (tabI leastL))), (a_highs, .inl (cI, 12, .inl (upd (upd (upd (upd (fun _ => 0) 0 50) 1 50) 2 60) 3 6)))]) (by decide) hP hD hS 3 rfl rfl rfl dX6_init_99 (fun H locs hP hD hS => ?_)
  refine x_dup C dX6_init_100 rfl ?_
  refine x_iconst (v := (4 : Int32)) C dX6_init_101 (by decide) ?_
  refine x_bipush (v := (40 : Int32)) C dX6_init_102 (by decide) ?_
  refine x_iastK C (t0 := 0) (ws' := [(mA, .inr (3, [.ref a_page, .int 0, .ref a_lows, .null, .null, .int 0, .int 0, .int 0, .int 0, .null])), (a_page, .inl (cI, 5130, .inl (fun _ => 0))), (a_lows, .inl (cI, 12, .inl (tabI leastL))), (a_highs, .inl (cI, 12, .inl (upd (upd (upd (upd (upd (fun _ => 0) 0 50) 1 50) 2 60) 3 6) 4 40)))]) (by decide) hP hD hS 3 rfl rfl rfl dX6_init_104 (fun H locs hP hD hS => ?_)
  refine x_dup C dX6_init_105 rfl ?_
  refine x_iconst (v := (5 : Int32)) C dX6_init_106 (by decide) ?_
  refine x_bipush (v := (16 : Int32)) C dX6_init_107 (by decide) ?_
  refine x_iastK C (t0 := 0) (ws' := [(mA, .inr (3, [.ref a_page, .int 0, .ref a_lows, .null, .null, .int 0, .int 0, .int 0, .int 0, .null])), (a_page, .inl (cI, 5130, .inl (fun _ => 0))), (a_lows, .inl (cI, 12, .inl (tabI leastL))), (a_highs, .inl (cI, 12, .inl (upd (upd (upd (upd (upd (upd (fun _ => 0) 0 50) 1 50) 2 60) 3 6) 4 40) 5 16)))]) (by decide) hP hD hS 3 rfl rfl rfl dX6_init_109 (fun H locs hP hD hS => ?_)
  refine x_dup C dX6_init_110 rfl ?_
  refine x_bipush (v := (6 : Int32)) C dX6_init_111 (by decide) ?_
  refine x_bipush (v := (64 : Int32)) C dX6_init_113 (by decide) ?_
  refine x_iastK C (t0 := 0) (ws' := [(mA, .inr (3, [.ref a_page, .int 0, .ref a_lows, .null, .null, .int 0, .int 0, .int 0, .int 0, .null])), (a_page, .inl (cI, 5130, .inl (fun _ => 0))), (a_lows, .inl (cI, 12, .inl (tabI leastL))), (a_highs, .inl (cI, 12, .inl (upd (upd (upd (upd (upd (upd (upd (fun _ => 0) 0 50) 1 50) 2 60) 3 6) 4 40) 5 16) 6 64)))]) (by decide) hP hD hS 3 rfl rfl rfl dX6_init_115 (fun H locs hP hD hS => ?_)
  refine x_dup C dX6_init_116 rfl ?_
  refine x_bipush (v := (7 : Int32)) C dX6_init_117 (by decide) ?_
  refine x_iconst (v := (3 : Int32)) C dX6_init_119 (by decide) ?_
  refine x_iastK C (t0 := 0) (ws' := [(mA, .inr (3, [.ref a_page, .int 0, .ref a_lows, .null, .null, .int 0, .int 0, .int 0, .int 0, .null])), (a_page, .inl (cI, 5130, .inl (fun _ => 0))), (a_lows, .inl (cI, 12, .inl (tabI leastL))), (a_highs, .inl (cI, 12, .inl (upd (upd (upd (upd (upd (upd (upd (upd (fun _ => 0) 0 50) 1 50) 2 60) 3 6) 4 40) 5 16) 6 64) 7 3)))]) (by decide) hP hD hS 3 rfl rfl rfl dX6_init_120 (fun H locs hP hD hS => ?_)
  refine x_dup C dX6_init_121 rfl ?_
  refine x_bipush (v := (8 : Int32)) C dX6_init_122 (by decide) ?_
  refine x_bipush (v := (12 : Int32)) C dX6_init_124 (by decide) ?_
  refine x_iastK C (t0 := 0) (ws' := [(mA, .inr (3, [.ref a_page, .int 0, .ref a_lows, .null, .null, .int 0, .int 0, .int 0, .int 0, .null])), (a_page, .inl (cI, 5130, .inl (fun _ => 0))), (a_lows, .inl (cI, 12, .inl (tabI leastL))), (a_highs, .inl (cI, 12, .inl (upd (upd (upd (upd (upd (upd (upd (upd (upd (fun _ => 0) 0 50) 1 50) 2 60) 3 6) 4 40) 5 16) 6 64) 7 3) 8 12)))]) (by decide) hP hD hS 3 rfl rfl rfl dX6_init_126 (fun H locs hP hD hS => ?_)
  refine x_dup C dX6_init_127 rfl ?_
  refine x_bipush (v := (9 : Int32)) C dX6_init_128 (by decide) ?_
  refine x_bipush (v := (12 : Int32)) C dX6_init_130 (by decide) ?_
  refine x_iastK C (t0 := 0) (ws' := [(mA, .inr (3, [.ref a_page, .int 0, .ref a_lows, .null, .null, .int 0, .int 0, .int 0, .int 0, .null])), (a_page, .inl (cI, 5130, .inl (fun _ => 0))), (a_lows, .inl (cI, 12, .inl (tabI leastL))), (a_highs, .inl (cI, 12, .inl (upd (upd (upd (upd (upd (upd (upd (upd (upd (upd (fun _ => 0) 0 50) 1 50) 2 60) 3 6) 4 40) 5 16) 6 64) 7 3) 8 12) 9 12)))]) (by decide) hP hD hS 3 rfl rfl rfl dX6_init_132 (fun H locs hP hD hS => ?_)
  refine x_dup C dX6_init_133 rfl ?_
  refine x_bipush (v := (10 : Int32)) C dX6_init_134 (by decide) ?_
  refine x_bipush (v := (20 : Int32)) C dX6_init_136 (by decide) ?_
  refine x_iastK C (t0 := 0) (ws' := [(mA, .inr (3, [.ref a_page, .int 0, .ref a_lows, .null, .null, .int 0, .int 0, .int 0, .int 0, .null])), (a_page, .inl (cI, 5130, .inl (fun _ => 0))), (a_lows, .inl (cI, 12, .inl (tabI leastL))), (a_highs, .inl (cI, 12, .inl (upd (upd (upd (upd (upd (upd (upd (upd (upd (upd (upd (fun _ => 0) 0 50) 1 50) 2 60) 3 6) 4 40) 5 16) 6 64) 7 3) 8 12) 9 12) 10 20)))]) (by decide) hP hD hS 3 rfl rfl rfl dX6_init_138 (fun H locs hP hD hS => ?_)
  refine x_dup C dX6_init_139 rfl ?_
  refine x_bipush (v := (11 : Int32)) C dX6_init_140 (by decide) ?_
  refine x_bipush (v := (10 : Int32)) C dX6_init_142 (by decide) ?_
  refine x_iastK C (t0 := 0) (ws' := [(mA, .inr (3, [.ref a_page, .int 0, .ref a_lows, .null, .null, .int 0, .int 0, .int 0, .int 0, .null])), (a_page, .inl (cI, 5130, .inl (fun _ => 0))), (a_lows, .inl (cI, 12, .inl (tabI leastL))), (a_highs, .inl (cI, 12, .inl (upd (upd (upd (upd (upd (upd (upd (upd (upd (upd (upd (upd (fun _ => 0) 0 50) 1 50) 2 60) 3 6) 4 40) 5 16) 6 64) 7 3) 8 12) 9 12) 10 20) 11 10)))]) (by decide) hP hD hS 3 rfl rfl rfl dX6_init_144 (fun H locs hP hD hS => ?_)
  replace hP := arr_at_congr (pre := [(mA, .inr (3, [.ref a_page, .int 0, .ref a_lows, .null, .null, .int 0, .int 0, .int 0, .int 0, .null])), (a_page, .inl (cI, 5130, .inl (fun _ => 0))), (a_lows, .inl (cI, 12, .inl (tabI leastL)))]) (post := []) (g := tabI mostL) (fun j hj => by match j, hj with | 0, _ => rfl | 1, _ => rfl | 2, _ => rfl | 3, _ => rfl | 4, _ => rfl | 5, _ => rfl | 6, _ => rfl | 7, _ => rfl | 8, _ => rfl | 9, _ => rfl | 10, _ => rfl | 11, _ => rfl | j + 12, h => exact absurd h (by omega)) hP
  replace hD : va_D A [(mA, .inr (3, [.ref a_page, .int 0, .ref a_lows, .null, .null, .int 0, .int 0, .int 0, .int 0, .null])), (a_page, .inl (cI, 5130, .inl (fun _ => 0))), (a_lows, .inl (cI, 12, .inl (tabI leastL))), (a_highs, .inl (cI, 12, .inl (tabI mostL)))] := by have h0 := va_D_nd.mp hD; exact va_D_nd.mpr ⟨h0.1, fun q hq => by have h1 : q.1 ∈ ([(mA, .inr (3, [.ref a_page, .int 0, .ref a_lows, .null, .null, .int 0, .int 0, .int 0, .int 0, .null])), (a_page, .inl (cI, 5130, .inl (fun _ => 0))), (a_lows, .inl (cI, 12, .inl (tabI leastL))), (a_highs, .inl (cI, 12, .inl (tabI mostL)))] : va_W).map Prod.fst := List.mem_map.mpr ⟨q, hq, rfl⟩; obtain ⟨q2, h2, h3⟩ := List.mem_map.mp (show q.1 ∈ ([(mA, .inr (3, [.ref a_page, .int 0, .ref a_lows, .null, .null, .int 0, .int 0, .int 0, .int 0, .null])), (a_page, .inl (cI, 5130, .inl (fun _ => 0))), (a_lows, .inl (cI, 12, .inl (tabI leastL))), (a_highs, .inl (cI, 12, .inl (upd (upd (upd (upd (upd (upd (upd (upd (upd (upd (upd (upd (fun _ => 0) 0 50) 1 50) 2 60) 3 6) 4 40) 5 16) 6 64) 7 3) 8 12) 9 12) 10 20) 11 10)))] : va_W).map Prod.fst from h1); rw [← h3]; exact h0.2 q2 h2⟩
  refine x_putF C hnm (ws' := [(mA, .inr (3, [.ref a_page, .int 0, .ref a_lows, .ref a_highs, .null, .int 0, .int 0, .int 0, .int 0, .null])), (a_page, .inl (cI, 5130, .inl (fun _ => 0))), (a_lows, .inl (cI, 12, .inl (tabI leastL))), (a_highs, .inl (cI, 12, .inl (tabI mostL)))]) (ft := .array .int) inX6 tyX6 tyX6_ok nmX6 hP hD hS 0 rfl rfl 3 (by decide) wf_X6_16 rfl rfl (by decide +kernel) rfl rfl (Nat.le_of_ble_eq_true rfl) rfl dX6_init_145 (fun H locs hP hD hS => ?_)
  refine x_aload_n C dX6_init_148 rfl hl 0 rfl ?_
  refine x_bipush (v := (12 : Int32)) C dX6_init_149 (by decide) ?_
  refine x_newI (N := 12) C hP hD hS hA (by decide) (by decide) (by decide) (Nat.le_of_ble_eq_true rfl) (Nat.le_of_ble_eq_true rfl) dX6_init_151 (fun a_firsts H hP hD hS => ?_)
  refine x_dup C dX6_init_153 rfl ?_
  refine x_iconst (v := (0 : Int32)) C dX6_init_154 (by decide) ?_
  refine x_iconst (v := (0 : Int32)) C dX6_init_155 (by decide) ?_
  refine x_iastK C (t0 := 0) (ws' := [(mA, .inr (3, [.ref a_page, .int 0, .ref a_lows, .ref a_highs, .null, .int 0, .int 0, .int 0, .int 0, .null])), (a_page, .inl (cI, 5130, .inl (fun _ => 0))), (a_lows, .inl (cI, 12, .inl (tabI leastL))), (a_highs, .inl (cI, 12, .inl (tabI mostL))), (a_firsts, .inl (cI, 12, .inl (upd (fun _ => 0) 0 0)))]) (by decide) hP hD hS 4 rfl rfl rfl dX6_init_156 (fun H locs hP hD hS => ?_)
  refine x_dup C dX6_init_157 rfl ?_
  refine x_iconst (v := (1 : Int32)) C dX6_init_158 (by decide) ?_
  refine x_iconst (v := (0 : Int32)) C dX6_init_159 (by decide) ?_
  refine x_iastK C (t0 := 0) (ws' := [(mA, .inr (3, [.ref a_page, .int 0, .ref a_lows, .ref a_highs, .null, .int 0, .int 0, .int 0, .int 0, .null])), (a_page, .inl (cI, 5130, .inl (fun _ => 0))), (a_lows, .inl (cI, 12, .inl (tabI leastL))), (a_highs, .inl (cI, 12, .inl (tabI mostL))), (a_firsts, .inl (cI, 12, .inl (upd (upd (fun _ => 0) 0 0) 1 0)))]) (by decide) hP hD hS 4 rfl rfl rfl dX6_init_160 (fun H locs hP hD hS => ?_)
  refine x_dup C dX6_init_161 rfl ?_
  refine x_iconst (v := (2 : Int32)) C dX6_init_162 (by decide) ?_
  refine x_bipush (v := (20 : Int32)) C dX6_init_163 (by decide) ?_
  refine x_iastK C (t0 := 0) (ws' := [(mA, .inr (3, [.ref a_page, .int 0, .ref a_lows, .ref a_highs, .null, .int 0, .int 0, .int 0, .int 0, .null])), (a_page, .inl (cI, 5130, .inl (fun _ => 0))), (a_lows, .inl (cI, 12, .inl (tabI leastL))), (a_highs, .inl (cI, 12, .inl (tabI mostL))), (a_firsts, .inl (cI, 12, .inl (upd (upd (upd (fun _ => 0) 0 0) 1 0) 2 20)))]) (by decide) hP hD hS 4 rfl rfl rfl dX6_init_165 (fun H locs hP hD hS => ?_)
  refine x_dup C dX6_init_166 rfl ?_
  refine x_iconst (v := (3 : Int32)) C dX6_init_167 (by decide) ?_
  refine x_iconst (v := (3 : Int32)) C dX6_init_168 (by decide) ?_
  refine x_iastK C (t0 := 0) (ws' := [(mA, .inr (3, [.ref a_page, .int 0, .ref a_lows, .ref a_highs, .null, .int 0, .int 0, .int 0, .int 0, .null])), (a_page, .inl (cI, 5130, .inl (fun _ => 0))), (a_lows, .inl (cI, 12, .inl (tabI leastL))), (a_highs, .inl (cI, 12, .inl (tabI mostL))), (a_firsts, .inl (cI, 12, .inl (upd (upd (upd (upd (fun _ => 0) 0 0) 1 0) 2 20) 3 3)))]) (by decide) hP hD hS 4 rfl rfl rfl dX6_init_169 (fun H locs hP hD hS => ?_)
  refine x_dup C dX6_init_170 rfl ?_
  refine x_iconst (v := (4 : Int32)) C dX6_init_171 (by decide) ?_
  refine x_bipush (v := (10 : Int32)) C dX6_init_172 (by decide) ?_
  refine x_iastK C (t0 := 0) (ws' := [(mA, .inr (3, [.ref a_page, .int 0, .ref a_lows, .ref a_highs, .null, .int 0, .int 0, .int 0, .int 0, .null])), (a_page, .inl (cI, 5130, .inl (fun _ => 0))), (a_lows, .inl (cI, 12, .inl (tabI leastL))), (a_highs, .inl (cI, 12, .inl (tabI mostL))), (a_firsts, .inl (cI, 12, .inl (upd (upd (upd (upd (upd (fun _ => 0) 0 0) 1 0) 2 20) 3 3) 4 10)))]) (by decide) hP hD hS 4 rfl rfl rfl dX6_init_174 (fun H locs hP hD hS => ?_)
  refine x_dup C dX6_init_175 rfl ?_
  refine x_iconst (v := (5 : Int32)) C dX6_init_176 (by decide) ?_
  refine x_iconst (v := (2 : Int32)) C dX6_init_177 (by decide) ?_
  refine x_iastK C (t0 := 0) (ws' := [(mA, .inr (3, [.ref a_page, .int 0, .ref a_lows, .ref a_highs, .null, .int 0, .int 0, .int 0, .int 0, .null])), (a_page, .inl (cI, 5130, .inl (fun _ => 0))), (a_lows, .inl (cI, 12, .inl (tabI leastL))), (a_highs, .inl (cI, 12, .inl (tabI mostL))), (a_firsts, .inl (cI, 12, .inl (upd (upd (upd (upd (upd (upd (fun _ => 0) 0 0) 1 0) 2 20) 3 3) 4 10) 5 2)))]) (by decide) hP hD hS 4 rfl rfl rfl dX6_init_178 (fun H locs hP hD hS => ?_)
  refine x_dup C dX6_init_179 rfl ?_
  refine x_bipush (v := (6 : Int32)) C dX6_init_180 (by decide) ?_
  refine x_bipush (v := (16 : Int32)) C dX6_init_182 (by decide) ?_
  refine x_iastK C (t0 := 0) (ws' := [(mA, .inr (3, [.ref a_page, .int 0, .ref a_lows, .ref a_highs, .null, .int 0, .int 0, .int 0, .int 0, .null])), (a_page, .inl (cI, 5130, .inl (fun _ => 0))), (a_lows, .inl (cI, 12, .inl (tabI leastL))), (a_highs, .inl (cI, 12, .inl (tabI mostL))), (a_firsts, .inl (cI, 12, .inl (upd (upd (upd (upd (upd (upd (upd (fun _ => 0) 0 0) 1 0) 2 20) 3 3) 4 10) 5 2) 6 16)))]) (by decide) hP hD hS 4 rfl rfl rfl dX6_init_184 (fun H locs hP hD hS => ?_)
  refine x_dup C dX6_init_185 rfl ?_
  refine x_bipush (v := (7 : Int32)) C dX6_init_186 (by decide) ?_
  refine x_iconst (v := (0 : Int32)) C dX6_init_188 (by decide) ?_
  refine x_iastK C (t0 := 0) (ws' := [(mA, .inr (3, [.ref a_page, .int 0, .ref a_lows, .ref a_highs, .null, .int 0, .int 0, .int 0, .int 0, .null])), (a_page, .inl (cI, 5130, .inl (fun _ => 0))), (a_lows, .inl (cI, 12, .inl (tabI leastL))), (a_highs, .inl (cI, 12, .inl (tabI mostL))), (a_firsts, .inl (cI, 12, .inl (upd (upd (upd (upd (upd (upd (upd (upd (fun _ => 0) 0 0) 1 0) 2 20) 3 3) 4 10) 5 2) 6 16) 7 0)))]) (by decide) hP hD hS 4 rfl rfl rfl dX6_init_189 (fun H locs hP hD hS => ?_)
  refine x_dup C dX6_init_190 rfl ?_
  refine x_bipush (v := (8 : Int32)) C dX6_init_191 (by decide) ?_
  refine x_iconst (v := (2 : Int32)) C dX6_init_193 (by decide) ?_
  refine x_iastK C (t0 := 0) (ws' := [(mA, .inr (3, [.ref a_page, .int 0, .ref a_lows, .ref a_highs, .null, .int 0, .int 0, .int 0, .int 0, .null])), (a_page, .inl (cI, 5130, .inl (fun _ => 0))), (a_lows, .inl (cI, 12, .inl (tabI leastL))), (a_highs, .inl (cI, 12, .inl (tabI mostL))), (a_firsts, .inl (cI, 12, .inl (upd (upd (upd (upd (upd (upd (upd (upd (upd (fun _ => 0) 0 0) 1 0) 2 20) 3 3) 4 10) 5 2) 6 16) 7 0) 8 2)))]) (by decide) hP hD hS 4 rfl rfl rfl dX6_init_194 (fun H locs hP hD hS => ?_)
  refine x_dup C dX6_init_195 rfl ?_
  refine x_bipush (v := (9 : Int32)) C dX6_init_196 (by decide) ?_
  refine x_iconst (v := (0 : Int32)) C dX6_init_198 (by decide) ?_
  refine x_iastK C (t0 := 0) (ws' := [(mA, .inr (3, [.ref a_page, .int 0, .ref a_lows, .ref a_highs, .null, .int 0, .int 0, .int 0, .int 0, .null])), (a_page, .inl (cI, 5130, .inl (fun _ => 0))), (a_lows, .inl (cI, 12, .inl (tabI leastL))), (a_highs, .inl (cI, 12, .inl (tabI mostL))), (a_firsts, .inl (cI, 12, .inl (upd (upd (upd (upd (upd (upd (upd (upd (upd (upd (fun _ => 0) 0 0) 1 0) 2 20) 3 3) 4 10) 5 2) 6 16) 7 0) 8 2) 9 0)))]) (by decide) hP hD hS 4 rfl rfl rfl dX6_init_199 (fun H locs hP hD hS => ?_)
  refine x_dup C dX6_init_200 rfl ?_
  refine x_bipush (v := (10 : Int32)) C dX6_init_201 (by decide) ?_
  refine x_bipush (v := (20 : Int32)) C dX6_init_203 (by decide) ?_
  refine x_iastK C (t0 := 0) (ws' := [(mA, .inr (3, [.ref a_page, .int 0, .ref a_lows, .ref a_highs, .null, .int 0, .int 0, .int 0, .int 0, .null])), (a_page, .inl (cI, 5130, .inl (fun _ => 0))), (a_lows, .inl (cI, 12, .inl (tabI leastL))), (a_highs, .inl (cI, 12, .inl (tabI mostL))), (a_firsts, .inl (cI, 12, .inl (upd (upd (upd (upd (upd (upd (upd (upd (upd (upd (upd (fun _ => 0) 0 0) 1 0) 2 20) 3 3) 4 10) 5 2) 6 16) 7 0) 8 2) 9 0) 10 20)))]) (by decide) hP hD hS 4 rfl rfl rfl dX6_init_205 (fun H locs hP hD hS => ?_)
  refine x_dup C dX6_init_206 rfl ?_
  refine x_bipush (v := (11 : Int32)) C dX6_init_207 (by decide) ?_
  refine x_bipush (v := (10 : Int32)) C dX6_init_209 (by decide) ?_
  refine x_iastK C (t0 := 0) (ws' := [(mA, .inr (3, [.ref a_page, .int 0, .ref a_lows, .ref a_highs, .null, .int 0, .int 0, .int 0, .int 0, .null])), (a_page, .inl (cI, 5130, .inl (fun _ => 0))), (a_lows, .inl (cI, 12, .inl (tabI leastL))), (a_highs, .inl (cI, 12, .inl (tabI mostL))), (a_firsts, .inl (cI, 12, .inl (upd (upd (upd (upd (upd (upd (upd (upd (upd (upd (upd (upd (fun _ => 0) 0 0) 1 0) 2 20) 3 3) 4 10) 5 2) 6 16) 7 0) 8 2) 9 0) 10 20) 11 10)))]) (by decide) hP hD hS 4 rfl rfl rfl dX6_init_211 (fun H locs hP hD hS => ?_)
  replace hP := arr_at_congr (pre := [(mA, .inr (3, [.ref a_page, .int 0, .ref a_lows, .ref a_highs, .null, .int 0, .int 0, .int 0, .int 0, .null])), (a_page, .inl (cI, 5130, .inl (fun _ => 0))), (a_lows, .inl (cI, 12, .inl (tabI leastL))), (a_highs, .inl (cI, 12, .inl (tabI mostL)))]) (post := []) (g := tabI firstL) (fun j hj => by match j, hj with | 0, _ => rfl | 1, _ => rfl | 2, _ => rfl | 3, _ => rfl | 4, _ => rfl | 5, _ => rfl | 6, _ => rfl | 7, _ => rfl | 8, _ => rfl | 9, _ => rfl | 10, _ => rfl | 11, _ => rfl | j + 12, h => exact absurd h (by omega)) hP
  replace hD : va_D A [(mA, .inr (3, [.ref a_page, .int 0, .ref a_lows, .ref a_highs, .null, .int 0, .int 0, .int 0, .int 0, .null])), (a_page, .inl (cI, 5130, .inl (fun _ => 0))), (a_lows, .inl (cI, 12, .inl (tabI leastL))), (a_highs, .inl (cI, 12, .inl (tabI mostL))), (a_firsts, .inl (cI, 12, .inl (tabI firstL)))] := by have h0 := va_D_nd.mp hD; exact va_D_nd.mpr ⟨h0.1, fun q hq => by have h1 : q.1 ∈ ([(mA, .inr (3, [.ref a_page, .int 0, .ref a_lows, .ref a_highs, .null, .int 0, .int 0, .int 0, .int 0, .null])), (a_page, .inl (cI, 5130, .inl (fun _ => 0))), (a_lows, .inl (cI, 12, .inl (tabI leastL))), (a_highs, .inl (cI, 12, .inl (tabI mostL))), (a_firsts, .inl (cI, 12, .inl (tabI firstL)))] : va_W).map Prod.fst := List.mem_map.mpr ⟨q, hq, rfl⟩; obtain ⟨q2, h2, h3⟩ := List.mem_map.mp (show q.1 ∈ ([(mA, .inr (3, [.ref a_page, .int 0, .ref a_lows, .ref a_highs, .null, .int 0, .int 0, .int 0, .int 0, .null])), (a_page, .inl (cI, 5130, .inl (fun _ => 0))), (a_lows, .inl (cI, 12, .inl (tabI leastL))), (a_highs, .inl (cI, 12, .inl (tabI mostL))), (a_firsts, .inl (cI, 12, .inl (upd (upd (upd (upd (upd (upd (upd (upd (upd (upd (upd (upd (fun _ => 0) 0 0) 1 0) 2 20) 3 3) 4 10) 5 2) 6 16) 7 0) 8 2) 9 0) 10 20) 11 10)))] : va_W).map Prod.fst from h1); rw [← h3]; exact h0.2 q2 h2⟩
  refine x_putF C hnm (ws' := [(mA, .inr (3, [.ref a_page, .int 0, .ref a_lows, .ref a_highs, .ref a_firsts, .int 0, .int 0, .int 0, .int 0, .null])), (a_page, .inl (cI, 5130, .inl (fun _ => 0))), (a_lows, .inl (cI, 12, .inl (tabI leastL))), (a_highs, .inl (cI, 12, .inl (tabI mostL))), (a_firsts, .inl (cI, 12, .inl (tabI firstL)))]) (ft := .array .int) inX6 tyX6 tyX6_ok nmX6 hP hD hS 0 rfl rfl 4 (by decide) wf_X6_19 rfl rfl (by decide +kernel) rfl rfl (Nat.le_of_ble_eq_true rfl) rfl dX6_init_212 (fun H locs hP hD hS => ?_)
  refine x_aload_n C dX6_init_215 rfl hl 0 rfl ?_
  refine x_bipush (v := (16 : Int32)) C dX6_init_216 (by decide) ?_
  refine x_newI (N := 16) C hP hD hS hA (by decide) (by decide) (by decide) (Nat.le_of_ble_eq_true rfl) (Nat.le_of_ble_eq_true rfl) dX6_init_218 (fun a_some H hP hD hS => ?_)
  refine x_putF C hnm (ws' := [(mA, .inr (3, [.ref a_page, .int 0, .ref a_lows, .ref a_highs, .ref a_firsts, .int 0, .int 0, .int 0, .int 0, .ref a_some])), (a_page, .inl (cI, 5130, .inl (fun _ => 0))), (a_lows, .inl (cI, 12, .inl (tabI leastL))), (a_highs, .inl (cI, 12, .inl (tabI mostL))), (a_firsts, .inl (cI, 12, .inl (tabI firstL))), (a_some, .inl (cI, 16, .inl (fun _ => 0)))]) (ft := .array .int) inX6 tyX6 tyX6_ok nmX6 hP hD hS 0 rfl rfl 9 (by decide) wf_X6_22 rfl rfl (by decide +kernel) rfl rfl (Nat.le_of_ble_eq_true rfl) rfl dX6_init_220 (fun H locs hP hD hS => ?_)
  refine W.widen (k := 5) (n := 5182) (Nat.le_of_ble_eq_true rfl) (Nat.le_of_ble_eq_true rfl) ?_
  exact kX6_init_tail C hA hz hN (fun k => if k = 0 then mA else [0, a_page, a_lows, a_highs, a_firsts, a_some].getD k 0) bornM initM_eq (fun hd hP hD hS => RET (fun k => [0, a_page, a_lows, a_highs, a_firsts, a_some].getD k 0) hd hP hD hS) _ _ _ hP hD hS hl
