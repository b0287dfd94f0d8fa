theorem dX4_init_0 : decode cX4_init 0 = .ok (.aload_n 0, 1) := by decide +kernel
theorem dX4_init_1 : decode cX4_init 1 = .ok (.invokespecial 1, 3) := by decide +kernel
theorem dX4_init_4 : decode cX4_init 4 = .ok (.aload_n 0, 1) := by decide +kernel
theorem dX4_init_5 : decode cX4_init 5 = .ok (.bipush 90, 2) := by decide +kernel
theorem dX4_init_7 : decode cX4_init 7 = .ok (.newarray .int, 2) := by decide +kernel
theorem dX4_init_9 : decode cX4_init 9 = .ok (.putfield 9, 3) := by decide +kernel
theorem dX4_init_12 : decode cX4_init 12 = .ok (.aload_n 0, 1) := by decide +kernel
theorem dX4_init_13 : decode cX4_init 13 = .ok (.bipush 90, 2) := by decide +kernel
theorem dX4_init_15 : decode cX4_init 15 = .ok (.newarray .int, 2) := by decide +kernel
theorem dX4_init_17 : decode cX4_init 17 = .ok (.putfield 13, 3) := by decide +kernel
theorem dX4_init_20 : decode cX4_init 20 = .ok (.aload_n 0, 1) := by decide +kernel
theorem dX4_init_21 : decode cX4_init 21 = .ok (.bipush 90, 2) := by decide +kernel
theorem dX4_init_23 : decode cX4_init 23 = .ok (.newarray .int, 2) := by decide +kernel
theorem dX4_init_25 : decode cX4_init 25 = .ok (.putfield 16, 3) := by decide +kernel
theorem dX4_init_28 : decode cX4_init 28 = .ok (.aload_n 0, 1) := by decide +kernel
theorem dX4_init_29 : decode cX4_init 29 = .ok (.bipush 7, 2) := by decide +kernel
theorem dX4_init_31 : decode cX4_init 31 = .ok (.newarray .int, 2) := by decide +kernel
theorem dX4_init_33 : decode cX4_init 33 = .ok (.putfield 19, 3) := by decide +kernel
theorem dX4_init_36 : decode cX4_init 36 = .ok (.aload_n 0, 1) := by decide +kernel
theorem dX4_init_37 : decode cX4_init 37 = .ok (.bipush 10, 2) := by decide +kernel
theorem dX4_init_39 : decode cX4_init 39 = .ok (.newarray .int, 2) := by decide +kernel
theorem dX4_init_41 : decode cX4_init 41 = .ok (.putfield 22, 3) := by decide +kernel
theorem dX4_init_44 : decode cX4_init 44 = .ok (.aload_n 0, 1) := by decide +kernel
theorem dX4_init_45 : decode cX4_init 45 = .ok (.bipush 8, 2) := by decide +kernel
theorem dX4_init_47 : decode cX4_init 47 = .ok (.newarray .int, 2) := by decide +kernel
theorem dX4_init_49 : decode cX4_init 49 = .ok (.putfield 25, 3) := by decide +kernel
theorem dX4_init_52 : decode cX4_init 52 = .ok (.aload_n 0, 1) := by decide +kernel
theorem dX4_init_53 : decode cX4_init 53 = .ok (.bipush 120, 2) := by decide +kernel
theorem dX4_init_55 : decode cX4_init 55 = .ok (.newarray .int, 2) := by decide +kernel
theorem dX4_init_57 : decode cX4_init 57 = .ok (.putfield 28, 3) := by decide +kernel
theorem dX4_init_60 : decode cX4_init 60 = .ok (.aload_n 0, 1) := by decide +kernel
theorem dX4_init_61 : decode cX4_init 61 = .ok (.bipush 56, 2) := by decide +kernel
theorem dX4_init_63 : decode cX4_init 63 = .ok (.newarray .char, 2) := by decide +kernel
theorem dX4_init_65 : decode cX4_init 65 = .ok (.dup, 1) := by decide +kernel
theorem dX4_init_66 : decode cX4_init 66 = .ok (.iconst 0, 1) := by decide +kernel
theorem dX4_init_67 : decode cX4_init 67 = .ok (.bipush 112, 2) := by decide +kernel
theorem dX4_init_69 : decode cX4_init 69 = .ok (.castore, 1) := by decide +kernel
theorem dX4_init_70 : decode cX4_init 70 = .ok (.dup, 1) := by decide +kernel
theorem dX4_init_71 : decode cX4_init 71 = .ok (.iconst 1, 1) := by decide +kernel
theorem dX4_init_72 : decode cX4_init 72 = .ok (.bipush 101, 2) := by decide +kernel
theorem dX4_init_74 : decode cX4_init 74 = .ok (.castore, 1) := by decide +kernel
theorem dX4_init_75 : decode cX4_init 75 = .ok (.dup, 1) := by decide +kernel
theorem dX4_init_76 : decode cX4_init 76 = .ok (.iconst 2, 1) := by decide +kernel
theorem dX4_init_77 : decode cX4_init 77 = .ok (.bipush 114, 2) := by decide +kernel
theorem dX4_init_79 : decode cX4_init 79 = .ok (.castore, 1) := by decide +kernel
theorem dX4_init_80 : decode cX4_init 80 = .ok (.dup, 1) := by decide +kernel
theorem dX4_init_81 : decode cX4_init 81 = .ok (.iconst 3, 1) := by decide +kernel
theorem dX4_init_82 : decode cX4_init 82 = .ok (.bipush 115, 2) := by decide +kernel
theorem dX4_init_84 : decode cX4_init 84 = .ok (.castore, 1) := by decide +kernel
theorem dX4_init_85 : decode cX4_init 85 = .ok (.dup, 1) := by decide +kernel
theorem dX4_init_86 : decode cX4_init 86 = .ok (.iconst 4, 1) := by decide +kernel
theorem dX4_init_87 : decode cX4_init 87 = .ok (.bipush 111, 2) := by decide +kernel
theorem dX4_init_89 : decode cX4_init 89 = .ok (.castore, 1) := by decide +kernel
theorem dX4_init_90 : decode cX4_init 90 = .ok (.dup, 1) := by decide +kernel
theorem dX4_init_91 : decode cX4_init 91 = .ok (.iconst 5, 1) := by decide +kernel
theorem dX4_init_92 : decode cX4_init 92 = .ok (.bipush 110, 2) := by decide +kernel
theorem dX4_init_94 : decode cX4_init 94 = .ok (.castore, 1) := by decide +kernel
theorem dX4_init_95 : decode cX4_init 95 = .ok (.dup, 1) := by decide +kernel
theorem dX4_init_96 : decode cX4_init 96 = .ok (.bipush 6, 2) := by decide +kernel
theorem dX4_init_98 : decode cX4_init 98 = .ok (.bipush 32, 2) := by decide +kernel
theorem dX4_init_100 : decode cX4_init 100 = .ok (.castore, 1) := by decide +kernel
theorem dX4_init_101 : decode cX4_init 101 = .ok (.dup, 1) := by decide +kernel
theorem dX4_init_102 : decode cX4_init 102 = .ok (.bipush 7, 2) := by decide +kernel
theorem dX4_init_104 : decode cX4_init 104 = .ok (.bipush 32, 2) := by decide +kernel
theorem dX4_init_106 : decode cX4_init 106 = .ok (.castore, 1) := by decide +kernel
theorem dX4_init_107 : decode cX4_init 107 = .ok (.dup, 1) := by decide +kernel
theorem dX4_init_108 : decode cX4_init 108 = .ok (.bipush 8, 2) := by decide +kernel
theorem dX4_init_110 : decode cX4_init 110 = .ok (.bipush 99, 2) := by decide +kernel
theorem dX4_init_112 : decode cX4_init 112 = .ok (.castore, 1) := by decide +kernel
theorem dX4_init_113 : decode cX4_init 113 = .ok (.dup, 1) := by decide +kernel
theorem dX4_init_114 : decode cX4_init 114 = .ok (.bipush 9, 2) := by decide +kernel
theorem dX4_init_116 : decode cX4_init 116 = .ok (.bipush 111, 2) := by decide +kernel
theorem dX4_init_118 : decode cX4_init 118 = .ok (.castore, 1) := by decide +kernel
theorem dX4_init_119 : decode cX4_init 119 = .ok (.dup, 1) := by decide +kernel
theorem dX4_init_120 : decode cX4_init 120 = .ok (.bipush 10, 2) := by decide +kernel
theorem dX4_init_122 : decode cX4_init 122 = .ok (.bipush 116, 2) := by decide +kernel
theorem dX4_init_124 : decode cX4_init 124 = .ok (.castore, 1) := by decide +kernel
theorem dX4_init_125 : decode cX4_init 125 = .ok (.dup, 1) := by decide +kernel
theorem dX4_init_126 : decode cX4_init 126 = .ok (.bipush 11, 2) := by decide +kernel
theorem dX4_init_128 : decode cX4_init 128 = .ok (.bipush 116, 2) := by decide +kernel
theorem dX4_init_130 : decode cX4_init 130 = .ok (.castore, 1) := by decide +kernel
theorem dX4_init_131 : decode cX4_init 131 = .ok (.dup, 1) := by decide +kernel
theorem dX4_init_132 : decode cX4_init 132 = .ok (.bipush 12, 2) := by decide +kernel
theorem dX4_init_134 : decode cX4_init 134 = .ok (.bipush 97, 2) := by decide +kernel
theorem dX4_init_136 : decode cX4_init 136 = .ok (.castore, 1) := by decide +kernel
theorem dX4_init_137 : decode cX4_init 137 = .ok (.dup, 1) := by decide +kernel
theorem dX4_init_138 : decode cX4_init 138 = .ok (.bipush 13, 2) := by decide +kernel
theorem dX4_init_140 : decode cX4_init 140 = .ok (.bipush 103, 2) := by decide +kernel
theorem dX4_init_142 : decode cX4_init 142 = .ok (.castore, 1) := by decide +kernel
theorem dX4_init_143 : decode cX4_init 143 = .ok (.dup, 1) := by decide +kernel
theorem dX4_init_144 : decode cX4_init 144 = .ok (.bipush 14, 2) := by decide +kernel
theorem dX4_init_146 : decode cX4_init 146 = .ok (.bipush 101, 2) := by decide +kernel
theorem dX4_init_148 : decode cX4_init 148 = .ok (.castore, 1) := by decide +kernel
theorem dX4_init_149 : decode cX4_init 149 = .ok (.dup, 1) := by decide +kernel
theorem dX4_init_150 : decode cX4_init 150 = .ok (.bipush 15, 2) := by decide +kernel
theorem dX4_init_152 : decode cX4_init 152 = .ok (.bipush 114, 2) := by decide +kernel
theorem dX4_init_154 : decode cX4_init 154 = .ok (.castore, 1) := by decide +kernel
theorem dX4_init_155 : decode cX4_init 155 = .ok (.dup, 1) := by decide +kernel
theorem dX4_init_156 : decode cX4_init 156 = .ok (.bipush 16, 2) := by decide +kernel
theorem dX4_init_158 : decode cX4_init 158 = .ok (.bipush 115, 2) := by decide +kernel
theorem dX4_init_160 : decode cX4_init 160 = .ok (.castore, 1) := by decide +kernel
theorem dX4_init_161 : decode cX4_init 161 = .ok (.dup, 1) := by decide +kernel
theorem dX4_init_162 : decode cX4_init 162 = .ok (.bipush 17, 2) := by decide +kernel
theorem dX4_init_164 : decode cX4_init 164 = .ok (.bipush 117, 2) := by decide +kernel
theorem dX4_init_166 : decode cX4_init 166 = .ok (.castore, 1) := by decide +kernel
theorem dX4_init_167 : decode cX4_init 167 = .ok (.dup, 1) := by decide +kernel
theorem dX4_init_168 : decode cX4_init 168 = .ok (.bipush 18, 2) := by decide +kernel
theorem dX4_init_170 : decode cX4_init 170 = .ok (.bipush 114, 2) := by decide +kernel
theorem dX4_init_172 : decode cX4_init 172 = .ok (.castore, 1) := by decide +kernel
theorem dX4_init_173 : decode cX4_init 173 = .ok (.dup, 1) := by decide +kernel
theorem dX4_init_174 : decode cX4_init 174 = .ok (.bipush 19, 2) := by decide +kernel
theorem dX4_init_176 : decode cX4_init 176 = .ok (.bipush 118, 2) := by decide +kernel
theorem dX4_init_178 : decode cX4_init 178 = .ok (.castore, 1) := by decide +kernel
theorem dX4_init_179 : decode cX4_init 179 = .ok (.dup, 1) := by decide +kernel
theorem dX4_init_180 : decode cX4_init 180 = .ok (.bipush 20, 2) := by decide +kernel
theorem dX4_init_182 : decode cX4_init 182 = .ok (.bipush 101, 2) := by decide +kernel
theorem dX4_init_184 : decode cX4_init 184 = .ok (.castore, 1) := by decide +kernel
theorem dX4_init_185 : decode cX4_init 185 = .ok (.dup, 1) := by decide +kernel
theorem dX4_init_186 : decode cX4_init 186 = .ok (.bipush 21, 2) := by decide +kernel
theorem dX4_init_188 : decode cX4_init 188 = .ok (.bipush 121, 2) := by decide +kernel
theorem dX4_init_190 : decode cX4_init 190 = .ok (.castore, 1) := by decide +kernel
theorem dX4_init_191 : decode cX4_init 191 = .ok (.dup, 1) := by decide +kernel
theorem dX4_init_192 : decode cX4_init 192 = .ok (.bipush 22, 2) := by decide +kernel
theorem dX4_init_194 : decode cX4_init 194 = .ok (.bipush 111, 2) := by decide +kernel
theorem dX4_init_196 : decode cX4_init 196 = .ok (.castore, 1) := by decide +kernel
theorem dX4_init_197 : decode cX4_init 197 = .ok (.dup, 1) := by decide +kernel
theorem dX4_init_198 : decode cX4_init 198 = .ok (.bipush 23, 2) := by decide +kernel
theorem dX4_init_200 : decode cX4_init 200 = .ok (.bipush 114, 2) := by decide +kernel
theorem dX4_init_202 : decode cX4_init 202 = .ok (.castore, 1) := by decide +kernel
theorem dX4_init_203 : decode cX4_init 203 = .ok (.dup, 1) := by decide +kernel
theorem dX4_init_204 : decode cX4_init 204 = .ok (.bipush 24, 2) := by decide +kernel
theorem dX4_init_206 : decode cX4_init 206 = .ok (.bipush 109, 2) := by decide +kernel
theorem dX4_init_208 : decode cX4_init 208 = .ok (.castore, 1) := by decide +kernel
theorem dX4_init_209 : decode cX4_init 209 = .ok (.dup, 1) := by decide +kernel
theorem dX4_init_210 : decode cX4_init 210 = .ok (.bipush 25, 2) := by decide +kernel
theorem dX4_init_212 : decode cX4_init 212 = .ok (.bipush 97, 2) := by decide +kernel
theorem dX4_init_214 : decode cX4_init 214 = .ok (.castore, 1) := by decide +kernel
theorem dX4_init_215 : decode cX4_init 215 = .ok (.dup, 1) := by decide +kernel
theorem dX4_init_216 : decode cX4_init 216 = .ok (.bipush 26, 2) := by decide +kernel
theorem dX4_init_218 : decode cX4_init 218 = .ok (.bipush 121, 2) := by decide +kernel
theorem dX4_init_220 : decode cX4_init 220 = .ok (.castore, 1) := by decide +kernel
theorem dX4_init_221 : decode cX4_init 221 = .ok (.dup, 1) := by decide +kernel
theorem dX4_init_222 : decode cX4_init 222 = .ok (.bipush 27, 2) := by decide +kernel
theorem dX4_init_224 : decode cX4_init 224 = .ok (.bipush 111, 2) := by decide +kernel
theorem dX4_init_226 : decode cX4_init 226 = .ok (.castore, 1) := by decide +kernel
theorem dX4_init_227 : decode cX4_init 227 = .ok (.dup, 1) := by decide +kernel
theorem dX4_init_228 : decode cX4_init 228 = .ok (.bipush 28, 2) := by decide +kernel
theorem dX4_init_230 : decode cX4_init 230 = .ok (.bipush 114, 2) := by decide +kernel
theorem dX4_init_232 : decode cX4_init 232 = .ok (.castore, 1) := by decide +kernel
theorem dX4_init_233 : decode cX4_init 233 = .ok (.dup, 1) := by decide +kernel
theorem dX4_init_234 : decode cX4_init 234 = .ok (.bipush 29, 2) := by decide +kernel
theorem dX4_init_236 : decode cX4_init 236 = .ok (.bipush 32, 2) := by decide +kernel
theorem dX4_init_238 : decode cX4_init 238 = .ok (.castore, 1) := by decide +kernel
theorem dX4_init_239 : decode cX4_init 239 = .ok (.dup, 1) := by decide +kernel
theorem dX4_init_240 : decode cX4_init 240 = .ok (.bipush 30, 2) := by decide +kernel
theorem dX4_init_242 : decode cX4_init 242 = .ok (.bipush 32, 2) := by decide +kernel
theorem dX4_init_244 : decode cX4_init 244 = .ok (.castore, 1) := by decide +kernel
theorem dX4_init_245 : decode cX4_init 245 = .ok (.dup, 1) := by decide +kernel
theorem dX4_init_246 : decode cX4_init 246 = .ok (.bipush 31, 2) := by decide +kernel
theorem dX4_init_248 : decode cX4_init 248 = .ok (.bipush 32, 2) := by decide +kernel
theorem dX4_init_250 : decode cX4_init 250 = .ok (.castore, 1) := by decide +kernel
theorem dX4_init_251 : decode cX4_init 251 = .ok (.dup, 1) := by decide +kernel
theorem dX4_init_252 : decode cX4_init 252 = .ok (.bipush 32, 2) := by decide +kernel
theorem dX4_init_254 : decode cX4_init 254 = .ok (.bipush 109, 2) := by decide +kernel
theorem dX4_init_256 : decode cX4_init 256 = .ok (.castore, 1) := by decide +kernel
theorem dX4_init_257 : decode cX4_init 257 = .ok (.dup, 1) := by decide +kernel
theorem dX4_init_258 : decode cX4_init 258 = .ok (.bipush 33, 2) := by decide +kernel
theorem dX4_init_260 : decode cX4_init 260 = .ok (.bipush 101, 2) := by decide +kernel
theorem dX4_init_262 : decode cX4_init 262 = .ok (.castore, 1) := by decide +kernel
theorem dX4_init_263 : decode cX4_init 263 = .ok (.dup, 1) := by decide +kernel
theorem dX4_init_264 : decode cX4_init 264 = .ok (.bipush 34, 2) := by decide +kernel
theorem dX4_init_266 : decode cX4_init 266 = .ok (.bipush 109, 2) := by decide +kernel
theorem dX4_init_268 : decode cX4_init 268 = .ok (.castore, 1) := by decide +kernel
theorem dX4_init_269 : decode cX4_init 269 = .ok (.dup, 1) := by decide +kernel
theorem dX4_init_270 : decode cX4_init 270 = .ok (.bipush 35, 2) := by decide +kernel
theorem dX4_init_272 : decode cX4_init 272 = .ok (.bipush 98, 2) := by decide +kernel
theorem dX4_init_274 : decode cX4_init 274 = .ok (.castore, 1) := by decide +kernel
theorem dX4_init_275 : decode cX4_init 275 = .ok (.dup, 1) := by decide +kernel
theorem dX4_init_276 : decode cX4_init 276 = .ok (.bipush 36, 2) := by decide +kernel
theorem dX4_init_278 : decode cX4_init 278 = .ok (.bipush 101, 2) := by decide +kernel
theorem dX4_init_280 : decode cX4_init 280 = .ok (.castore, 1) := by decide +kernel
theorem dX4_init_281 : decode cX4_init 281 = .ok (.dup, 1) := by decide +kernel
theorem dX4_init_282 : decode cX4_init 282 = .ok (.bipush 37, 2) := by decide +kernel
theorem dX4_init_284 : decode cX4_init 284 = .ok (.bipush 114, 2) := by decide +kernel
theorem dX4_init_286 : decode cX4_init 286 = .ok (.castore, 1) := by decide +kernel
theorem dX4_init_287 : decode cX4_init 287 = .ok (.dup, 1) := by decide +kernel
theorem dX4_init_288 : decode cX4_init 288 = .ok (.bipush 38, 2) := by decide +kernel
theorem dX4_init_290 : decode cX4_init 290 = .ok (.bipush 32, 2) := by decide +kernel
theorem dX4_init_292 : decode cX4_init 292 = .ok (.castore, 1) := by decide +kernel
theorem dX4_init_293 : decode cX4_init 293 = .ok (.dup, 1) := by decide +kernel
theorem dX4_init_294 : decode cX4_init 294 = .ok (.bipush 39, 2) := by decide +kernel
theorem dX4_init_296 : decode cX4_init 296 = .ok (.bipush 32, 2) := by decide +kernel
theorem dX4_init_298 : decode cX4_init 298 = .ok (.castore, 1) := by decide +kernel
theorem dX4_init_299 : decode cX4_init 299 = .ok (.dup, 1) := by decide +kernel
theorem dX4_init_300 : decode cX4_init 300 = .ok (.bipush 40, 2) := by decide +kernel
theorem dX4_init_302 : decode cX4_init 302 = .ok (.bipush 100, 2) := by decide +kernel
theorem dX4_init_304 : decode cX4_init 304 = .ok (.castore, 1) := by decide +kernel
theorem dX4_init_305 : decode cX4_init 305 = .ok (.dup, 1) := by decide +kernel
theorem dX4_init_306 : decode cX4_init 306 = .ok (.bipush 41, 2) := by decide +kernel
theorem dX4_init_308 : decode cX4_init 308 = .ok (.bipush 111, 2) := by decide +kernel
theorem dX4_init_310 : decode cX4_init 310 = .ok (.castore, 1) := by decide +kernel
theorem dX4_init_311 : decode cX4_init 311 = .ok (.dup, 1) := by decide +kernel
theorem dX4_init_312 : decode cX4_init 312 = .ok (.bipush 42, 2) := by decide +kernel
theorem dX4_init_314 : decode cX4_init 314 = .ok (.bipush 117, 2) := by decide +kernel
theorem dX4_init_316 : decode cX4_init 316 = .ok (.castore, 1) := by decide +kernel
theorem dX4_init_317 : decode cX4_init 317 = .ok (.dup, 1) := by decide +kernel
theorem dX4_init_318 : decode cX4_init 318 = .ok (.bipush 43, 2) := by decide +kernel
theorem dX4_init_320 : decode cX4_init 320 = .ok (.bipush 98, 2) := by decide +kernel
theorem dX4_init_322 : decode cX4_init 322 = .ok (.castore, 1) := by decide +kernel
theorem dX4_init_323 : decode cX4_init 323 = .ok (.dup, 1) := by decide +kernel
theorem dX4_init_324 : decode cX4_init 324 = .ok (.bipush 44, 2) := by decide +kernel
theorem dX4_init_326 : decode cX4_init 326 = .ok (.bipush 116, 2) := by decide +kernel
theorem dX4_init_328 : decode cX4_init 328 = .ok (.castore, 1) := by decide +kernel
theorem dX4_init_329 : decode cX4_init 329 = .ok (.dup, 1) := by decide +kernel
theorem dX4_init_330 : decode cX4_init 330 = .ok (.bipush 45, 2) := by decide +kernel
theorem dX4_init_332 : decode cX4_init 332 = .ok (.bipush 101, 2) := by decide +kernel
theorem dX4_init_334 : decode cX4_init 334 = .ok (.castore, 1) := by decide +kernel
theorem dX4_init_335 : decode cX4_init 335 = .ok (.dup, 1) := by decide +kernel
theorem dX4_init_336 : decode cX4_init 336 = .ok (.bipush 46, 2) := by decide +kernel
theorem dX4_init_338 : decode cX4_init 338 = .ok (.bipush 114, 2) := by decide +kernel
theorem dX4_init_340 : decode cX4_init 340 = .ok (.castore, 1) := by decide +kernel
theorem dX4_init_341 : decode cX4_init 341 = .ok (.dup, 1) := by decide +kernel
theorem dX4_init_342 : decode cX4_init 342 = .ok (.bipush 47, 2) := by decide +kernel
theorem dX4_init_344 : decode cX4_init 344 = .ok (.bipush 32, 2) := by decide +kernel
theorem dX4_init_346 : decode cX4_init 346 = .ok (.castore, 1) := by decide +kernel
theorem dX4_init_347 : decode cX4_init 347 = .ok (.dup, 1) := by decide +kernel
theorem dX4_init_348 : decode cX4_init 348 = .ok (.bipush 48, 2) := by decide +kernel
theorem dX4_init_350 : decode cX4_init 350 = .ok (.bipush 112, 2) := by decide +kernel
theorem dX4_init_352 : decode cX4_init 352 = .ok (.castore, 1) := by decide +kernel
theorem dX4_init_353 : decode cX4_init 353 = .ok (.dup, 1) := by decide +kernel
theorem dX4_init_354 : decode cX4_init 354 = .ok (.bipush 49, 2) := by decide +kernel
theorem dX4_init_356 : decode cX4_init 356 = .ok (.bipush 117, 2) := by decide +kernel
theorem dX4_init_358 : decode cX4_init 358 = .ok (.castore, 1) := by decide +kernel
theorem dX4_init_359 : decode cX4_init 359 = .ok (.dup, 1) := by decide +kernel
theorem dX4_init_360 : decode cX4_init 360 = .ok (.bipush 50, 2) := by decide +kernel
theorem dX4_init_362 : decode cX4_init 362 = .ok (.bipush 112, 2) := by decide +kernel
theorem dX4_init_364 : decode cX4_init 364 = .ok (.castore, 1) := by decide +kernel
theorem dX4_init_365 : decode cX4_init 365 = .ok (.dup, 1) := by decide +kernel
theorem dX4_init_366 : decode cX4_init 366 = .ok (.bipush 51, 2) := by decide +kernel
theorem dX4_init_368 : decode cX4_init 368 = .ok (.bipush 105, 2) := by decide +kernel
theorem dX4_init_370 : decode cX4_init 370 = .ok (.castore, 1) := by decide +kernel
theorem dX4_init_371 : decode cX4_init 371 = .ok (.dup, 1) := by decide +kernel
theorem dX4_init_372 : decode cX4_init 372 = .ok (.bipush 52, 2) := by decide +kernel
theorem dX4_init_374 : decode cX4_init 374 = .ok (.bipush 108, 2) := by decide +kernel
theorem dX4_init_376 : decode cX4_init 376 = .ok (.castore, 1) := by decide +kernel
theorem dX4_init_377 : decode cX4_init 377 = .ok (.dup, 1) := by decide +kernel
theorem dX4_init_378 : decode cX4_init 378 = .ok (.bipush 53, 2) := by decide +kernel
theorem dX4_init_380 : decode cX4_init 380 = .ok (.bipush 32, 2) := by decide +kernel
theorem dX4_init_382 : decode cX4_init 382 = .ok (.castore, 1) := by decide +kernel
theorem dX4_init_383 : decode cX4_init 383 = .ok (.dup, 1) := by decide +kernel
theorem dX4_init_384 : decode cX4_init 384 = .ok (.bipush 54, 2) := by decide +kernel
theorem dX4_init_386 : decode cX4_init 386 = .ok (.bipush 32, 2) := by decide +kernel
theorem dX4_init_388 : decode cX4_init 388 = .ok (.castore, 1) := by decide +kernel
theorem dX4_init_389 : decode cX4_init 389 = .ok (.dup, 1) := by decide +kernel
theorem dX4_init_390 : decode cX4_init 390 = .ok (.bipush 55, 2) := by decide +kernel
theorem dX4_init_392 : decode cX4_init 392 = .ok (.bipush 32, 2) := by decide +kernel
theorem dX4_init_394 : decode cX4_init 394 = .ok (.castore, 1) := by decide +kernel
theorem dX4_init_395 : decode cX4_init 395 = .ok (.putfield 31, 3) := by decide +kernel
theorem dX4_init_398 : decode cX4_init 398 = .ok (.aload_n 0, 1) := by decide +kernel
theorem dX4_init_399 : decode cX4_init 399 = .ok (.bipush 24, 2) := by decide +kernel
theorem dX4_init_401 : decode cX4_init 401 = .ok (.newarray .char, 2) := by decide +kernel
theorem dX4_init_403 : decode cX4_init 403 = .ok (.dup, 1) := by decide +kernel
theorem dX4_init_404 : decode cX4_init 404 = .ok (.iconst 0, 1) := by decide +kernel
theorem dX4_init_405 : decode cX4_init 405 = .ok (.bipush 111, 2) := by decide +kernel
theorem dX4_init_407 : decode cX4_init 407 = .ok (.castore, 1) := by decide +kernel
theorem dX4_init_408 : decode cX4_init 408 = .ok (.dup, 1) := by decide +kernel
theorem dX4_init_409 : decode cX4_init 409 = .ok (.iconst 1, 1) := by decide +kernel
theorem dX4_init_410 : decode cX4_init 410 = .ok (.bipush 110, 2) := by decide +kernel
theorem dX4_init_412 : decode cX4_init 412 = .ok (.castore, 1) := by decide +kernel
theorem dX4_init_413 : decode cX4_init 413 = .ok (.dup, 1) := by decide +kernel
theorem dX4_init_414 : decode cX4_init 414 = .ok (.iconst 2, 1) := by decide +kernel
theorem dX4_init_415 : decode cX4_init 415 = .ok (.bipush 32, 2) := by decide +kernel
theorem dX4_init_417 : decode cX4_init 417 = .ok (.castore, 1) := by decide +kernel
theorem dX4_init_418 : decode cX4_init 418 = .ok (.dup, 1) := by decide +kernel
theorem dX4_init_419 : decode cX4_init 419 = .ok (.iconst 3, 1) := by decide +kernel
theorem dX4_init_420 : decode cX4_init 420 = .ok (.bipush 32, 2) := by decide +kernel
theorem dX4_init_422 : decode cX4_init 422 = .ok (.castore, 1) := by decide +kernel
theorem dX4_init_423 : decode cX4_init 423 = .ok (.dup, 1) := by decide +kernel
theorem dX4_init_424 : decode cX4_init 424 = .ok (.iconst 4, 1) := by decide +kernel
theorem dX4_init_425 : decode cX4_init 425 = .ok (.bipush 32, 2) := by decide +kernel
theorem dX4_init_427 : decode cX4_init 427 = .ok (.castore, 1) := by decide +kernel
theorem dX4_init_428 : decode cX4_init 428 = .ok (.dup, 1) := by decide +kernel
theorem dX4_init_429 : decode cX4_init 429 = .ok (.iconst 5, 1) := by decide +kernel
theorem dX4_init_430 : decode cX4_init 430 = .ok (.bipush 32, 2) := by decide +kernel
theorem dX4_init_432 : decode cX4_init 432 = .ok (.castore, 1) := by decide +kernel
theorem dX4_init_433 : decode cX4_init 433 = .ok (.dup, 1) := by decide +kernel
theorem dX4_init_434 : decode cX4_init 434 = .ok (.bipush 6, 2) := by decide +kernel
theorem dX4_init_436 : decode cX4_init 436 = .ok (.bipush 32, 2) := by decide +kernel
theorem dX4_init_438 : decode cX4_init 438 = .ok (.castore, 1) := by decide +kernel
theorem dX4_init_439 : decode cX4_init 439 = .ok (.dup, 1) := by decide +kernel
theorem dX4_init_440 : decode cX4_init 440 = .ok (.bipush 7, 2) := by decide +kernel
theorem dX4_init_442 : decode cX4_init 442 = .ok (.bipush 32, 2) := by decide +kernel
theorem dX4_init_444 : decode cX4_init 444 = .ok (.castore, 1) := by decide +kernel
theorem dX4_init_445 : decode cX4_init 445 = .ok (.dup, 1) := by decide +kernel
theorem dX4_init_446 : decode cX4_init 446 = .ok (.bipush 8, 2) := by decide +kernel
theorem dX4_init_448 : decode cX4_init 448 = .ok (.bipush 98, 2) := by decide +kernel
theorem dX4_init_450 : decode cX4_init 450 = .ok (.castore, 1) := by decide +kernel
theorem dX4_init_451 : decode cX4_init 451 = .ok (.dup, 1) := by decide +kernel
theorem dX4_init_452 : decode cX4_init 452 = .ok (.bipush 9, 2) := by decide +kernel
theorem dX4_init_454 : decode cX4_init 454 = .ok (.bipush 101, 2) := by decide +kernel
theorem dX4_init_456 : decode cX4_init 456 = .ok (.castore, 1) := by decide +kernel
theorem dX4_init_457 : decode cX4_init 457 = .ok (.dup, 1) := by decide +kernel
theorem dX4_init_458 : decode cX4_init 458 = .ok (.bipush 10, 2) := by decide +kernel
theorem dX4_init_460 : decode cX4_init 460 = .ok (.bipush 108, 2) := by decide +kernel
theorem dX4_init_462 : decode cX4_init 462 = .ok (.castore, 1) := by decide +kernel
theorem dX4_init_463 : decode cX4_init 463 = .ok (.dup, 1) := by decide +kernel
theorem dX4_init_464 : decode cX4_init 464 = .ok (.bipush 11, 2) := by decide +kernel
theorem dX4_init_466 : decode cX4_init 466 = .ok (.bipush 105, 2) := by decide +kernel
theorem dX4_init_468 : decode cX4_init 468 = .ok (.castore, 1) := by decide +kernel
theorem dX4_init_469 : decode cX4_init 469 = .ok (.dup, 1) := by decide +kernel
theorem dX4_init_470 : decode cX4_init 470 = .ok (.bipush 12, 2) := by decide +kernel
theorem dX4_init_472 : decode cX4_init 472 = .ok (.bipush 101, 2) := by decide +kernel
theorem dX4_init_474 : decode cX4_init 474 = .ok (.castore, 1) := by decide +kernel
theorem dX4_init_475 : decode cX4_init 475 = .ok (.dup, 1) := by decide +kernel
theorem dX4_init_476 : decode cX4_init 476 = .ok (.bipush 13, 2) := by decide +kernel
theorem dX4_init_478 : decode cX4_init 478 = .ok (.bipush 118, 2) := by decide +kernel
theorem dX4_init_480 : decode cX4_init 480 = .ok (.castore, 1) := by decide +kernel
theorem dX4_init_481 : decode cX4_init 481 = .ok (.dup, 1) := by decide +kernel
theorem dX4_init_482 : decode cX4_init 482 = .ok (.bipush 14, 2) := by decide +kernel
theorem dX4_init_484 : decode cX4_init 484 = .ok (.bipush 101, 2) := by decide +kernel
theorem dX4_init_486 : decode cX4_init 486 = .ok (.castore, 1) := by decide +kernel
theorem dX4_init_487 : decode cX4_init 487 = .ok (.dup, 1) := by decide +kernel
theorem dX4_init_488 : decode cX4_init 488 = .ok (.bipush 15, 2) := by decide +kernel
theorem dX4_init_490 : decode cX4_init 490 = .ok (.bipush 115, 2) := by decide +kernel
theorem dX4_init_492 : decode cX4_init 492 = .ok (.castore, 1) := by decide +kernel
theorem dX4_init_493 : decode cX4_init 493 = .ok (.dup, 1) := by decide +kernel
theorem dX4_init_494 : decode cX4_init 494 = .ok (.bipush 16, 2) := by decide +kernel
theorem dX4_init_496 : decode cX4_init 496 = .ok (.bipush 112, 2) := by decide +kernel
theorem dX4_init_498 : decode cX4_init 498 = .ok (.castore, 1) := by decide +kernel
theorem dX4_init_499 : decode cX4_init 499 = .ok (.dup, 1) := by decide +kernel
theorem dX4_init_500 : decode cX4_init 500 = .ok (.bipush 17, 2) := by decide +kernel
theorem dX4_init_502 : decode cX4_init 502 = .ok (.bipush 117, 2) := by decide +kernel
theorem dX4_init_504 : decode cX4_init 504 = .ok (.castore, 1) := by decide +kernel
theorem dX4_init_505 : decode cX4_init 505 = .ok (.dup, 1) := by decide +kernel
theorem dX4_init_506 : decode cX4_init 506 = .ok (.bipush 18, 2) := by decide +kernel
theorem dX4_init_508 : decode cX4_init 508 = .ok (.bipush 114, 2) := by decide +kernel
theorem dX4_init_510 : decode cX4_init 510 = .ok (.castore, 1) := by decide +kernel
theorem dX4_init_511 : decode cX4_init 511 = .ok (.dup, 1) := by decide +kernel
theorem dX4_init_512 : decode cX4_init 512 = .ok (.bipush 19, 2) := by decide +kernel
theorem dX4_init_514 : decode cX4_init 514 = .ok (.bipush 115, 2) := by decide +kernel
theorem dX4_init_516 : decode cX4_init 516 = .ok (.castore, 1) := by decide +kernel
theorem dX4_init_517 : decode cX4_init 517 = .ok (.dup, 1) := by decide +kernel
theorem dX4_init_518 : decode cX4_init 518 = .ok (.bipush 20, 2) := by decide +kernel
theorem dX4_init_520 : decode cX4_init 520 = .ok (.bipush 101, 2) := by decide +kernel
theorem dX4_init_522 : decode cX4_init 522 = .ok (.castore, 1) := by decide +kernel
theorem dX4_init_523 : decode cX4_init 523 = .ok (.dup, 1) := by decide +kernel
theorem dX4_init_524 : decode cX4_init 524 = .ok (.bipush 21, 2) := by decide +kernel
theorem dX4_init_526 : decode cX4_init 526 = .ok (.bipush 32, 2) := by decide +kernel
theorem dX4_init_528 : decode cX4_init 528 = .ok (.castore, 1) := by decide +kernel
theorem dX4_init_529 : decode cX4_init 529 = .ok (.dup, 1) := by decide +kernel
theorem dX4_init_530 : decode cX4_init 530 = .ok (.bipush 22, 2) := by decide +kernel
theorem dX4_init_532 : decode cX4_init 532 = .ok (.bipush 32, 2) := by decide +kernel
theorem dX4_init_534 : decode cX4_init 534 = .ok (.castore, 1) := by decide +kernel
theorem dX4_init_535 : decode cX4_init 535 = .ok (.dup, 1) := by decide +kernel
theorem dX4_init_536 : decode cX4_init 536 = .ok (.bipush 23, 2) := by decide +kernel
theorem dX4_init_538 : decode cX4_init 538 = .ok (.bipush 32, 2) := by decide +kernel
theorem dX4_init_540 : decode cX4_init 540 = .ok (.castore, 1) := by decide +kernel
theorem dX4_init_541 : decode cX4_init 541 = .ok (.putfield 35, 3) := by decide +kernel
theorem dX4_init_544 : decode cX4_init 544 = .ok (.aload_n 0, 1) := by decide +kernel
theorem dX4_init_545 : decode cX4_init 545 = .ok (.bipush 24, 2) := by decide +kernel
theorem dX4_init_547 : decode cX4_init 547 = .ok (.newarray .char, 2) := by decide +kernel
theorem dX4_init_549 : decode cX4_init 549 = .ok (.dup, 1) := by decide +kernel
theorem dX4_init_550 : decode cX4_init 550 = .ok (.iconst 0, 1) := by decide +kernel
theorem dX4_init_551 : decode cX4_init 551 = .ok (.bipush 108, 2) := by decide +kernel
theorem dX4_init_553 : decode cX4_init 553 = .ok (.castore, 1) := by decide +kernel
theorem dX4_init_554 : decode cX4_init 554 = .ok (.dup, 1) := by decide +kernel
theorem dX4_init_555 : decode cX4_init 555 = .ok (.iconst 1, 1) := by decide +kernel
theorem dX4_init_556 : decode cX4_init 556 = .ok (.bipush 111, 2) := by decide +kernel
theorem dX4_init_558 : decode cX4_init 558 = .ok (.castore, 1) := by decide +kernel
theorem dX4_init_559 : decode cX4_init 559 = .ok (.dup, 1) := by decide +kernel
theorem dX4_init_560 : decode cX4_init 560 = .ok (.iconst 2, 1) := by decide +kernel
theorem dX4_init_561 : decode cX4_init 561 = .ok (.bipush 116, 2) := by decide +kernel
theorem dX4_init_563 : decode cX4_init 563 = .ok (.castore, 1) := by decide +kernel
theorem dX4_init_564 : decode cX4_init 564 = .ok (.dup, 1) := by decide +kernel
theorem dX4_init_565 : decode cX4_init 565 = .ok (.iconst 3, 1) := by decide +kernel
theorem dX4_init_566 : decode cX4_init 566 = .ok (.bipush 32, 2) := by decide +kernel
theorem dX4_init_568 : decode cX4_init 568 = .ok (.castore, 1) := by decide +kernel
theorem dX4_init_569 : decode cX4_init 569 = .ok (.dup, 1) := by decide +kernel
theorem dX4_init_570 : decode cX4_init 570 = .ok (.iconst 4, 1) := by decide +kernel
theorem dX4_init_571 : decode cX4_init 571 = .ok (.bipush 32, 2) := by decide +kernel
theorem dX4_init_573 : decode cX4_init 573 = .ok (.castore, 1) := by decide +kernel
theorem dX4_init_574 : decode cX4_init 574 = .ok (.dup, 1) := by decide +kernel
theorem dX4_init_575 : decode cX4_init 575 = .ok (.iconst 5, 1) := by decide +kernel
theorem dX4_init_576 : decode cX4_init 576 = .ok (.bipush 32, 2) := by decide +kernel
theorem dX4_init_578 : decode cX4_init 578 = .ok (.castore, 1) := by decide +kernel
theorem dX4_init_579 : decode cX4_init 579 = .ok (.dup, 1) := by decide +kernel
theorem dX4_init_580 : decode cX4_init 580 = .ok (.bipush 6, 2) := by decide +kernel
theorem dX4_init_582 : decode cX4_init 582 = .ok (.bipush 32, 2) := by decide +kernel
theorem dX4_init_584 : decode cX4_init 584 = .ok (.castore, 1) := by decide +kernel
theorem dX4_init_585 : decode cX4_init 585 = .ok (.dup, 1) := by decide +kernel
theorem dX4_init_586 : decode cX4_init 586 = .ok (.bipush 7, 2) := by decide +kernel
theorem dX4_init_588 : decode cX4_init 588 = .ok (.bipush 32, 2) := by decide +kernel
theorem dX4_init_590 : decode cX4_init 590 = .ok (.castore, 1) := by decide +kernel
theorem dX4_init_591 : decode cX4_init 591 = .ok (.dup, 1) := by decide +kernel
theorem dX4_init_592 : decode cX4_init 592 = .ok (.bipush 8, 2) := by decide +kernel
theorem dX4_init_594 : decode cX4_init 594 = .ok (.bipush 115, 2) := by decide +kernel
theorem dX4_init_596 : decode cX4_init 596 = .ok (.castore, 1) := by decide +kernel
theorem dX4_init_597 : decode cX4_init 597 = .ok (.dup, 1) := by decide +kernel
theorem dX4_init_598 : decode cX4_init 598 = .ok (.bipush 9, 2) := by decide +kernel
theorem dX4_init_600 : decode cX4_init 600 = .ok (.bipush 117, 2) := by decide +kernel
theorem dX4_init_602 : decode cX4_init 602 = .ok (.castore, 1) := by decide +kernel
theorem dX4_init_603 : decode cX4_init 603 = .ok (.dup, 1) := by decide +kernel
theorem dX4_init_604 : decode cX4_init 604 = .ok (.bipush 10, 2) := by decide +kernel
theorem dX4_init_606 : decode cX4_init 606 = .ok (.bipush 110, 2) := by decide +kernel
theorem dX4_init_608 : decode cX4_init 608 = .ok (.castore, 1) := by decide +kernel
theorem dX4_init_609 : decode cX4_init 609 = .ok (.dup, 1) := by decide +kernel
theorem dX4_init_610 : decode cX4_init 610 = .ok (.bipush 11, 2) := by decide +kernel
theorem dX4_init_612 : decode cX4_init 612 = .ok (.bipush 32, 2) := by decide +kernel
theorem dX4_init_614 : decode cX4_init 614 = .ok (.castore, 1) := by decide +kernel
theorem dX4_init_615 : decode cX4_init 615 = .ok (.dup, 1) := by decide +kernel
theorem dX4_init_616 : decode cX4_init 616 = .ok (.bipush 12, 2) := by decide +kernel
theorem dX4_init_618 : decode cX4_init 618 = .ok (.bipush 32, 2) := by decide +kernel
theorem dX4_init_620 : decode cX4_init 620 = .ok (.castore, 1) := by decide +kernel
theorem dX4_init_621 : decode cX4_init 621 = .ok (.dup, 1) := by decide +kernel
theorem dX4_init_622 : decode cX4_init 622 = .ok (.bipush 13, 2) := by decide +kernel
theorem dX4_init_624 : decode cX4_init 624 = .ok (.bipush 32, 2) := by decide +kernel
theorem dX4_init_626 : decode cX4_init 626 = .ok (.castore, 1) := by decide +kernel
theorem dX4_init_627 : decode cX4_init 627 = .ok (.dup, 1) := by decide +kernel
theorem dX4_init_628 : decode cX4_init 628 = .ok (.bipush 14, 2) := by decide +kernel
theorem dX4_init_630 : decode cX4_init 630 = .ok (.bipush 32, 2) := by decide +kernel
theorem dX4_init_632 : decode cX4_init 632 = .ok (.castore, 1) := by decide +kernel
theorem dX4_init_633 : decode cX4_init 633 = .ok (.dup, 1) := by decide +kernel
theorem dX4_init_634 : decode cX4_init 634 = .ok (.bipush 15, 2) := by decide +kernel
theorem dX4_init_636 : decode cX4_init 636 = .ok (.bipush 32, 2) := by decide +kernel
theorem dX4_init_638 : decode cX4_init 638 = .ok (.castore, 1) := by decide +kernel
theorem dX4_init_639 : decode cX4_init 639 = .ok (.dup, 1) := by decide +kernel
theorem dX4_init_640 : decode cX4_init 640 = .ok (.bipush 16, 2) := by decide +kernel
theorem dX4_init_642 : decode cX4_init 642 = .ok (.bipush 109, 2) := by decide +kernel
theorem dX4_init_644 : decode cX4_init 644 = .ok (.castore, 1) := by decide +kernel
theorem dX4_init_645 : decode cX4_init 645 = .ok (.dup, 1) := by decide +kernel
theorem dX4_init_646 : decode cX4_init 646 = .ok (.bipush 17, 2) := by decide +kernel
theorem dX4_init_648 : decode cX4_init 648 = .ok (.bipush 105, 2) := by decide +kernel
theorem dX4_init_650 : decode cX4_init 650 = .ok (.castore, 1) := by decide +kernel
theorem dX4_init_651 : decode cX4_init 651 = .ok (.dup, 1) := by decide +kernel
theorem dX4_init_652 : decode cX4_init 652 = .ok (.bipush 18, 2) := by decide +kernel
theorem dX4_init_654 : decode cX4_init 654 = .ok (.bipush 115, 2) := by decide +kernel
theorem dX4_init_656 : decode cX4_init 656 = .ok (.castore, 1) := by decide +kernel
theorem dX4_init_657 : decode cX4_init 657 = .ok (.dup, 1) := by decide +kernel
theorem dX4_init_658 : decode cX4_init 658 = .ok (.bipush 19, 2) := by decide +kernel
theorem dX4_init_660 : decode cX4_init 660 = .ok (.bipush 116, 2) := by decide +kernel
theorem dX4_init_662 : decode cX4_init 662 = .ok (.castore, 1) := by decide +kernel
theorem dX4_init_663 : decode cX4_init 663 = .ok (.dup, 1) := by decide +kernel
theorem dX4_init_664 : decode cX4_init 664 = .ok (.bipush 20, 2) := by decide +kernel
theorem dX4_init_666 : decode cX4_init 666 = .ok (.bipush 32, 2) := by decide +kernel
theorem dX4_init_668 : decode cX4_init 668 = .ok (.castore, 1) := by decide +kernel
theorem dX4_init_669 : decode cX4_init 669 = .ok (.dup, 1) := by decide +kernel
theorem dX4_init_670 : decode cX4_init 670 = .ok (.bipush 21, 2) := by decide +kernel
theorem dX4_init_672 : decode cX4_init 672 = .ok (.bipush 32, 2) := by decide +kernel
theorem dX4_init_674 : decode cX4_init 674 = .ok (.castore, 1) := by decide +kernel
theorem dX4_init_675 : decode cX4_init 675 = .ok (.dup, 1) := by decide +kernel
theorem dX4_init_676 : decode cX4_init 676 = .ok (.bipush 22, 2) := by decide +kernel
theorem dX4_init_678 : decode cX4_init 678 = .ok (.bipush 32, 2) := by decide +kernel
theorem dX4_init_680 : decode cX4_init 680 = .ok (.castore, 1) := by decide +kernel
theorem dX4_init_681 : decode cX4_init 681 = .ok (.dup, 1) := by decide +kernel
theorem dX4_init_682 : decode cX4_init 682 = .ok (.bipush 23, 2) := by decide +kernel
theorem dX4_init_684 : decode cX4_init 684 = .ok (.bipush 32, 2) := by decide +kernel
theorem dX4_init_686 : decode cX4_init 686 = .ok (.castore, 1) := by decide +kernel
theorem dX4_init_687 : decode cX4_init 687 = .ok (.putfield 38, 3) := by decide +kernel
theorem dX4_init_690 : decode cX4_init 690 = .ok (.aload_n 0, 1) := by decide +kernel
theorem dX4_init_691 : decode cX4_init 691 = .ok (.bipush 24, 2) := by decide +kernel
theorem dX4_init_693 : decode cX4_init 693 = .ok (.newarray .char, 2) := by decide +kernel
theorem dX4_init_695 : decode cX4_init 695 = .ok (.dup, 1) := by decide +kernel
theorem dX4_init_696 : decode cX4_init 696 = .ok (.iconst 0, 1) := by decide +kernel
theorem dX4_init_697 : decode cX4_init 697 = .ok (.bipush 102, 2) := by decide +kernel
theorem dX4_init_699 : decode cX4_init 699 = .ok (.castore, 1) := by decide +kernel
theorem dX4_init_700 : decode cX4_init 700 = .ok (.dup, 1) := by decide +kernel
theorem dX4_init_701 : decode cX4_init 701 = .ok (.iconst 1, 1) := by decide +kernel
theorem dX4_init_702 : decode cX4_init 702 = .ok (.bipush 111, 2) := by decide +kernel
theorem dX4_init_704 : decode cX4_init 704 = .ok (.castore, 1) := by decide +kernel
theorem dX4_init_705 : decode cX4_init 705 = .ok (.dup, 1) := by decide +kernel
theorem dX4_init_706 : decode cX4_init 706 = .ok (.iconst 2, 1) := by decide +kernel
theorem dX4_init_707 : decode cX4_init 707 = .ok (.bipush 103, 2) := by decide +kernel
theorem dX4_init_709 : decode cX4_init 709 = .ok (.castore, 1) := by decide +kernel
theorem dX4_init_710 : decode cX4_init 710 = .ok (.dup, 1) := by decide +kernel
theorem dX4_init_711 : decode cX4_init 711 = .ok (.iconst 3, 1) := by decide +kernel
theorem dX4_init_712 : decode cX4_init 712 = .ok (.bipush 32, 2) := by decide +kernel
theorem dX4_init_714 : decode cX4_init 714 = .ok (.castore, 1) := by decide +kernel
theorem dX4_init_715 : decode cX4_init 715 = .ok (.dup, 1) := by decide +kernel
theorem dX4_init_716 : decode cX4_init 716 = .ok (.iconst 4, 1) := by decide +kernel
theorem dX4_init_717 : decode cX4_init 717 = .ok (.bipush 32, 2) := by decide +kernel
theorem dX4_init_719 : decode cX4_init 719 = .ok (.castore, 1) := by decide +kernel
theorem dX4_init_720 : decode cX4_init 720 = .ok (.dup, 1) := by decide +kernel
theorem dX4_init_721 : decode cX4_init 721 = .ok (.iconst 5, 1) := by decide +kernel
theorem dX4_init_722 : decode cX4_init 722 = .ok (.bipush 32, 2) := by decide +kernel
theorem dX4_init_724 : decode cX4_init 724 = .ok (.castore, 1) := by decide +kernel
theorem dX4_init_725 : decode cX4_init 725 = .ok (.dup, 1) := by decide +kernel
theorem dX4_init_726 : decode cX4_init 726 = .ok (.bipush 6, 2) := by decide +kernel
theorem dX4_init_728 : decode cX4_init 728 = .ok (.bipush 32, 2) := by decide +kernel
theorem dX4_init_730 : decode cX4_init 730 = .ok (.castore, 1) := by decide +kernel
theorem dX4_init_731 : decode cX4_init 731 = .ok (.dup, 1) := by decide +kernel
theorem dX4_init_732 : decode cX4_init 732 = .ok (.bipush 7, 2) := by decide +kernel
theorem dX4_init_734 : decode cX4_init 734 = .ok (.bipush 32, 2) := by decide +kernel
theorem dX4_init_736 : decode cX4_init 736 = .ok (.castore, 1) := by decide +kernel
theorem dX4_init_737 : decode cX4_init 737 = .ok (.dup, 1) := by decide +kernel
theorem dX4_init_738 : decode cX4_init 738 = .ok (.bipush 8, 2) := by decide +kernel
theorem dX4_init_740 : decode cX4_init 740 = .ok (.bipush 114, 2) := by decide +kernel
theorem dX4_init_742 : decode cX4_init 742 = .ok (.castore, 1) := by decide +kernel
theorem dX4_init_743 : decode cX4_init 743 = .ok (.dup, 1) := by decide +kernel
theorem dX4_init_744 : decode cX4_init 744 = .ok (.bipush 9, 2) := by decide +kernel
theorem dX4_init_746 : decode cX4_init 746 = .ok (.bipush 101, 2) := by decide +kernel
theorem dX4_init_748 : decode cX4_init 748 = .ok (.castore, 1) := by decide +kernel
theorem dX4_init_749 : decode cX4_init 749 = .ok (.dup, 1) := by decide +kernel
theorem dX4_init_750 : decode cX4_init 750 = .ok (.bipush 10, 2) := by decide +kernel
theorem dX4_init_752 : decode cX4_init 752 = .ok (.bipush 110, 2) := by decide +kernel
theorem dX4_init_754 : decode cX4_init 754 = .ok (.castore, 1) := by decide +kernel
theorem dX4_init_755 : decode cX4_init 755 = .ok (.dup, 1) := by decide +kernel
theorem dX4_init_756 : decode cX4_init 756 = .ok (.bipush 11, 2) := by decide +kernel
theorem dX4_init_758 : decode cX4_init 758 = .ok (.bipush 116, 2) := by decide +kernel
theorem dX4_init_760 : decode cX4_init 760 = .ok (.castore, 1) := by decide +kernel
theorem dX4_init_761 : decode cX4_init 761 = .ok (.dup, 1) := by decide +kernel
theorem dX4_init_762 : decode cX4_init 762 = .ok (.bipush 12, 2) := by decide +kernel
theorem dX4_init_764 : decode cX4_init 764 = .ok (.bipush 32, 2) := by decide +kernel
theorem dX4_init_766 : decode cX4_init 766 = .ok (.castore, 1) := by decide +kernel
theorem dX4_init_767 : decode cX4_init 767 = .ok (.dup, 1) := by decide +kernel
theorem dX4_init_768 : decode cX4_init 768 = .ok (.bipush 13, 2) := by decide +kernel
theorem dX4_init_770 : decode cX4_init 770 = .ok (.bipush 32, 2) := by decide +kernel
theorem dX4_init_772 : decode cX4_init 772 = .ok (.castore, 1) := by decide +kernel
theorem dX4_init_773 : decode cX4_init 773 = .ok (.dup, 1) := by decide +kernel
theorem dX4_init_774 : decode cX4_init 774 = .ok (.bipush 14, 2) := by decide +kernel
theorem dX4_init_776 : decode cX4_init 776 = .ok (.bipush 32, 2) := by decide +kernel
theorem dX4_init_778 : decode cX4_init 778 = .ok (.castore, 1) := by decide +kernel
theorem dX4_init_779 : decode cX4_init 779 = .ok (.dup, 1) := by decide +kernel
theorem dX4_init_780 : decode cX4_init 780 = .ok (.bipush 15, 2) := by decide +kernel
theorem dX4_init_782 : decode cX4_init 782 = .ok (.bipush 32, 2) := by decide +kernel
theorem dX4_init_784 : decode cX4_init 784 = .ok (.castore, 1) := by decide +kernel
theorem dX4_init_785 : decode cX4_init 785 = .ok (.dup, 1) := by decide +kernel
theorem dX4_init_786 : decode cX4_init 786 = .ok (.bipush 16, 2) := by decide +kernel
theorem dX4_init_788 : decode cX4_init 788 = .ok (.bipush 111, 2) := by decide +kernel
theorem dX4_init_790 : decode cX4_init 790 = .ok (.castore, 1) := by decide +kernel
theorem dX4_init_791 : decode cX4_init 791 = .ok (.dup, 1) := by decide +kernel
theorem dX4_init_792 : decode cX4_init 792 = .ok (.bipush 17, 2) := by decide +kernel
theorem dX4_init_794 : decode cX4_init 794 = .ok (.bipush 119, 2) := by decide +kernel
theorem dX4_init_796 : decode cX4_init 796 = .ok (.castore, 1) := by decide +kernel
theorem dX4_init_797 : decode cX4_init 797 = .ok (.dup, 1) := by decide +kernel
theorem dX4_init_798 : decode cX4_init 798 = .ok (.bipush 18, 2) := by decide +kernel
theorem dX4_init_800 : decode cX4_init 800 = .ok (.bipush 110, 2) := by decide +kernel
theorem dX4_init_802 : decode cX4_init 802 = .ok (.castore, 1) := by decide +kernel
theorem dX4_init_803 : decode cX4_init 803 = .ok (.dup, 1) := by decide +kernel
theorem dX4_init_804 : decode cX4_init 804 = .ok (.bipush 19, 2) := by decide +kernel
theorem dX4_init_806 : decode cX4_init 806 = .ok (.bipush 101, 2) := by decide +kernel
theorem dX4_init_808 : decode cX4_init 808 = .ok (.castore, 1) := by decide +kernel
theorem dX4_init_809 : decode cX4_init 809 = .ok (.dup, 1) := by decide +kernel
theorem dX4_init_810 : decode cX4_init 810 = .ok (.bipush 20, 2) := by decide +kernel
theorem dX4_init_812 : decode cX4_init 812 = .ok (.bipush 114, 2) := by decide +kernel
theorem dX4_init_814 : decode cX4_init 814 = .ok (.castore, 1) := by decide +kernel
theorem dX4_init_815 : decode cX4_init 815 = .ok (.dup, 1) := by decide +kernel
theorem dX4_init_816 : decode cX4_init 816 = .ok (.bipush 21, 2) := by decide +kernel
theorem dX4_init_818 : decode cX4_init 818 = .ok (.bipush 32, 2) := by decide +kernel
theorem dX4_init_820 : decode cX4_init 820 = .ok (.castore, 1) := by decide +kernel
theorem dX4_init_821 : decode cX4_init 821 = .ok (.dup, 1) := by decide +kernel
theorem dX4_init_822 : decode cX4_init 822 = .ok (.bipush 22, 2) := by decide +kernel
theorem dX4_init_824 : decode cX4_init 824 = .ok (.bipush 32, 2) := by decide +kernel
theorem dX4_init_826 : decode cX4_init 826 = .ok (.castore, 1) := by decide +kernel
theorem dX4_init_827 : decode cX4_init 827 = .ok (.dup, 1) := by decide +kernel
theorem dX4_init_828 : decode cX4_init 828 = .ok (.bipush 23, 2) := by decide +kernel
theorem dX4_init_830 : decode cX4_init 830 = .ok (.bipush 32, 2) := by decide +kernel
theorem dX4_init_832 : decode cX4_init 832 = .ok (.castore, 1) := by decide +kernel
theorem dX4_init_833 : decode cX4_init 833 = .ok (.putfield 41, 3) := by decide +kernel
theorem dX4_init_836 : decode cX4_init 836 = .ok (.aload_n 0, 1) := by decide +kernel
theorem dX4_init_837 : decode cX4_init 837 = .ok (.iconst 4, 1) := by decide +kernel
theorem dX4_init_838 : decode cX4_init 838 = .ok (.newarray .int, 2) := by decide +kernel
theorem dX4_init_840 : decode cX4_init 840 = .ok (.putfield 44, 3) := by decide +kernel
theorem dX4_init_843 : decode cX4_init 843 = .ok (.aload_n 0, 1) := by decide +kernel
theorem dX4_init_844 : decode cX4_init 844 = .ok (.iconst 4, 1) := by decide +kernel
theorem dX4_init_845 : decode cX4_init 845 = .ok (.newarray .int, 2) := by decide +kernel
theorem dX4_init_847 : decode cX4_init 847 = .ok (.putfield 47, 3) := by decide +kernel
theorem dX4_init_850 : decode cX4_init 850 = .ok (.aload_n 0, 1) := by decide +kernel
theorem dX4_init_851 : decode cX4_init 851 = .ok (.sipush 160, 3) := by decide +kernel
theorem dX4_init_854 : decode cX4_init 854 = .ok (.newarray .int, 2) := by decide +kernel
theorem dX4_init_856 : decode cX4_init 856 = .ok (.putfield 50, 3) := by decide +kernel
theorem dX4_init_859 : decode cX4_init 859 = .ok (.aload_n 0, 1) := by decide +kernel
theorem dX4_init_860 : decode cX4_init 860 = .ok (.bipush 40, 2) := by decide +kernel
theorem dX4_init_862 : decode cX4_init 862 = .ok (.newarray .int, 2) := by decide +kernel
theorem dX4_init_864 : decode cX4_init 864 = .ok (.putfield 53, 3) := by decide +kernel
theorem dX4_init_867 : decode cX4_init 867 = .ok (.aload_n 0, 1) := by decide +kernel
theorem dX4_init_868 : decode cX4_init 868 = .ok (.getfield 9, 3) := by decide +kernel
theorem dX4_init_871 : decode cX4_init 871 = .ok (.iconst 2, 1) := by decide +kernel
theorem dX4_init_872 : decode cX4_init 872 = .ok (.iconst 1, 1) := by decide +kernel
theorem dX4_init_873 : decode cX4_init 873 = .ok (.iastore, 1) := by decide +kernel
theorem dX4_init_874 : decode cX4_init 874 = .ok (.aload_n 0, 1) := by decide +kernel
theorem dX4_init_875 : decode cX4_init 875 = .ok (.getfield 9, 3) := by decide +kernel
theorem dX4_init_878 : decode cX4_init 878 = .ok (.iconst 3, 1) := by decide +kernel
theorem dX4_init_879 : decode cX4_init 879 = .ok (.iconst 5, 1) := by decide +kernel
theorem dX4_init_880 : decode cX4_init 880 = .ok (.iastore, 1) := by decide +kernel
theorem dX4_init_881 : decode cX4_init 881 = .ok (.iconst 0, 1) := by decide +kernel
theorem dX4_init_882 : decode cX4_init 882 = .ok (.istore_n 1, 1) := by decide +kernel
theorem dX4_init_883 : decode cX4_init 883 = .ok (.iload_n 1, 1) := by decide +kernel
theorem dX4_init_884 : decode cX4_init 884 = .ok (.bipush 6, 2) := by decide +kernel
theorem dX4_init_886 : decode cX4_init 886 = .ok (.if_icmp .ge 18, 3) := by decide +kernel
theorem dX4_init_889 : decode cX4_init 889 = .ok (.aload_n 0, 1) := by decide +kernel
theorem dX4_init_890 : decode cX4_init 890 = .ok (.getfield 9, 3) := by decide +kernel
theorem dX4_init_893 : decode cX4_init 893 = .ok (.iconst 4, 1) := by decide +kernel
theorem dX4_init_894 : decode cX4_init 894 = .ok (.iload_n 1, 1) := by decide +kernel
theorem dX4_init_895 : decode cX4_init 895 = .ok (.iadd, 1) := by decide +kernel
theorem dX4_init_896 : decode cX4_init 896 = .ok (.iconst 5, 1) := by decide +kernel
theorem dX4_init_897 : decode cX4_init 897 = .ok (.iastore, 1) := by decide +kernel
theorem dX4_init_898 : decode cX4_init 898 = .ok (.iinc 1 1, 3) := by decide +kernel
theorem dX4_init_901 : decode cX4_init 901 = .ok (.goto (-18), 3) := by decide +kernel
theorem dX4_init_904 : decode cX4_init 904 = .ok (.iconst 0, 1) := by decide +kernel
theorem dX4_init_905 : decode cX4_init 905 = .ok (.istore_n 1, 1) := by decide +kernel
theorem dX4_init_906 : decode cX4_init 906 = .ok (.iload_n 1, 1) := by decide +kernel
theorem dX4_init_907 : decode cX4_init 907 = .ok (.bipush 10, 2) := by decide +kernel
theorem dX4_init_909 : decode cX4_init 909 = .ok (.if_icmp .ge 24, 3) := by decide +kernel
theorem dX4_init_912 : decode cX4_init 912 = .ok (.aload_n 0, 1) := by decide +kernel
theorem dX4_init_913 : decode cX4_init 913 = .ok (.iload_n 1, 1) := by decide +kernel
theorem dX4_init_914 : decode cX4_init 914 = .ok (.iconst 0, 1) := by decide +kernel
theorem dX4_init_915 : decode cX4_init 915 = .ok (.bipush 50, 2) := by decide +kernel
theorem dX4_init_917 : decode cX4_init 917 = .ok (.invokevirtual 56, 3) := by decide +kernel
theorem dX4_init_920 : decode cX4_init 920 = .ok (.aload_n 0, 1) := by decide +kernel
theorem dX4_init_921 : decode cX4_init 921 = .ok (.iload_n 1, 1) := by decide +kernel
theorem dX4_init_922 : decode cX4_init 922 = .ok (.iconst 2, 1) := by decide +kernel
theorem dX4_init_923 : decode cX4_init 923 = .ok (.iconst (-1), 1) := by decide +kernel
theorem dX4_init_924 : decode cX4_init 924 = .ok (.invokevirtual 56, 3) := by decide +kernel
theorem dX4_init_927 : decode cX4_init 927 = .ok (.iinc 1 1, 3) := by decide +kernel
theorem dX4_init_930 : decode cX4_init 930 = .ok (.goto (-24), 3) := by decide +kernel
theorem dX4_init_933 : decode cX4_init 933 = .ok (.iconst 0, 1) := by decide +kernel
theorem dX4_init_934 : decode cX4_init 934 = .ok (.istore_n 1, 1) := by decide +kernel
theorem dX4_init_935 : decode cX4_init 935 = .ok (.iload_n 1, 1) := by decide +kernel
theorem dX4_init_936 : decode cX4_init 936 = .ok (.bipush 10, 2) := by decide +kernel
theorem dX4_init_938 : decode cX4_init 938 = .ok (.if_icmp .ge 19, 3) := by decide +kernel
theorem dX4_init_941 : decode cX4_init 941 = .ok (.aload_n 0, 1) := by decide +kernel
theorem dX4_init_942 : decode cX4_init 942 = .ok (.getfield 9, 3) := by decide +kernel
theorem dX4_init_945 : decode cX4_init 945 = .ok (.bipush 80, 2) := by decide +kernel
theorem dX4_init_947 : decode cX4_init 947 = .ok (.iload_n 1, 1) := by decide +kernel
theorem dX4_init_948 : decode cX4_init 948 = .ok (.iadd, 1) := by decide +kernel
theorem dX4_init_949 : decode cX4_init 949 = .ok (.iconst (-1), 1) := by decide +kernel
theorem dX4_init_950 : decode cX4_init 950 = .ok (.iastore, 1) := by decide +kernel
theorem dX4_init_951 : decode cX4_init 951 = .ok (.iinc 1 1, 3) := by decide +kernel
theorem dX4_init_954 : decode cX4_init 954 = .ok (.goto (-19), 3) := by decide +kernel
theorem dX4_init_957 : decode cX4_init 957 = .ok (.return_, 1) := by decide +kernel
