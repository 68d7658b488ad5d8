theorem d_Mo_init_0 : decode b_Mo_init 0 = .ok (.aload_n 0, 1) := by decide +kernel
theorem d_Mo_init_1 : decode b_Mo_init 1 = .ok (.invokespecial 1, 3) := by decide +kernel
theorem d_Mo_init_4 : decode b_Mo_init 4 = .ok (.aload_n 0, 1) := by decide +kernel
theorem d_Mo_init_5 : decode b_Mo_init 5 = .ok (.bipush 12, 2) := by decide +kernel
theorem d_Mo_init_7 : decode b_Mo_init 7 = .ok (.newarray .int, 2) := by decide +kernel
theorem d_Mo_init_9 : decode b_Mo_init 9 = .ok (.dup, 1) := by decide +kernel
theorem d_Mo_init_10 : decode b_Mo_init 10 = .ok (.iconst 0, 1) := by decide +kernel
theorem d_Mo_init_11 : decode b_Mo_init 11 = .ok (.sipush 10000, 3) := by decide +kernel
theorem d_Mo_init_14 : decode b_Mo_init 14 = .ok (.iastore, 1) := by decide +kernel
theorem d_Mo_init_15 : decode b_Mo_init 15 = .ok (.dup, 1) := by decide +kernel
theorem d_Mo_init_16 : decode b_Mo_init 16 = .ok (.iconst 1, 1) := by decide +kernel
theorem d_Mo_init_17 : decode b_Mo_init 17 = .ok (.bipush 100, 2) := by decide +kernel
theorem d_Mo_init_19 : decode b_Mo_init 19 = .ok (.iastore, 1) := by decide +kernel
theorem d_Mo_init_20 : decode b_Mo_init 20 = .ok (.dup, 1) := by decide +kernel
theorem d_Mo_init_21 : decode b_Mo_init 21 = .ok (.iconst 2, 1) := by decide +kernel
theorem d_Mo_init_22 : decode b_Mo_init 22 = .ok (.bipush 20, 2) := by decide +kernel
theorem d_Mo_init_24 : decode b_Mo_init 24 = .ok (.iastore, 1) := by decide +kernel
theorem d_Mo_init_25 : decode b_Mo_init 25 = .ok (.dup, 1) := by decide +kernel
theorem d_Mo_init_26 : decode b_Mo_init 26 = .ok (.iconst 3, 1) := by decide +kernel
theorem d_Mo_init_27 : decode b_Mo_init 27 = .ok (.sipush 9000, 3) := by decide +kernel
theorem d_Mo_init_30 : decode b_Mo_init 30 = .ok (.iastore, 1) := by decide +kernel
theorem d_Mo_init_31 : decode b_Mo_init 31 = .ok (.dup, 1) := by decide +kernel
theorem d_Mo_init_32 : decode b_Mo_init 32 = .ok (.iconst 4, 1) := by decide +kernel
theorem d_Mo_init_33 : decode b_Mo_init 33 = .ok (.sipush 11000, 3) := by decide +kernel
theorem d_Mo_init_36 : decode b_Mo_init 36 = .ok (.iastore, 1) := by decide +kernel
theorem d_Mo_init_37 : decode b_Mo_init 37 = .ok (.dup, 1) := by decide +kernel
theorem d_Mo_init_38 : decode b_Mo_init 38 = .ok (.iconst 5, 1) := by decide +kernel
theorem d_Mo_init_39 : decode b_Mo_init 39 = .ok (.ldc 7, 2) := by decide +kernel
theorem d_Mo_init_41 : decode b_Mo_init 41 = .ok (.iastore, 1) := by decide +kernel
theorem d_Mo_init_42 : decode b_Mo_init 42 = .ok (.dup, 1) := by decide +kernel
theorem d_Mo_init_43 : decode b_Mo_init 43 = .ok (.bipush 6, 2) := by decide +kernel
theorem d_Mo_init_45 : decode b_Mo_init 45 = .ok (.ldc 8, 2) := by decide +kernel
theorem d_Mo_init_47 : decode b_Mo_init 47 = .ok (.iastore, 1) := by decide +kernel
theorem d_Mo_init_48 : decode b_Mo_init 48 = .ok (.dup, 1) := by decide +kernel
theorem d_Mo_init_49 : decode b_Mo_init 49 = .ok (.bipush 7, 2) := by decide +kernel
theorem d_Mo_init_51 : decode b_Mo_init 51 = .ok (.ldc 9, 2) := by decide +kernel
theorem d_Mo_init_53 : decode b_Mo_init 53 = .ok (.iastore, 1) := by decide +kernel
theorem d_Mo_init_54 : decode b_Mo_init 54 = .ok (.dup, 1) := by decide +kernel
theorem d_Mo_init_55 : decode b_Mo_init 55 = .ok (.bipush 8, 2) := by decide +kernel
theorem d_Mo_init_57 : decode b_Mo_init 57 = .ok (.iconst 0, 1) := by decide +kernel
theorem d_Mo_init_58 : decode b_Mo_init 58 = .ok (.iastore, 1) := by decide +kernel
theorem d_Mo_init_59 : decode b_Mo_init 59 = .ok (.dup, 1) := by decide +kernel
theorem d_Mo_init_60 : decode b_Mo_init 60 = .ok (.bipush 9, 2) := by decide +kernel
theorem d_Mo_init_62 : decode b_Mo_init 62 = .ok (.iconst 0, 1) := by decide +kernel
theorem d_Mo_init_63 : decode b_Mo_init 63 = .ok (.iastore, 1) := by decide +kernel
theorem d_Mo_init_64 : decode b_Mo_init 64 = .ok (.dup, 1) := by decide +kernel
theorem d_Mo_init_65 : decode b_Mo_init 65 = .ok (.bipush 10, 2) := by decide +kernel
theorem d_Mo_init_67 : decode b_Mo_init 67 = .ok (.iconst 0, 1) := by decide +kernel
theorem d_Mo_init_68 : decode b_Mo_init 68 = .ok (.iastore, 1) := by decide +kernel
theorem d_Mo_init_69 : decode b_Mo_init 69 = .ok (.dup, 1) := by decide +kernel
theorem d_Mo_init_70 : decode b_Mo_init 70 = .ok (.bipush 11, 2) := by decide +kernel
theorem d_Mo_init_72 : decode b_Mo_init 72 = .ok (.bipush 20, 2) := by decide +kernel
theorem d_Mo_init_74 : decode b_Mo_init 74 = .ok (.iastore, 1) := by decide +kernel
theorem d_Mo_init_75 : decode b_Mo_init 75 = .ok (.putfield 10, 3) := by decide +kernel
theorem d_Mo_init_78 : decode b_Mo_init 78 = .ok (.aload_n 0, 1) := by decide +kernel
theorem d_Mo_init_79 : decode b_Mo_init 79 = .ok (.bipush 12, 2) := by decide +kernel
theorem d_Mo_init_81 : decode b_Mo_init 81 = .ok (.newarray .int, 2) := by decide +kernel
theorem d_Mo_init_83 : decode b_Mo_init 83 = .ok (.dup, 1) := by decide +kernel
theorem d_Mo_init_84 : decode b_Mo_init 84 = .ok (.iconst 0, 1) := by decide +kernel
theorem d_Mo_init_85 : decode b_Mo_init 85 = .ok (.iconst 0, 1) := by decide +kernel
theorem d_Mo_init_86 : decode b_Mo_init 86 = .ok (.iastore, 1) := by decide +kernel
theorem d_Mo_init_87 : decode b_Mo_init 87 = .ok (.dup, 1) := by decide +kernel
theorem d_Mo_init_88 : decode b_Mo_init 88 = .ok (.iconst 1, 1) := by decide +kernel
theorem d_Mo_init_89 : decode b_Mo_init 89 = .ok (.iconst 1, 1) := by decide +kernel
theorem d_Mo_init_90 : decode b_Mo_init 90 = .ok (.iastore, 1) := by decide +kernel
theorem d_Mo_init_91 : decode b_Mo_init 91 = .ok (.dup, 1) := by decide +kernel
theorem d_Mo_init_92 : decode b_Mo_init 92 = .ok (.iconst 2, 1) := by decide +kernel
theorem d_Mo_init_93 : decode b_Mo_init 93 = .ok (.iconst 1, 1) := by decide +kernel
theorem d_Mo_init_94 : decode b_Mo_init 94 = .ok (.iastore, 1) := by decide +kernel
theorem d_Mo_init_95 : decode b_Mo_init 95 = .ok (.dup, 1) := by decide +kernel
theorem d_Mo_init_96 : decode b_Mo_init 96 = .ok (.iconst 3, 1) := by decide +kernel
theorem d_Mo_init_97 : decode b_Mo_init 97 = .ok (.iconst 0, 1) := by decide +kernel
theorem d_Mo_init_98 : decode b_Mo_init 98 = .ok (.iastore, 1) := by decide +kernel
theorem d_Mo_init_99 : decode b_Mo_init 99 = .ok (.dup, 1) := by decide +kernel
theorem d_Mo_init_100 : decode b_Mo_init 100 = .ok (.iconst 4, 1) := by decide +kernel
theorem d_Mo_init_101 : decode b_Mo_init 101 = .ok (.iconst 0, 1) := by decide +kernel
theorem d_Mo_init_102 : decode b_Mo_init 102 = .ok (.iastore, 1) := by decide +kernel
theorem d_Mo_init_103 : decode b_Mo_init 103 = .ok (.dup, 1) := by decide +kernel
theorem d_Mo_init_104 : decode b_Mo_init 104 = .ok (.iconst 5, 1) := by decide +kernel
theorem d_Mo_init_105 : decode b_Mo_init 105 = .ok (.ldc 16, 2) := by decide +kernel
theorem d_Mo_init_107 : decode b_Mo_init 107 = .ok (.iastore, 1) := by decide +kernel
theorem d_Mo_init_108 : decode b_Mo_init 108 = .ok (.dup, 1) := by decide +kernel
theorem d_Mo_init_109 : decode b_Mo_init 109 = .ok (.bipush 6, 2) := by decide +kernel
theorem d_Mo_init_111 : decode b_Mo_init 111 = .ok (.ldc 16, 2) := by decide +kernel
theorem d_Mo_init_113 : decode b_Mo_init 113 = .ok (.iastore, 1) := by decide +kernel
theorem d_Mo_init_114 : decode b_Mo_init 114 = .ok (.dup, 1) := by decide +kernel
theorem d_Mo_init_115 : decode b_Mo_init 115 = .ok (.bipush 7, 2) := by decide +kernel
theorem d_Mo_init_117 : decode b_Mo_init 117 = .ok (.ldc 16, 2) := by decide +kernel
theorem d_Mo_init_119 : decode b_Mo_init 119 = .ok (.iastore, 1) := by decide +kernel
theorem d_Mo_init_120 : decode b_Mo_init 120 = .ok (.dup, 1) := by decide +kernel
theorem d_Mo_init_121 : decode b_Mo_init 121 = .ok (.bipush 8, 2) := by decide +kernel
theorem d_Mo_init_123 : decode b_Mo_init 123 = .ok (.iconst 0, 1) := by decide +kernel
theorem d_Mo_init_124 : decode b_Mo_init 124 = .ok (.iastore, 1) := by decide +kernel
theorem d_Mo_init_125 : decode b_Mo_init 125 = .ok (.dup, 1) := by decide +kernel
theorem d_Mo_init_126 : decode b_Mo_init 126 = .ok (.bipush 9, 2) := by decide +kernel
theorem d_Mo_init_128 : decode b_Mo_init 128 = .ok (.iconst 0, 1) := by decide +kernel
theorem d_Mo_init_129 : decode b_Mo_init 129 = .ok (.iastore, 1) := by decide +kernel
theorem d_Mo_init_130 : decode b_Mo_init 130 = .ok (.dup, 1) := by decide +kernel
theorem d_Mo_init_131 : decode b_Mo_init 131 = .ok (.bipush 10, 2) := by decide +kernel
theorem d_Mo_init_133 : decode b_Mo_init 133 = .ok (.iconst 0, 1) := by decide +kernel
theorem d_Mo_init_134 : decode b_Mo_init 134 = .ok (.iastore, 1) := by decide +kernel
theorem d_Mo_init_135 : decode b_Mo_init 135 = .ok (.dup, 1) := by decide +kernel
theorem d_Mo_init_136 : decode b_Mo_init 136 = .ok (.bipush 11, 2) := by decide +kernel
theorem d_Mo_init_138 : decode b_Mo_init 138 = .ok (.iconst 1, 1) := by decide +kernel
theorem d_Mo_init_139 : decode b_Mo_init 139 = .ok (.iastore, 1) := by decide +kernel
theorem d_Mo_init_140 : decode b_Mo_init 140 = .ok (.putfield 17, 3) := by decide +kernel
theorem d_Mo_init_143 : decode b_Mo_init 143 = .ok (.aload_n 0, 1) := by decide +kernel
theorem d_Mo_init_144 : decode b_Mo_init 144 = .ok (.bipush 12, 2) := by decide +kernel
theorem d_Mo_init_146 : decode b_Mo_init 146 = .ok (.newarray .int, 2) := by decide +kernel
theorem d_Mo_init_148 : decode b_Mo_init 148 = .ok (.dup, 1) := by decide +kernel
theorem d_Mo_init_149 : decode b_Mo_init 149 = .ok (.iconst 0, 1) := by decide +kernel
theorem d_Mo_init_150 : decode b_Mo_init 150 = .ok (.sipush 20000, 3) := by decide +kernel
theorem d_Mo_init_153 : decode b_Mo_init 153 = .ok (.iastore, 1) := by decide +kernel
theorem d_Mo_init_154 : decode b_Mo_init 154 = .ok (.dup, 1) := by decide +kernel
theorem d_Mo_init_155 : decode b_Mo_init 155 = .ok (.iconst 1, 1) := by decide +kernel
theorem d_Mo_init_156 : decode b_Mo_init 156 = .ok (.sipush 2000, 3) := by decide +kernel
theorem d_Mo_init_159 : decode b_Mo_init 159 = .ok (.iastore, 1) := by decide +kernel
theorem d_Mo_init_160 : decode b_Mo_init 160 = .ok (.dup, 1) := by decide +kernel
theorem d_Mo_init_161 : decode b_Mo_init 161 = .ok (.iconst 2, 1) := by decide +kernel
theorem d_Mo_init_162 : decode b_Mo_init 162 = .ok (.sipush 500, 3) := by decide +kernel
theorem d_Mo_init_165 : decode b_Mo_init 165 = .ok (.iastore, 1) := by decide +kernel
theorem d_Mo_init_166 : decode b_Mo_init 166 = .ok (.dup, 1) := by decide +kernel
theorem d_Mo_init_167 : decode b_Mo_init 167 = .ok (.iconst 3, 1) := by decide +kernel
theorem d_Mo_init_168 : decode b_Mo_init 168 = .ok (.sipush 20000, 3) := by decide +kernel
theorem d_Mo_init_171 : decode b_Mo_init 171 = .ok (.iastore, 1) := by decide +kernel
theorem d_Mo_init_172 : decode b_Mo_init 172 = .ok (.dup, 1) := by decide +kernel
theorem d_Mo_init_173 : decode b_Mo_init 173 = .ok (.iconst 4, 1) := by decide +kernel
theorem d_Mo_init_174 : decode b_Mo_init 174 = .ok (.sipush 20000, 3) := by decide +kernel
theorem d_Mo_init_177 : decode b_Mo_init 177 = .ok (.iastore, 1) := by decide +kernel
theorem d_Mo_init_178 : decode b_Mo_init 178 = .ok (.dup, 1) := by decide +kernel
theorem d_Mo_init_179 : decode b_Mo_init 179 = .ok (.iconst 5, 1) := by decide +kernel
theorem d_Mo_init_180 : decode b_Mo_init 180 = .ok (.ldc 20, 2) := by decide +kernel
theorem d_Mo_init_182 : decode b_Mo_init 182 = .ok (.iastore, 1) := by decide +kernel
theorem d_Mo_init_183 : decode b_Mo_init 183 = .ok (.dup, 1) := by decide +kernel
theorem d_Mo_init_184 : decode b_Mo_init 184 = .ok (.bipush 6, 2) := by decide +kernel
theorem d_Mo_init_186 : decode b_Mo_init 186 = .ok (.ldc 20, 2) := by decide +kernel
theorem d_Mo_init_188 : decode b_Mo_init 188 = .ok (.iastore, 1) := by decide +kernel
theorem d_Mo_init_189 : decode b_Mo_init 189 = .ok (.dup, 1) := by decide +kernel
theorem d_Mo_init_190 : decode b_Mo_init 190 = .ok (.bipush 7, 2) := by decide +kernel
theorem d_Mo_init_192 : decode b_Mo_init 192 = .ok (.ldc 20, 2) := by decide +kernel
theorem d_Mo_init_194 : decode b_Mo_init 194 = .ok (.iastore, 1) := by decide +kernel
theorem d_Mo_init_195 : decode b_Mo_init 195 = .ok (.dup, 1) := by decide +kernel
theorem d_Mo_init_196 : decode b_Mo_init 196 = .ok (.bipush 8, 2) := by decide +kernel
theorem d_Mo_init_198 : decode b_Mo_init 198 = .ok (.sipush 2000, 3) := by decide +kernel
theorem d_Mo_init_201 : decode b_Mo_init 201 = .ok (.iastore, 1) := by decide +kernel
theorem d_Mo_init_202 : decode b_Mo_init 202 = .ok (.dup, 1) := by decide +kernel
theorem d_Mo_init_203 : decode b_Mo_init 203 = .ok (.bipush 9, 2) := by decide +kernel
theorem d_Mo_init_205 : decode b_Mo_init 205 = .ok (.iconst 1, 1) := by decide +kernel
theorem d_Mo_init_206 : decode b_Mo_init 206 = .ok (.iastore, 1) := by decide +kernel
theorem d_Mo_init_207 : decode b_Mo_init 207 = .ok (.dup, 1) := by decide +kernel
theorem d_Mo_init_208 : decode b_Mo_init 208 = .ok (.bipush 10, 2) := by decide +kernel
theorem d_Mo_init_210 : decode b_Mo_init 210 = .ok (.bipush 100, 2) := by decide +kernel
theorem d_Mo_init_212 : decode b_Mo_init 212 = .ok (.iastore, 1) := by decide +kernel
theorem d_Mo_init_213 : decode b_Mo_init 213 = .ok (.dup, 1) := by decide +kernel
theorem d_Mo_init_214 : decode b_Mo_init 214 = .ok (.bipush 11, 2) := by decide +kernel
theorem d_Mo_init_216 : decode b_Mo_init 216 = .ok (.sipush 200, 3) := by decide +kernel
theorem d_Mo_init_219 : decode b_Mo_init 219 = .ok (.iastore, 1) := by decide +kernel
theorem d_Mo_init_220 : decode b_Mo_init 220 = .ok (.putfield 21, 3) := by decide +kernel
theorem d_Mo_init_223 : decode b_Mo_init 223 = .ok (.aload_n 0, 1) := by decide +kernel
theorem d_Mo_init_224 : decode b_Mo_init 224 = .ok (.bipush 10, 2) := by decide +kernel
theorem d_Mo_init_226 : decode b_Mo_init 226 = .ok (.newarray .int, 2) := by decide +kernel
theorem d_Mo_init_228 : decode b_Mo_init 228 = .ok (.putfield 24, 3) := by decide +kernel
theorem d_Mo_init_231 : decode b_Mo_init 231 = .ok (.aload_n 0, 1) := by decide +kernel
theorem d_Mo_init_232 : decode b_Mo_init 232 = .ok (.bipush 10, 2) := by decide +kernel
theorem d_Mo_init_234 : decode b_Mo_init 234 = .ok (.newarray .int, 2) := by decide +kernel
theorem d_Mo_init_236 : decode b_Mo_init 236 = .ok (.putfield 27, 3) := by decide +kernel
theorem d_Mo_init_239 : decode b_Mo_init 239 = .ok (.aload_n 0, 1) := by decide +kernel
theorem d_Mo_init_240 : decode b_Mo_init 240 = .ok (.bipush 10, 2) := by decide +kernel
theorem d_Mo_init_242 : decode b_Mo_init 242 = .ok (.newarray .int, 2) := by decide +kernel
theorem d_Mo_init_244 : decode b_Mo_init 244 = .ok (.putfield 30, 3) := by decide +kernel
theorem d_Mo_init_247 : decode b_Mo_init 247 = .ok (.aload_n 0, 1) := by decide +kernel
theorem d_Mo_init_248 : decode b_Mo_init 248 = .ok (.bipush 6, 2) := by decide +kernel
theorem d_Mo_init_250 : decode b_Mo_init 250 = .ok (.newarray .int, 2) := by decide +kernel
theorem d_Mo_init_252 : decode b_Mo_init 252 = .ok (.putfield 33, 3) := by decide +kernel
theorem d_Mo_init_255 : decode b_Mo_init 255 = .ok (.aload_n 0, 1) := by decide +kernel
theorem d_Mo_init_256 : decode b_Mo_init 256 = .ok (.bipush 16, 2) := by decide +kernel
theorem d_Mo_init_258 : decode b_Mo_init 258 = .ok (.newarray .int, 2) := by decide +kernel
theorem d_Mo_init_260 : decode b_Mo_init 260 = .ok (.putfield 36, 3) := by decide +kernel
theorem d_Mo_init_263 : decode b_Mo_init 263 = .ok (.aload_n 0, 1) := by decide +kernel
theorem d_Mo_init_264 : decode b_Mo_init 264 = .ok (.bipush 32, 2) := by decide +kernel
theorem d_Mo_init_266 : decode b_Mo_init 266 = .ok (.newarray .int, 2) := by decide +kernel
theorem d_Mo_init_268 : decode b_Mo_init 268 = .ok (.dup, 1) := by decide +kernel
theorem d_Mo_init_269 : decode b_Mo_init 269 = .ok (.iconst 0, 1) := by decide +kernel
theorem d_Mo_init_270 : decode b_Mo_init 270 = .ok (.ldc 39, 2) := by decide +kernel
theorem d_Mo_init_272 : decode b_Mo_init 272 = .ok (.iastore, 1) := by decide +kernel
theorem d_Mo_init_273 : decode b_Mo_init 273 = .ok (.dup, 1) := by decide +kernel
theorem d_Mo_init_274 : decode b_Mo_init 274 = .ok (.iconst 1, 1) := by decide +kernel
theorem d_Mo_init_275 : decode b_Mo_init 275 = .ok (.ldc 39, 2) := by decide +kernel
theorem d_Mo_init_277 : decode b_Mo_init 277 = .ok (.iastore, 1) := by decide +kernel
theorem d_Mo_init_278 : decode b_Mo_init 278 = .ok (.dup, 1) := by decide +kernel
theorem d_Mo_init_279 : decode b_Mo_init 279 = .ok (.iconst 2, 1) := by decide +kernel
theorem d_Mo_init_280 : decode b_Mo_init 280 = .ok (.ldc 39, 2) := by decide +kernel
theorem d_Mo_init_282 : decode b_Mo_init 282 = .ok (.iastore, 1) := by decide +kernel
theorem d_Mo_init_283 : decode b_Mo_init 283 = .ok (.dup, 1) := by decide +kernel
theorem d_Mo_init_284 : decode b_Mo_init 284 = .ok (.iconst 3, 1) := by decide +kernel
theorem d_Mo_init_285 : decode b_Mo_init 285 = .ok (.ldc 39, 2) := by decide +kernel
theorem d_Mo_init_287 : decode b_Mo_init 287 = .ok (.iastore, 1) := by decide +kernel
theorem d_Mo_init_288 : decode b_Mo_init 288 = .ok (.dup, 1) := by decide +kernel
theorem d_Mo_init_289 : decode b_Mo_init 289 = .ok (.iconst 4, 1) := by decide +kernel
theorem d_Mo_init_290 : decode b_Mo_init 290 = .ok (.ldc 39, 2) := by decide +kernel
theorem d_Mo_init_292 : decode b_Mo_init 292 = .ok (.iastore, 1) := by decide +kernel
theorem d_Mo_init_293 : decode b_Mo_init 293 = .ok (.dup, 1) := by decide +kernel
theorem d_Mo_init_294 : decode b_Mo_init 294 = .ok (.iconst 5, 1) := by decide +kernel
theorem d_Mo_init_295 : decode b_Mo_init 295 = .ok (.ldc 39, 2) := by decide +kernel
theorem d_Mo_init_297 : decode b_Mo_init 297 = .ok (.iastore, 1) := by decide +kernel
theorem d_Mo_init_298 : decode b_Mo_init 298 = .ok (.dup, 1) := by decide +kernel
theorem d_Mo_init_299 : decode b_Mo_init 299 = .ok (.bipush 6, 2) := by decide +kernel
theorem d_Mo_init_301 : decode b_Mo_init 301 = .ok (.ldc 39, 2) := by decide +kernel
theorem d_Mo_init_303 : decode b_Mo_init 303 = .ok (.iastore, 1) := by decide +kernel
theorem d_Mo_init_304 : decode b_Mo_init 304 = .ok (.dup, 1) := by decide +kernel
theorem d_Mo_init_305 : decode b_Mo_init 305 = .ok (.bipush 7, 2) := by decide +kernel
theorem d_Mo_init_307 : decode b_Mo_init 307 = .ok (.ldc 39, 2) := by decide +kernel
theorem d_Mo_init_309 : decode b_Mo_init 309 = .ok (.iastore, 1) := by decide +kernel
theorem d_Mo_init_310 : decode b_Mo_init 310 = .ok (.dup, 1) := by decide +kernel
theorem d_Mo_init_311 : decode b_Mo_init 311 = .ok (.bipush 8, 2) := by decide +kernel
theorem d_Mo_init_313 : decode b_Mo_init 313 = .ok (.ldc 39, 2) := by decide +kernel
theorem d_Mo_init_315 : decode b_Mo_init 315 = .ok (.iastore, 1) := by decide +kernel
theorem d_Mo_init_316 : decode b_Mo_init 316 = .ok (.dup, 1) := by decide +kernel
theorem d_Mo_init_317 : decode b_Mo_init 317 = .ok (.bipush 9, 2) := by decide +kernel
theorem d_Mo_init_319 : decode b_Mo_init 319 = .ok (.ldc 39, 2) := by decide +kernel
theorem d_Mo_init_321 : decode b_Mo_init 321 = .ok (.iastore, 1) := by decide +kernel
theorem d_Mo_init_322 : decode b_Mo_init 322 = .ok (.dup, 1) := by decide +kernel
theorem d_Mo_init_323 : decode b_Mo_init 323 = .ok (.bipush 10, 2) := by decide +kernel
theorem d_Mo_init_325 : decode b_Mo_init 325 = .ok (.ldc 39, 2) := by decide +kernel
theorem d_Mo_init_327 : decode b_Mo_init 327 = .ok (.iastore, 1) := by decide +kernel
theorem d_Mo_init_328 : decode b_Mo_init 328 = .ok (.dup, 1) := by decide +kernel
theorem d_Mo_init_329 : decode b_Mo_init 329 = .ok (.bipush 11, 2) := by decide +kernel
theorem d_Mo_init_331 : decode b_Mo_init 331 = .ok (.ldc 39, 2) := by decide +kernel
theorem d_Mo_init_333 : decode b_Mo_init 333 = .ok (.iastore, 1) := by decide +kernel
theorem d_Mo_init_334 : decode b_Mo_init 334 = .ok (.dup, 1) := by decide +kernel
theorem d_Mo_init_335 : decode b_Mo_init 335 = .ok (.bipush 12, 2) := by decide +kernel
theorem d_Mo_init_337 : decode b_Mo_init 337 = .ok (.ldc 39, 2) := by decide +kernel
theorem d_Mo_init_339 : decode b_Mo_init 339 = .ok (.iastore, 1) := by decide +kernel
theorem d_Mo_init_340 : decode b_Mo_init 340 = .ok (.dup, 1) := by decide +kernel
theorem d_Mo_init_341 : decode b_Mo_init 341 = .ok (.bipush 13, 2) := by decide +kernel
theorem d_Mo_init_343 : decode b_Mo_init 343 = .ok (.ldc 39, 2) := by decide +kernel
theorem d_Mo_init_345 : decode b_Mo_init 345 = .ok (.iastore, 1) := by decide +kernel
theorem d_Mo_init_346 : decode b_Mo_init 346 = .ok (.dup, 1) := by decide +kernel
theorem d_Mo_init_347 : decode b_Mo_init 347 = .ok (.bipush 14, 2) := by decide +kernel
theorem d_Mo_init_349 : decode b_Mo_init 349 = .ok (.ldc 39, 2) := by decide +kernel
theorem d_Mo_init_351 : decode b_Mo_init 351 = .ok (.iastore, 1) := by decide +kernel
theorem d_Mo_init_352 : decode b_Mo_init 352 = .ok (.dup, 1) := by decide +kernel
theorem d_Mo_init_353 : decode b_Mo_init 353 = .ok (.bipush 15, 2) := by decide +kernel
theorem d_Mo_init_355 : decode b_Mo_init 355 = .ok (.ldc 39, 2) := by decide +kernel
theorem d_Mo_init_357 : decode b_Mo_init 357 = .ok (.iastore, 1) := by decide +kernel
theorem d_Mo_init_358 : decode b_Mo_init 358 = .ok (.dup, 1) := by decide +kernel
theorem d_Mo_init_359 : decode b_Mo_init 359 = .ok (.bipush 16, 2) := by decide +kernel
theorem d_Mo_init_361 : decode b_Mo_init 361 = .ok (.ldc 39, 2) := by decide +kernel
theorem d_Mo_init_363 : decode b_Mo_init 363 = .ok (.iastore, 1) := by decide +kernel
theorem d_Mo_init_364 : decode b_Mo_init 364 = .ok (.dup, 1) := by decide +kernel
theorem d_Mo_init_365 : decode b_Mo_init 365 = .ok (.bipush 17, 2) := by decide +kernel
theorem d_Mo_init_367 : decode b_Mo_init 367 = .ok (.ldc 39, 2) := by decide +kernel
theorem d_Mo_init_369 : decode b_Mo_init 369 = .ok (.iastore, 1) := by decide +kernel
theorem d_Mo_init_370 : decode b_Mo_init 370 = .ok (.dup, 1) := by decide +kernel
theorem d_Mo_init_371 : decode b_Mo_init 371 = .ok (.bipush 18, 2) := by decide +kernel
theorem d_Mo_init_373 : decode b_Mo_init 373 = .ok (.ldc 39, 2) := by decide +kernel
theorem d_Mo_init_375 : decode b_Mo_init 375 = .ok (.iastore, 1) := by decide +kernel
theorem d_Mo_init_376 : decode b_Mo_init 376 = .ok (.dup, 1) := by decide +kernel
theorem d_Mo_init_377 : decode b_Mo_init 377 = .ok (.bipush 19, 2) := by decide +kernel
theorem d_Mo_init_379 : decode b_Mo_init 379 = .ok (.ldc 39, 2) := by decide +kernel
theorem d_Mo_init_381 : decode b_Mo_init 381 = .ok (.iastore, 1) := by decide +kernel
theorem d_Mo_init_382 : decode b_Mo_init 382 = .ok (.dup, 1) := by decide +kernel
theorem d_Mo_init_383 : decode b_Mo_init 383 = .ok (.bipush 20, 2) := by decide +kernel
theorem d_Mo_init_385 : decode b_Mo_init 385 = .ok (.ldc 39, 2) := by decide +kernel
theorem d_Mo_init_387 : decode b_Mo_init 387 = .ok (.iastore, 1) := by decide +kernel
theorem d_Mo_init_388 : decode b_Mo_init 388 = .ok (.dup, 1) := by decide +kernel
theorem d_Mo_init_389 : decode b_Mo_init 389 = .ok (.bipush 21, 2) := by decide +kernel
theorem d_Mo_init_391 : decode b_Mo_init 391 = .ok (.ldc 39, 2) := by decide +kernel
theorem d_Mo_init_393 : decode b_Mo_init 393 = .ok (.iastore, 1) := by decide +kernel
theorem d_Mo_init_394 : decode b_Mo_init 394 = .ok (.dup, 1) := by decide +kernel
theorem d_Mo_init_395 : decode b_Mo_init 395 = .ok (.bipush 22, 2) := by decide +kernel
theorem d_Mo_init_397 : decode b_Mo_init 397 = .ok (.ldc 39, 2) := by decide +kernel
theorem d_Mo_init_399 : decode b_Mo_init 399 = .ok (.iastore, 1) := by decide +kernel
theorem d_Mo_init_400 : decode b_Mo_init 400 = .ok (.dup, 1) := by decide +kernel
theorem d_Mo_init_401 : decode b_Mo_init 401 = .ok (.bipush 23, 2) := by decide +kernel
theorem d_Mo_init_403 : decode b_Mo_init 403 = .ok (.ldc 39, 2) := by decide +kernel
theorem d_Mo_init_405 : decode b_Mo_init 405 = .ok (.iastore, 1) := by decide +kernel
theorem d_Mo_init_406 : decode b_Mo_init 406 = .ok (.dup, 1) := by decide +kernel
theorem d_Mo_init_407 : decode b_Mo_init 407 = .ok (.bipush 24, 2) := by decide +kernel
theorem d_Mo_init_409 : decode b_Mo_init 409 = .ok (.ldc 39, 2) := by decide +kernel
theorem d_Mo_init_411 : decode b_Mo_init 411 = .ok (.iastore, 1) := by decide +kernel
theorem d_Mo_init_412 : decode b_Mo_init 412 = .ok (.dup, 1) := by decide +kernel
theorem d_Mo_init_413 : decode b_Mo_init 413 = .ok (.bipush 25, 2) := by decide +kernel
theorem d_Mo_init_415 : decode b_Mo_init 415 = .ok (.ldc 39, 2) := by decide +kernel
theorem d_Mo_init_417 : decode b_Mo_init 417 = .ok (.iastore, 1) := by decide +kernel
theorem d_Mo_init_418 : decode b_Mo_init 418 = .ok (.dup, 1) := by decide +kernel
theorem d_Mo_init_419 : decode b_Mo_init 419 = .ok (.bipush 26, 2) := by decide +kernel
theorem d_Mo_init_421 : decode b_Mo_init 421 = .ok (.ldc 39, 2) := by decide +kernel
theorem d_Mo_init_423 : decode b_Mo_init 423 = .ok (.iastore, 1) := by decide +kernel
theorem d_Mo_init_424 : decode b_Mo_init 424 = .ok (.dup, 1) := by decide +kernel
theorem d_Mo_init_425 : decode b_Mo_init 425 = .ok (.bipush 27, 2) := by decide +kernel
theorem d_Mo_init_427 : decode b_Mo_init 427 = .ok (.ldc 39, 2) := by decide +kernel
theorem d_Mo_init_429 : decode b_Mo_init 429 = .ok (.iastore, 1) := by decide +kernel
theorem d_Mo_init_430 : decode b_Mo_init 430 = .ok (.dup, 1) := by decide +kernel
theorem d_Mo_init_431 : decode b_Mo_init 431 = .ok (.bipush 28, 2) := by decide +kernel
theorem d_Mo_init_433 : decode b_Mo_init 433 = .ok (.ldc 39, 2) := by decide +kernel
theorem d_Mo_init_435 : decode b_Mo_init 435 = .ok (.iastore, 1) := by decide +kernel
theorem d_Mo_init_436 : decode b_Mo_init 436 = .ok (.dup, 1) := by decide +kernel
theorem d_Mo_init_437 : decode b_Mo_init 437 = .ok (.bipush 29, 2) := by decide +kernel
theorem d_Mo_init_439 : decode b_Mo_init 439 = .ok (.ldc 39, 2) := by decide +kernel
theorem d_Mo_init_441 : decode b_Mo_init 441 = .ok (.iastore, 1) := by decide +kernel
theorem d_Mo_init_442 : decode b_Mo_init 442 = .ok (.dup, 1) := by decide +kernel
theorem d_Mo_init_443 : decode b_Mo_init 443 = .ok (.bipush 30, 2) := by decide +kernel
theorem d_Mo_init_445 : decode b_Mo_init 445 = .ok (.ldc 39, 2) := by decide +kernel
theorem d_Mo_init_447 : decode b_Mo_init 447 = .ok (.iastore, 1) := by decide +kernel
theorem d_Mo_init_448 : decode b_Mo_init 448 = .ok (.dup, 1) := by decide +kernel
theorem d_Mo_init_449 : decode b_Mo_init 449 = .ok (.bipush 31, 2) := by decide +kernel
theorem d_Mo_init_451 : decode b_Mo_init 451 = .ok (.ldc 39, 2) := by decide +kernel
theorem d_Mo_init_453 : decode b_Mo_init 453 = .ok (.iastore, 1) := by decide +kernel
theorem d_Mo_init_454 : decode b_Mo_init 454 = .ok (.putfield 40, 3) := by decide +kernel
theorem d_Mo_init_457 : decode b_Mo_init 457 = .ok (.aload_n 0, 1) := by decide +kernel
theorem d_Mo_init_458 : decode b_Mo_init 458 = .ok (.bipush 16, 2) := by decide +kernel
theorem d_Mo_init_460 : decode b_Mo_init 460 = .ok (.newarray .int, 2) := by decide +kernel
theorem d_Mo_init_462 : decode b_Mo_init 462 = .ok (.putfield 43, 3) := by decide +kernel
theorem d_Mo_init_465 : decode b_Mo_init 465 = .ok (.aload_n 0, 1) := by decide +kernel
theorem d_Mo_init_466 : decode b_Mo_init 466 = .ok (.bipush 16, 2) := by decide +kernel
theorem d_Mo_init_468 : decode b_Mo_init 468 = .ok (.newarray .int, 2) := by decide +kernel
theorem d_Mo_init_470 : decode b_Mo_init 470 = .ok (.putfield 46, 3) := by decide +kernel
theorem d_Mo_init_473 : decode b_Mo_init 473 = .ok (.return_, 1) := by decide +kernel
theorem d_Mo_thrown_0 : decode b_Mo_thrown 0 = .ok (.aload_n 0, 1) := by decide +kernel
theorem d_Mo_thrown_1 : decode b_Mo_thrown 1 = .ok (.getfield 49, 3) := by decide +kernel
theorem d_Mo_thrown_4 : decode b_Mo_thrown 4 = .ok (.ireturn, 1) := by decide +kernel
theorem d_Mo_set_0 : decode b_Mo_set 0 = .ok (.aload_n 0, 1) := by decide +kernel
theorem d_Mo_set_1 : decode b_Mo_set 1 = .ok (.iconst 0, 1) := by decide +kernel
theorem d_Mo_set_2 : decode b_Mo_set 2 = .ok (.putfield 49, 3) := by decide +kernel
theorem d_Mo_set_5 : decode b_Mo_set 5 = .ok (.iload_n 1, 1) := by decide +kernel
theorem d_Mo_set_6 : decode b_Mo_set 6 = .ok (.iconst 0, 1) := by decide +kernel
theorem d_Mo_set_7 : decode b_Mo_set 7 = .ok (.bipush 11, 2) := by decide +kernel
theorem d_Mo_set_9 : decode b_Mo_set 9 = .ok (.invokestatic 59, 3) := by decide +kernel
theorem d_Mo_set_12 : decode b_Mo_set 12 = .ok (.ifCond .ne 9, 3) := by decide +kernel
theorem d_Mo_set_15 : decode b_Mo_set 15 = .ok (.aload_n 0, 1) := by decide +kernel
theorem d_Mo_set_16 : decode b_Mo_set 16 = .ok (.iconst 1, 1) := by decide +kernel
theorem d_Mo_set_17 : decode b_Mo_set 17 = .ok (.invokevirtual 63, 3) := by decide +kernel
theorem d_Mo_set_20 : decode b_Mo_set 20 = .ok (.ireturn, 1) := by decide +kernel
theorem d_Mo_set_21 : decode b_Mo_set 21 = .ok (.iload_n 2, 1) := by decide +kernel
theorem d_Mo_set_22 : decode b_Mo_set 22 = .ok (.aload_n 0, 1) := by decide +kernel
theorem d_Mo_set_23 : decode b_Mo_set 23 = .ok (.getfield 17, 3) := by decide +kernel
theorem d_Mo_set_26 : decode b_Mo_set 26 = .ok (.iload_n 1, 1) := by decide +kernel
theorem d_Mo_set_27 : decode b_Mo_set 27 = .ok (.iaload, 1) := by decide +kernel
theorem d_Mo_set_28 : decode b_Mo_set 28 = .ok (.aload_n 0, 1) := by decide +kernel
theorem d_Mo_set_29 : decode b_Mo_set 29 = .ok (.getfield 21, 3) := by decide +kernel
theorem d_Mo_set_32 : decode b_Mo_set 32 = .ok (.iload_n 1, 1) := by decide +kernel
theorem d_Mo_set_33 : decode b_Mo_set 33 = .ok (.iaload, 1) := by decide +kernel
theorem d_Mo_set_34 : decode b_Mo_set 34 = .ok (.invokestatic 59, 3) := by decide +kernel
theorem d_Mo_set_37 : decode b_Mo_set 37 = .ok (.ifCond .ne 9, 3) := by decide +kernel
theorem d_Mo_set_40 : decode b_Mo_set 40 = .ok (.aload_n 0, 1) := by decide +kernel
theorem d_Mo_set_41 : decode b_Mo_set 41 = .ok (.iconst 2, 1) := by decide +kernel
theorem d_Mo_set_42 : decode b_Mo_set 42 = .ok (.invokevirtual 63, 3) := by decide +kernel
theorem d_Mo_set_45 : decode b_Mo_set 45 = .ok (.ireturn, 1) := by decide +kernel
theorem d_Mo_set_46 : decode b_Mo_set 46 = .ok (.aload_n 0, 1) := by decide +kernel
theorem d_Mo_set_47 : decode b_Mo_set 47 = .ok (.getfield 67, 3) := by decide +kernel
theorem d_Mo_set_50 : decode b_Mo_set 50 = .ok (.ifCond .eq 9, 3) := by decide +kernel
theorem d_Mo_set_53 : decode b_Mo_set 53 = .ok (.aload_n 0, 1) := by decide +kernel
theorem d_Mo_set_54 : decode b_Mo_set 54 = .ok (.iconst 3, 1) := by decide +kernel
theorem d_Mo_set_55 : decode b_Mo_set 55 = .ok (.invokevirtual 63, 3) := by decide +kernel
theorem d_Mo_set_58 : decode b_Mo_set 58 = .ok (.ireturn, 1) := by decide +kernel
theorem d_Mo_set_59 : decode b_Mo_set 59 = .ok (.aload_n 0, 1) := by decide +kernel
theorem d_Mo_set_60 : decode b_Mo_set 60 = .ok (.getfield 10, 3) := by decide +kernel
theorem d_Mo_set_63 : decode b_Mo_set 63 = .ok (.iload_n 1, 1) := by decide +kernel
theorem d_Mo_set_64 : decode b_Mo_set 64 = .ok (.iaload, 1) := by decide +kernel
theorem d_Mo_set_65 : decode b_Mo_set 65 = .ok (.istore_n 3, 1) := by decide +kernel
theorem d_Mo_set_66 : decode b_Mo_set 66 = .ok (.aload_n 0, 1) := by decide +kernel
theorem d_Mo_set_67 : decode b_Mo_set 67 = .ok (.getfield 10, 3) := by decide +kernel
theorem d_Mo_set_70 : decode b_Mo_set 70 = .ok (.iload_n 1, 1) := by decide +kernel
theorem d_Mo_set_71 : decode b_Mo_set 71 = .ok (.iload_n 2, 1) := by decide +kernel
theorem d_Mo_set_72 : decode b_Mo_set 72 = .ok (.iastore, 1) := by decide +kernel
theorem d_Mo_set_73 : decode b_Mo_set 73 = .ok (.aload_n 0, 1) := by decide +kernel
theorem d_Mo_set_74 : decode b_Mo_set 74 = .ok (.iconst 0, 1) := by decide +kernel
theorem d_Mo_set_75 : decode b_Mo_set 75 = .ok (.putfield 71, 3) := by decide +kernel
theorem d_Mo_set_78 : decode b_Mo_set 78 = .ok (.iload_n 3, 1) := by decide +kernel
theorem d_Mo_set_79 : decode b_Mo_set 79 = .ok (.ireturn, 1) := by decide +kernel
theorem d_Mo_within_0 : decode b_Mo_within 0 = .ok (.iload_n 0, 1) := by decide +kernel
theorem d_Mo_within_1 : decode b_Mo_within 1 = .ok (.iload_n 1, 1) := by decide +kernel
theorem d_Mo_within_2 : decode b_Mo_within 2 = .ok (.if_icmp .lt 12, 3) := by decide +kernel
theorem d_Mo_within_5 : decode b_Mo_within 5 = .ok (.iload_n 0, 1) := by decide +kernel
theorem d_Mo_within_6 : decode b_Mo_within 6 = .ok (.iload_n 2, 1) := by decide +kernel
theorem d_Mo_within_7 : decode b_Mo_within 7 = .ok (.if_icmp .gt 7, 3) := by decide +kernel
theorem d_Mo_within_10 : decode b_Mo_within 10 = .ok (.iconst 1, 1) := by decide +kernel
theorem d_Mo_within_11 : decode b_Mo_within 11 = .ok (.goto 4, 3) := by decide +kernel
theorem d_Mo_within_14 : decode b_Mo_within 14 = .ok (.iconst 0, 1) := by decide +kernel
theorem d_Mo_within_15 : decode b_Mo_within 15 = .ok (.ireturn, 1) := by decide +kernel
theorem d_Mo_fail_0 : decode b_Mo_fail 0 = .ok (.aload_n 0, 1) := by decide +kernel
theorem d_Mo_fail_1 : decode b_Mo_fail 1 = .ok (.iload_n 1, 1) := by decide +kernel
theorem d_Mo_fail_2 : decode b_Mo_fail 2 = .ok (.putfield 49, 3) := by decide +kernel
theorem d_Mo_fail_5 : decode b_Mo_fail 5 = .ok (.iconst 0, 1) := by decide +kernel
theorem d_Mo_fail_6 : decode b_Mo_fail 6 = .ok (.ireturn, 1) := by decide +kernel
theorem d_Mo_curve_0 : decode b_Mo_curve 0 = .ok (.aload_n 0, 1) := by decide +kernel
theorem d_Mo_curve_1 : decode b_Mo_curve 1 = .ok (.iconst 0, 1) := by decide +kernel
theorem d_Mo_curve_2 : decode b_Mo_curve 2 = .ok (.putfield 49, 3) := by decide +kernel
theorem d_Mo_curve_5 : decode b_Mo_curve 5 = .ok (.iload_n 1, 1) := by decide +kernel
theorem d_Mo_curve_6 : decode b_Mo_curve 6 = .ok (.iconst 0, 1) := by decide +kernel
theorem d_Mo_curve_7 : decode b_Mo_curve 7 = .ok (.iconst 5, 1) := by decide +kernel
theorem d_Mo_curve_8 : decode b_Mo_curve 8 = .ok (.invokestatic 59, 3) := by decide +kernel
theorem d_Mo_curve_11 : decode b_Mo_curve 11 = .ok (.ifCond .ne 9, 3) := by decide +kernel
theorem d_Mo_curve_14 : decode b_Mo_curve 14 = .ok (.aload_n 0, 1) := by decide +kernel
theorem d_Mo_curve_15 : decode b_Mo_curve 15 = .ok (.iconst 1, 1) := by decide +kernel
theorem d_Mo_curve_16 : decode b_Mo_curve 16 = .ok (.putfield 49, 3) := by decide +kernel
theorem d_Mo_curve_19 : decode b_Mo_curve 19 = .ok (.return_, 1) := by decide +kernel
theorem d_Mo_curve_20 : decode b_Mo_curve 20 = .ok (.aload_n 0, 1) := by decide +kernel
theorem d_Mo_curve_21 : decode b_Mo_curve 21 = .ok (.iload_n 1, 1) := by decide +kernel
theorem d_Mo_curve_22 : decode b_Mo_curve 22 = .ok (.iload_n 2, 1) := by decide +kernel
theorem d_Mo_curve_23 : decode b_Mo_curve 23 = .ok (.iload_n 3, 1) := by decide +kernel
theorem d_Mo_curve_24 : decode b_Mo_curve 24 = .ok (.iload 4, 2) := by decide +kernel
theorem d_Mo_curve_26 : decode b_Mo_curve 26 = .ok (.invokevirtual 75, 3) := by decide +kernel
theorem d_Mo_curve_29 : decode b_Mo_curve 29 = .ok (.aload_n 0, 1) := by decide +kernel
theorem d_Mo_curve_30 : decode b_Mo_curve 30 = .ok (.getfield 49, 3) := by decide +kernel
theorem d_Mo_curve_33 : decode b_Mo_curve 33 = .ok (.ifCond .ne 10, 3) := by decide +kernel
theorem d_Mo_curve_36 : decode b_Mo_curve 36 = .ok (.aload_n 0, 1) := by decide +kernel
theorem d_Mo_curve_37 : decode b_Mo_curve 37 = .ok (.getfield 33, 3) := by decide +kernel
theorem d_Mo_curve_40 : decode b_Mo_curve 40 = .ok (.iload_n 1, 1) := by decide +kernel
theorem d_Mo_curve_41 : decode b_Mo_curve 41 = .ok (.iconst 0, 1) := by decide +kernel
theorem d_Mo_curve_42 : decode b_Mo_curve 42 = .ok (.iastore, 1) := by decide +kernel
theorem d_Mo_curve_43 : decode b_Mo_curve 43 = .ok (.return_, 1) := by decide +kernel
theorem d_Mo_place_0 : decode b_Mo_place 0 = .ok (.iload_n 2, 1) := by decide +kernel
theorem d_Mo_place_1 : decode b_Mo_place 1 = .ok (.iconst 0, 1) := by decide +kernel
theorem d_Mo_place_2 : decode b_Mo_place 2 = .ok (.iconst 4, 1) := by decide +kernel
theorem d_Mo_place_3 : decode b_Mo_place 3 = .ok (.invokestatic 59, 3) := by decide +kernel
theorem d_Mo_place_6 : decode b_Mo_place 6 = .ok (.ifCond .eq 25, 3) := by decide +kernel
theorem d_Mo_place_9 : decode b_Mo_place 9 = .ok (.iload_n 3, 1) := by decide +kernel
theorem d_Mo_place_10 : decode b_Mo_place 10 = .ok (.iconst 0, 1) := by decide +kernel
theorem d_Mo_place_11 : decode b_Mo_place 11 = .ok (.ldc 74, 2) := by decide +kernel
theorem d_Mo_place_13 : decode b_Mo_place 13 = .ok (.invokestatic 59, 3) := by decide +kernel
theorem d_Mo_place_16 : decode b_Mo_place 16 = .ok (.ifCond .eq 15, 3) := by decide +kernel
theorem d_Mo_place_19 : decode b_Mo_place 19 = .ok (.iload 4, 2) := by decide +kernel
theorem d_Mo_place_21 : decode b_Mo_place 21 = .ok (.iconst 1, 1) := by decide +kernel
theorem d_Mo_place_22 : decode b_Mo_place 22 = .ok (.sipush 1000, 3) := by decide +kernel
theorem d_Mo_place_25 : decode b_Mo_place 25 = .ok (.invokestatic 59, 3) := by decide +kernel
theorem d_Mo_place_28 : decode b_Mo_place 28 = .ok (.ifCond .ne 11, 3) := by decide +kernel
theorem d_Mo_place_31 : decode b_Mo_place 31 = .ok (.aload_n 0, 1) := by decide +kernel
theorem d_Mo_place_32 : decode b_Mo_place 32 = .ok (.iconst 2, 1) := by decide +kernel
theorem d_Mo_place_33 : decode b_Mo_place 33 = .ok (.putfield 49, 3) := by decide +kernel
theorem d_Mo_place_36 : decode b_Mo_place 36 = .ok (.goto 45, 3) := by decide +kernel
theorem d_Mo_place_39 : decode b_Mo_place 39 = .ok (.aload_n 0, 1) := by decide +kernel
theorem d_Mo_place_40 : decode b_Mo_place 40 = .ok (.getfield 67, 3) := by decide +kernel
theorem d_Mo_place_43 : decode b_Mo_place 43 = .ok (.ifCond .eq 11, 3) := by decide +kernel
theorem d_Mo_place_46 : decode b_Mo_place 46 = .ok (.aload_n 0, 1) := by decide +kernel
theorem d_Mo_place_47 : decode b_Mo_place 47 = .ok (.iconst 3, 1) := by decide +kernel
theorem d_Mo_place_48 : decode b_Mo_place 48 = .ok (.putfield 49, 3) := by decide +kernel
theorem d_Mo_place_51 : decode b_Mo_place 51 = .ok (.goto 30, 3) := by decide +kernel
theorem d_Mo_place_54 : decode b_Mo_place 54 = .ok (.aload_n 0, 1) := by decide +kernel
theorem d_Mo_place_55 : decode b_Mo_place 55 = .ok (.getfield 24, 3) := by decide +kernel
theorem d_Mo_place_58 : decode b_Mo_place 58 = .ok (.iload_n 1, 1) := by decide +kernel
theorem d_Mo_place_59 : decode b_Mo_place 59 = .ok (.iload_n 2, 1) := by decide +kernel
theorem d_Mo_place_60 : decode b_Mo_place 60 = .ok (.iastore, 1) := by decide +kernel
theorem d_Mo_place_61 : decode b_Mo_place 61 = .ok (.aload_n 0, 1) := by decide +kernel
theorem d_Mo_place_62 : decode b_Mo_place 62 = .ok (.getfield 27, 3) := by decide +kernel
theorem d_Mo_place_65 : decode b_Mo_place 65 = .ok (.iload_n 1, 1) := by decide +kernel
theorem d_Mo_place_66 : decode b_Mo_place 66 = .ok (.iload_n 3, 1) := by decide +kernel
theorem d_Mo_place_67 : decode b_Mo_place 67 = .ok (.iastore, 1) := by decide +kernel
theorem d_Mo_place_68 : decode b_Mo_place 68 = .ok (.aload_n 0, 1) := by decide +kernel
theorem d_Mo_place_69 : decode b_Mo_place 69 = .ok (.getfield 30, 3) := by decide +kernel
theorem d_Mo_place_72 : decode b_Mo_place 72 = .ok (.iload_n 1, 1) := by decide +kernel
theorem d_Mo_place_73 : decode b_Mo_place 73 = .ok (.iload 4, 2) := by decide +kernel
theorem d_Mo_place_75 : decode b_Mo_place 75 = .ok (.iastore, 1) := by decide +kernel
theorem d_Mo_place_76 : decode b_Mo_place 76 = .ok (.aload_n 0, 1) := by decide +kernel
theorem d_Mo_place_77 : decode b_Mo_place 77 = .ok (.iconst 0, 1) := by decide +kernel
theorem d_Mo_place_78 : decode b_Mo_place 78 = .ok (.putfield 71, 3) := by decide +kernel
theorem d_Mo_place_81 : decode b_Mo_place 81 = .ok (.return_, 1) := by decide +kernel
theorem d_Mo_stay_0 : decode b_Mo_stay 0 = .ok (.aload_n 0, 1) := by decide +kernel
theorem d_Mo_stay_1 : decode b_Mo_stay 1 = .ok (.iconst 0, 1) := by decide +kernel
theorem d_Mo_stay_2 : decode b_Mo_stay 2 = .ok (.putfield 49, 3) := by decide +kernel
theorem d_Mo_stay_5 : decode b_Mo_stay 5 = .ok (.iload_n 1, 1) := by decide +kernel
theorem d_Mo_stay_6 : decode b_Mo_stay 6 = .ok (.iconst 0, 1) := by decide +kernel
theorem d_Mo_stay_7 : decode b_Mo_stay 7 = .ok (.iconst 3, 1) := by decide +kernel
theorem d_Mo_stay_8 : decode b_Mo_stay 8 = .ok (.invokestatic 59, 3) := by decide +kernel
theorem d_Mo_stay_11 : decode b_Mo_stay 11 = .ok (.ifCond .ne 9, 3) := by decide +kernel
theorem d_Mo_stay_14 : decode b_Mo_stay 14 = .ok (.aload_n 0, 1) := by decide +kernel
theorem d_Mo_stay_15 : decode b_Mo_stay 15 = .ok (.iconst 1, 1) := by decide +kernel
theorem d_Mo_stay_16 : decode b_Mo_stay 16 = .ok (.putfield 49, 3) := by decide +kernel
theorem d_Mo_stay_19 : decode b_Mo_stay 19 = .ok (.return_, 1) := by decide +kernel
theorem d_Mo_stay_20 : decode b_Mo_stay 20 = .ok (.aload_n 0, 1) := by decide +kernel
theorem d_Mo_stay_21 : decode b_Mo_stay 21 = .ok (.bipush 6, 2) := by decide +kernel
theorem d_Mo_stay_23 : decode b_Mo_stay 23 = .ok (.iload_n 1, 1) := by decide +kernel
theorem d_Mo_stay_24 : decode b_Mo_stay 24 = .ok (.iadd, 1) := by decide +kernel
theorem d_Mo_stay_25 : decode b_Mo_stay 25 = .ok (.iload_n 2, 1) := by decide +kernel
theorem d_Mo_stay_26 : decode b_Mo_stay 26 = .ok (.iload_n 3, 1) := by decide +kernel
theorem d_Mo_stay_27 : decode b_Mo_stay 27 = .ok (.iload 4, 2) := by decide +kernel
theorem d_Mo_stay_29 : decode b_Mo_stay 29 = .ok (.invokevirtual 75, 3) := by decide +kernel
theorem d_Mo_stay_32 : decode b_Mo_stay 32 = .ok (.return_, 1) := by decide +kernel
theorem d_Mo_check_0 : decode b_Mo_check 0 = .ok (.aload_n 0, 1) := by decide +kernel
theorem d_Mo_check_1 : decode b_Mo_check 1 = .ok (.iconst 0, 1) := by decide +kernel
theorem d_Mo_check_2 : decode b_Mo_check 2 = .ok (.putfield 49, 3) := by decide +kernel
theorem d_Mo_check_5 : decode b_Mo_check 5 = .ok (.aload_n 0, 1) := by decide +kernel
theorem d_Mo_check_6 : decode b_Mo_check 6 = .ok (.invokevirtual 83, 3) := by decide +kernel
theorem d_Mo_check_9 : decode b_Mo_check 9 = .ok (.istore_n 1, 1) := by decide +kernel
theorem d_Mo_check_10 : decode b_Mo_check 10 = .ok (.aload_n 0, 1) := by decide +kernel
theorem d_Mo_check_11 : decode b_Mo_check 11 = .ok (.iload_n 1, 1) := by decide +kernel
theorem d_Mo_check_12 : decode b_Mo_check 12 = .ok (.ifCond .ge 7, 3) := by decide +kernel
theorem d_Mo_check_15 : decode b_Mo_check 15 = .ok (.iconst 1, 1) := by decide +kernel
theorem d_Mo_check_16 : decode b_Mo_check 16 = .ok (.goto 4, 3) := by decide +kernel
theorem d_Mo_check_19 : decode b_Mo_check 19 = .ok (.iconst 0, 1) := by decide +kernel
theorem d_Mo_check_20 : decode b_Mo_check 20 = .ok (.putfield 71, 3) := by decide +kernel
theorem d_Mo_check_23 : decode b_Mo_check 23 = .ok (.iload_n 1, 1) := by decide +kernel
theorem d_Mo_check_24 : decode b_Mo_check 24 = .ok (.ireturn, 1) := by decide +kernel
theorem d_Mo_wrong_0 : decode b_Mo_wrong 0 = .ok (.aload_n 0, 1) := by decide +kernel
theorem d_Mo_wrong_1 : decode b_Mo_wrong 1 = .ok (.getfield 10, 3) := by decide +kernel
theorem d_Mo_wrong_4 : decode b_Mo_wrong 4 = .ok (.iconst 3, 1) := by decide +kernel
theorem d_Mo_wrong_5 : decode b_Mo_wrong 5 = .ok (.iaload, 1) := by decide +kernel
theorem d_Mo_wrong_6 : decode b_Mo_wrong 6 = .ok (.aload_n 0, 1) := by decide +kernel
theorem d_Mo_wrong_7 : decode b_Mo_wrong 7 = .ok (.getfield 10, 3) := by decide +kernel
theorem d_Mo_wrong_10 : decode b_Mo_wrong 10 = .ok (.iconst 4, 1) := by decide +kernel
theorem d_Mo_wrong_11 : decode b_Mo_wrong 11 = .ok (.iaload, 1) := by decide +kernel
theorem d_Mo_wrong_12 : decode b_Mo_wrong 12 = .ok (.if_icmp .le 5, 3) := by decide +kernel
theorem d_Mo_wrong_15 : decode b_Mo_wrong 15 = .ok (.iconst 3, 1) := by decide +kernel
theorem d_Mo_wrong_16 : decode b_Mo_wrong 16 = .ok (.ireturn, 1) := by decide +kernel
theorem d_Mo_wrong_17 : decode b_Mo_wrong 17 = .ok (.aload_n 0, 1) := by decide +kernel
theorem d_Mo_wrong_18 : decode b_Mo_wrong 18 = .ok (.getfield 10, 3) := by decide +kernel
theorem d_Mo_wrong_21 : decode b_Mo_wrong 21 = .ok (.iconst 5, 1) := by decide +kernel
theorem d_Mo_wrong_22 : decode b_Mo_wrong 22 = .ok (.iaload, 1) := by decide +kernel
theorem d_Mo_wrong_23 : decode b_Mo_wrong 23 = .ok (.aload_n 0, 1) := by decide +kernel
theorem d_Mo_wrong_24 : decode b_Mo_wrong 24 = .ok (.getfield 10, 3) := by decide +kernel
theorem d_Mo_wrong_27 : decode b_Mo_wrong 27 = .ok (.bipush 6, 2) := by decide +kernel
theorem d_Mo_wrong_29 : decode b_Mo_wrong 29 = .ok (.iaload, 1) := by decide +kernel
theorem d_Mo_wrong_30 : decode b_Mo_wrong 30 = .ok (.if_icmp .le 5, 3) := by decide +kernel
theorem d_Mo_wrong_33 : decode b_Mo_wrong 33 = .ok (.iconst 5, 1) := by decide +kernel
theorem d_Mo_wrong_34 : decode b_Mo_wrong 34 = .ok (.ireturn, 1) := by decide +kernel
theorem d_Mo_wrong_35 : decode b_Mo_wrong 35 = .ok (.iconst 0, 1) := by decide +kernel
theorem d_Mo_wrong_36 : decode b_Mo_wrong 36 = .ok (.istore_n 1, 1) := by decide +kernel
theorem d_Mo_wrong_37 : decode b_Mo_wrong 37 = .ok (.iload_n 1, 1) := by decide +kernel
theorem d_Mo_wrong_38 : decode b_Mo_wrong 38 = .ok (.bipush 6, 2) := by decide +kernel
theorem d_Mo_wrong_40 : decode b_Mo_wrong 40 = .ok (.if_icmp .ge 38, 3) := by decide +kernel
theorem d_Mo_wrong_43 : decode b_Mo_wrong 43 = .ok (.bipush 6, 2) := by decide +kernel
theorem d_Mo_wrong_45 : decode b_Mo_wrong 45 = .ok (.istore_n 2, 1) := by decide +kernel
theorem d_Mo_wrong_46 : decode b_Mo_wrong 46 = .ok (.iload_n 2, 1) := by decide +kernel
theorem d_Mo_wrong_47 : decode b_Mo_wrong 47 = .ok (.bipush 10, 2) := by decide +kernel
theorem d_Mo_wrong_49 : decode b_Mo_wrong 49 = .ok (.if_icmp .ge 23, 3) := by decide +kernel
theorem d_Mo_wrong_52 : decode b_Mo_wrong 52 = .ok (.aload_n 0, 1) := by decide +kernel
theorem d_Mo_wrong_53 : decode b_Mo_wrong 53 = .ok (.iload_n 1, 1) := by decide +kernel
theorem d_Mo_wrong_54 : decode b_Mo_wrong 54 = .ok (.iload_n 2, 1) := by decide +kernel
theorem d_Mo_wrong_55 : decode b_Mo_wrong 55 = .ok (.invokevirtual 79, 3) := by decide +kernel
theorem d_Mo_wrong_58 : decode b_Mo_wrong 58 = .ok (.ifCond .eq 8, 3) := by decide +kernel
theorem d_Mo_wrong_61 : decode b_Mo_wrong 61 = .ok (.bipush 100, 2) := by decide +kernel
theorem d_Mo_wrong_63 : decode b_Mo_wrong 63 = .ok (.iload_n 1, 1) := by decide +kernel
theorem d_Mo_wrong_64 : decode b_Mo_wrong 64 = .ok (.iadd, 1) := by decide +kernel
theorem d_Mo_wrong_65 : decode b_Mo_wrong 65 = .ok (.ireturn, 1) := by decide +kernel
theorem d_Mo_wrong_66 : decode b_Mo_wrong 66 = .ok (.iinc 2 1, 3) := by decide +kernel
theorem d_Mo_wrong_69 : decode b_Mo_wrong 69 = .ok (.goto (-23), 3) := by decide +kernel
theorem d_Mo_wrong_72 : decode b_Mo_wrong 72 = .ok (.iinc 1 1, 3) := by decide +kernel
theorem d_Mo_wrong_75 : decode b_Mo_wrong 75 = .ok (.goto (-38), 3) := by decide +kernel
theorem d_Mo_wrong_78 : decode b_Mo_wrong 78 = .ok (.iconst (-1), 1) := by decide +kernel
theorem d_Mo_wrong_79 : decode b_Mo_wrong 79 = .ok (.ireturn, 1) := by decide +kernel
theorem d_Mo_cuts_0 : decode b_Mo_cuts 0 = .ok (.aload_n 0, 1) := by decide +kernel
theorem d_Mo_cuts_1 : decode b_Mo_cuts 1 = .ok (.getfield 24, 3) := by decide +kernel
theorem d_Mo_cuts_4 : decode b_Mo_cuts 4 = .ok (.iload_n 1, 1) := by decide +kernel
theorem d_Mo_cuts_5 : decode b_Mo_cuts 5 = .ok (.iaload, 1) := by decide +kernel
theorem d_Mo_cuts_6 : decode b_Mo_cuts 6 = .ok (.ifCond .le 37, 3) := by decide +kernel
theorem d_Mo_cuts_9 : decode b_Mo_cuts 9 = .ok (.aload_n 0, 1) := by decide +kernel
theorem d_Mo_cuts_10 : decode b_Mo_cuts 10 = .ok (.getfield 24, 3) := by decide +kernel
theorem d_Mo_cuts_13 : decode b_Mo_cuts 13 = .ok (.iload_n 1, 1) := by decide +kernel
theorem d_Mo_cuts_14 : decode b_Mo_cuts 14 = .ok (.iaload, 1) := by decide +kernel
theorem d_Mo_cuts_15 : decode b_Mo_cuts 15 = .ok (.aload_n 0, 1) := by decide +kernel
theorem d_Mo_cuts_16 : decode b_Mo_cuts 16 = .ok (.getfield 24, 3) := by decide +kernel
theorem d_Mo_cuts_19 : decode b_Mo_cuts 19 = .ok (.iload_n 2, 1) := by decide +kernel
theorem d_Mo_cuts_20 : decode b_Mo_cuts 20 = .ok (.iaload, 1) := by decide +kernel
theorem d_Mo_cuts_21 : decode b_Mo_cuts 21 = .ok (.if_icmp .ne 22, 3) := by decide +kernel
theorem d_Mo_cuts_24 : decode b_Mo_cuts 24 = .ok (.aload_n 0, 1) := by decide +kernel
theorem d_Mo_cuts_25 : decode b_Mo_cuts 25 = .ok (.getfield 30, 3) := by decide +kernel
theorem d_Mo_cuts_28 : decode b_Mo_cuts 28 = .ok (.iload_n 1, 1) := by decide +kernel
theorem d_Mo_cuts_29 : decode b_Mo_cuts 29 = .ok (.iaload, 1) := by decide +kernel
theorem d_Mo_cuts_30 : decode b_Mo_cuts 30 = .ok (.aload_n 0, 1) := by decide +kernel
theorem d_Mo_cuts_31 : decode b_Mo_cuts 31 = .ok (.getfield 30, 3) := by decide +kernel
theorem d_Mo_cuts_34 : decode b_Mo_cuts 34 = .ok (.iload_n 2, 1) := by decide +kernel
theorem d_Mo_cuts_35 : decode b_Mo_cuts 35 = .ok (.iaload, 1) := by decide +kernel
theorem d_Mo_cuts_36 : decode b_Mo_cuts 36 = .ok (.if_icmp .gt 7, 3) := by decide +kernel
theorem d_Mo_cuts_39 : decode b_Mo_cuts 39 = .ok (.iconst 1, 1) := by decide +kernel
theorem d_Mo_cuts_40 : decode b_Mo_cuts 40 = .ok (.goto 4, 3) := by decide +kernel
theorem d_Mo_cuts_43 : decode b_Mo_cuts 43 = .ok (.iconst 0, 1) := by decide +kernel
theorem d_Mo_cuts_44 : decode b_Mo_cuts 44 = .ok (.istore_n 3, 1) := by decide +kernel
theorem d_Mo_cuts_45 : decode b_Mo_cuts 45 = .ok (.iload_n 3, 1) := by decide +kernel
theorem d_Mo_cuts_46 : decode b_Mo_cuts 46 = .ok (.ifCond .eq 52, 3) := by decide +kernel
theorem d_Mo_cuts_49 : decode b_Mo_cuts 49 = .ok (.aload_n 0, 1) := by decide +kernel
theorem d_Mo_cuts_50 : decode b_Mo_cuts 50 = .ok (.getfield 24, 3) := by decide +kernel
theorem d_Mo_cuts_53 : decode b_Mo_cuts 53 = .ok (.iload_n 1, 1) := by decide +kernel
theorem d_Mo_cuts_54 : decode b_Mo_cuts 54 = .ok (.iaload, 1) := by decide +kernel
theorem d_Mo_cuts_55 : decode b_Mo_cuts 55 = .ok (.iconst 2, 1) := by decide +kernel
theorem d_Mo_cuts_56 : decode b_Mo_cuts 56 = .ok (.irem, 1) := by decide +kernel
theorem d_Mo_cuts_57 : decode b_Mo_cuts 57 = .ok (.iconst 1, 1) := by decide +kernel
theorem d_Mo_cuts_58 : decode b_Mo_cuts 58 = .ok (.if_icmp .ne 21, 3) := by decide +kernel
theorem d_Mo_cuts_61 : decode b_Mo_cuts 61 = .ok (.aload_n 0, 1) := by decide +kernel
theorem d_Mo_cuts_62 : decode b_Mo_cuts 62 = .ok (.getfield 27, 3) := by decide +kernel
theorem d_Mo_cuts_65 : decode b_Mo_cuts 65 = .ok (.iload_n 1, 1) := by decide +kernel
theorem d_Mo_cuts_66 : decode b_Mo_cuts 66 = .ok (.iaload, 1) := by decide +kernel
theorem d_Mo_cuts_67 : decode b_Mo_cuts 67 = .ok (.aload_n 0, 1) := by decide +kernel
theorem d_Mo_cuts_68 : decode b_Mo_cuts 68 = .ok (.getfield 27, 3) := by decide +kernel
theorem d_Mo_cuts_71 : decode b_Mo_cuts 71 = .ok (.iload_n 2, 1) := by decide +kernel
theorem d_Mo_cuts_72 : decode b_Mo_cuts 72 = .ok (.iaload, 1) := by decide +kernel
theorem d_Mo_cuts_73 : decode b_Mo_cuts 73 = .ok (.if_icmp .le 25, 3) := by decide +kernel
theorem d_Mo_cuts_76 : decode b_Mo_cuts 76 = .ok (.goto 18, 3) := by decide +kernel
theorem d_Mo_cuts_79 : decode b_Mo_cuts 79 = .ok (.aload_n 0, 1) := by decide +kernel
theorem d_Mo_cuts_80 : decode b_Mo_cuts 80 = .ok (.getfield 27, 3) := by decide +kernel
theorem d_Mo_cuts_83 : decode b_Mo_cuts 83 = .ok (.iload_n 1, 1) := by decide +kernel
theorem d_Mo_cuts_84 : decode b_Mo_cuts 84 = .ok (.iaload, 1) := by decide +kernel
theorem d_Mo_cuts_85 : decode b_Mo_cuts 85 = .ok (.aload_n 0, 1) := by decide +kernel
theorem d_Mo_cuts_86 : decode b_Mo_cuts 86 = .ok (.getfield 27, 3) := by decide +kernel
theorem d_Mo_cuts_89 : decode b_Mo_cuts 89 = .ok (.iload_n 2, 1) := by decide +kernel
theorem d_Mo_cuts_90 : decode b_Mo_cuts 90 = .ok (.iaload, 1) := by decide +kernel
theorem d_Mo_cuts_91 : decode b_Mo_cuts 91 = .ok (.if_icmp .ge 7, 3) := by decide +kernel
theorem d_Mo_cuts_94 : decode b_Mo_cuts 94 = .ok (.iconst 1, 1) := by decide +kernel
theorem d_Mo_cuts_95 : decode b_Mo_cuts 95 = .ok (.goto 4, 3) := by decide +kernel
theorem d_Mo_cuts_98 : decode b_Mo_cuts 98 = .ok (.iconst 0, 1) := by decide +kernel
theorem d_Mo_cuts_99 : decode b_Mo_cuts 99 = .ok (.ireturn, 1) := by decide +kernel
theorem d_Mo_on_0 : decode b_Mo_on 0 = .ok (.aload_n 0, 1) := by decide +kernel
theorem d_Mo_on_1 : decode b_Mo_on 1 = .ok (.iconst 0, 1) := by decide +kernel
theorem d_Mo_on_2 : decode b_Mo_on 2 = .ok (.putfield 49, 3) := by decide +kernel
theorem d_Mo_on_5 : decode b_Mo_on 5 = .ok (.aload_n 0, 1) := by decide +kernel
theorem d_Mo_on_6 : decode b_Mo_on 6 = .ok (.getfield 71, 3) := by decide +kernel
theorem d_Mo_on_9 : decode b_Mo_on 9 = .ok (.ifCond .eq 10, 3) := by decide +kernel
theorem d_Mo_on_12 : decode b_Mo_on 12 = .ok (.aload_n 0, 1) := by decide +kernel
theorem d_Mo_on_13 : decode b_Mo_on 13 = .ok (.getfield 87, 3) := by decide +kernel
theorem d_Mo_on_16 : decode b_Mo_on 16 = .ok (.ifCond .eq 17, 3) := by decide +kernel
theorem d_Mo_on_19 : decode b_Mo_on 19 = .ok (.aload_n 0, 1) := by decide +kernel
theorem d_Mo_on_20 : decode b_Mo_on 20 = .ok (.iconst 1, 1) := by decide +kernel
theorem d_Mo_on_21 : decode b_Mo_on 21 = .ok (.invokevirtual 63, 3) := by decide +kernel
theorem d_Mo_on_24 : decode b_Mo_on 24 = .ok (.ifCond .le 7, 3) := by decide +kernel
theorem d_Mo_on_27 : decode b_Mo_on 27 = .ok (.iconst 1, 1) := by decide +kernel
theorem d_Mo_on_28 : decode b_Mo_on 28 = .ok (.goto 4, 3) := by decide +kernel
theorem d_Mo_on_31 : decode b_Mo_on 31 = .ok (.iconst 0, 1) := by decide +kernel
theorem d_Mo_on_32 : decode b_Mo_on 32 = .ok (.ireturn, 1) := by decide +kernel
theorem d_Mo_on_33 : decode b_Mo_on 33 = .ok (.aload_n 0, 1) := by decide +kernel
theorem d_Mo_on_34 : decode b_Mo_on 34 = .ok (.getfield 67, 3) := by decide +kernel
theorem d_Mo_on_37 : decode b_Mo_on 37 = .ok (.istore_n 1, 1) := by decide +kernel
theorem d_Mo_on_38 : decode b_Mo_on 38 = .ok (.aload_n 0, 1) := by decide +kernel
theorem d_Mo_on_39 : decode b_Mo_on 39 = .ok (.iconst 1, 1) := by decide +kernel
theorem d_Mo_on_40 : decode b_Mo_on 40 = .ok (.putfield 67, 3) := by decide +kernel
theorem d_Mo_on_43 : decode b_Mo_on 43 = .ok (.iload_n 1, 1) := by decide +kernel
theorem d_Mo_on_44 : decode b_Mo_on 44 = .ok (.ifCond .ne 7, 3) := by decide +kernel
theorem d_Mo_on_47 : decode b_Mo_on 47 = .ok (.iconst 1, 1) := by decide +kernel
theorem d_Mo_on_48 : decode b_Mo_on 48 = .ok (.goto 4, 3) := by decide +kernel
theorem d_Mo_on_51 : decode b_Mo_on 51 = .ok (.iconst 0, 1) := by decide +kernel
theorem d_Mo_on_52 : decode b_Mo_on 52 = .ok (.ireturn, 1) := by decide +kernel
theorem d_Mo_off_0 : decode b_Mo_off 0 = .ok (.aload_n 0, 1) := by decide +kernel
theorem d_Mo_off_1 : decode b_Mo_off 1 = .ok (.iconst 0, 1) := by decide +kernel
theorem d_Mo_off_2 : decode b_Mo_off 2 = .ok (.putfield 49, 3) := by decide +kernel
theorem d_Mo_off_5 : decode b_Mo_off 5 = .ok (.aload_n 0, 1) := by decide +kernel
theorem d_Mo_off_6 : decode b_Mo_off 6 = .ok (.getfield 67, 3) := by decide +kernel
theorem d_Mo_off_9 : decode b_Mo_off 9 = .ok (.istore_n 1, 1) := by decide +kernel
theorem d_Mo_off_10 : decode b_Mo_off 10 = .ok (.aload_n 0, 1) := by decide +kernel
theorem d_Mo_off_11 : decode b_Mo_off 11 = .ok (.iconst 0, 1) := by decide +kernel
theorem d_Mo_off_12 : decode b_Mo_off 12 = .ok (.putfield 67, 3) := by decide +kernel
theorem d_Mo_off_15 : decode b_Mo_off 15 = .ok (.aload_n 0, 1) := by decide +kernel
theorem d_Mo_off_16 : decode b_Mo_off 16 = .ok (.getfield 90, 3) := by decide +kernel
theorem d_Mo_off_19 : decode b_Mo_off 19 = .ok (.ifCond .eq 8, 3) := by decide +kernel
theorem d_Mo_off_22 : decode b_Mo_off 22 = .ok (.aload_n 0, 1) := by decide +kernel
theorem d_Mo_off_23 : decode b_Mo_off 23 = .ok (.iconst 2, 1) := by decide +kernel
theorem d_Mo_off_24 : decode b_Mo_off 24 = .ok (.invokevirtual 93, 3) := by decide +kernel
theorem d_Mo_off_27 : decode b_Mo_off 27 = .ok (.aload_n 0, 1) := by decide +kernel
theorem d_Mo_off_28 : decode b_Mo_off 28 = .ok (.iconst 0, 1) := by decide +kernel
theorem d_Mo_off_29 : decode b_Mo_off 29 = .ok (.putfield 90, 3) := by decide +kernel
theorem d_Mo_off_32 : decode b_Mo_off 32 = .ok (.iload_n 1, 1) := by decide +kernel
theorem d_Mo_off_33 : decode b_Mo_off 33 = .ok (.ireturn, 1) := by decide +kernel
theorem d_Mo_happens_0 : decode b_Mo_happens 0 = .ok (.bipush 15, 2) := by decide +kernel
theorem d_Mo_happens_2 : decode b_Mo_happens 2 = .ok (.istore_n 2, 1) := by decide +kernel
theorem d_Mo_happens_3 : decode b_Mo_happens 3 = .ok (.iload_n 2, 1) := by decide +kernel
theorem d_Mo_happens_4 : decode b_Mo_happens 4 = .ok (.ifCond .le 37, 3) := by decide +kernel
theorem d_Mo_happens_7 : decode b_Mo_happens 7 = .ok (.aload_n 0, 1) := by decide +kernel
theorem d_Mo_happens_8 : decode b_Mo_happens 8 = .ok (.getfield 43, 3) := by decide +kernel
theorem d_Mo_happens_11 : decode b_Mo_happens 11 = .ok (.iload_n 2, 1) := by decide +kernel
theorem d_Mo_happens_12 : decode b_Mo_happens 12 = .ok (.aload_n 0, 1) := by decide +kernel
theorem d_Mo_happens_13 : decode b_Mo_happens 13 = .ok (.getfield 43, 3) := by decide +kernel
theorem d_Mo_happens_16 : decode b_Mo_happens 16 = .ok (.iload_n 2, 1) := by decide +kernel
theorem d_Mo_happens_17 : decode b_Mo_happens 17 = .ok (.iconst 1, 1) := by decide +kernel
theorem d_Mo_happens_18 : decode b_Mo_happens 18 = .ok (.isub, 1) := by decide +kernel
theorem d_Mo_happens_19 : decode b_Mo_happens 19 = .ok (.iaload, 1) := by decide +kernel
theorem d_Mo_happens_20 : decode b_Mo_happens 20 = .ok (.iastore, 1) := by decide +kernel
theorem d_Mo_happens_21 : decode b_Mo_happens 21 = .ok (.aload_n 0, 1) := by decide +kernel
theorem d_Mo_happens_22 : decode b_Mo_happens 22 = .ok (.getfield 46, 3) := by decide +kernel
theorem d_Mo_happens_25 : decode b_Mo_happens 25 = .ok (.iload_n 2, 1) := by decide +kernel
theorem d_Mo_happens_26 : decode b_Mo_happens 26 = .ok (.aload_n 0, 1) := by decide +kernel
theorem d_Mo_happens_27 : decode b_Mo_happens 27 = .ok (.getfield 46, 3) := by decide +kernel
theorem d_Mo_happens_30 : decode b_Mo_happens 30 = .ok (.iload_n 2, 1) := by decide +kernel
theorem d_Mo_happens_31 : decode b_Mo_happens 31 = .ok (.iconst 1, 1) := by decide +kernel
theorem d_Mo_happens_32 : decode b_Mo_happens 32 = .ok (.isub, 1) := by decide +kernel
theorem d_Mo_happens_33 : decode b_Mo_happens 33 = .ok (.iaload, 1) := by decide +kernel
theorem d_Mo_happens_34 : decode b_Mo_happens 34 = .ok (.iastore, 1) := by decide +kernel
theorem d_Mo_happens_35 : decode b_Mo_happens 35 = .ok (.iinc 2 (-1), 3) := by decide +kernel
theorem d_Mo_happens_38 : decode b_Mo_happens 38 = .ok (.goto (-35), 3) := by decide +kernel
theorem d_Mo_happens_41 : decode b_Mo_happens 41 = .ok (.aload_n 0, 1) := by decide +kernel
theorem d_Mo_happens_42 : decode b_Mo_happens 42 = .ok (.getfield 43, 3) := by decide +kernel
theorem d_Mo_happens_45 : decode b_Mo_happens 45 = .ok (.iconst 0, 1) := by decide +kernel
theorem d_Mo_happens_46 : decode b_Mo_happens 46 = .ok (.iload_n 1, 1) := by decide +kernel
theorem d_Mo_happens_47 : decode b_Mo_happens 47 = .ok (.iastore, 1) := by decide +kernel
theorem d_Mo_happens_48 : decode b_Mo_happens 48 = .ok (.aload_n 0, 1) := by decide +kernel
theorem d_Mo_happens_49 : decode b_Mo_happens 49 = .ok (.getfield 46, 3) := by decide +kernel
theorem d_Mo_happens_52 : decode b_Mo_happens 52 = .ok (.iconst 0, 1) := by decide +kernel
theorem d_Mo_happens_53 : decode b_Mo_happens 53 = .ok (.aload_n 0, 1) := by decide +kernel
theorem d_Mo_happens_54 : decode b_Mo_happens 54 = .ok (.getfield 53, 3) := by decide +kernel
theorem d_Mo_happens_57 : decode b_Mo_happens 57 = .ok (.iastore, 1) := by decide +kernel
theorem d_Mo_happens_58 : decode b_Mo_happens 58 = .ok (.aload_n 0, 1) := by decide +kernel
theorem d_Mo_happens_59 : decode b_Mo_happens 59 = .ok (.dup, 1) := by decide +kernel
theorem d_Mo_happens_60 : decode b_Mo_happens 60 = .ok (.getfield 56, 3) := by decide +kernel
theorem d_Mo_happens_63 : decode b_Mo_happens 63 = .ok (.iconst 1, 1) := by decide +kernel
theorem d_Mo_happens_64 : decode b_Mo_happens 64 = .ok (.iadd, 1) := by decide +kernel
theorem d_Mo_happens_65 : decode b_Mo_happens 65 = .ok (.putfield 56, 3) := by decide +kernel
theorem d_Mo_happens_68 : decode b_Mo_happens 68 = .ok (.return_, 1) := by decide +kernel
theorem d_Mo_seen_0 : decode b_Mo_seen 0 = .ok (.aload_n 0, 1) := by decide +kernel
theorem d_Mo_seen_1 : decode b_Mo_seen 1 = .ok (.iconst 0, 1) := by decide +kernel
theorem d_Mo_seen_2 : decode b_Mo_seen 2 = .ok (.putfield 49, 3) := by decide +kernel
theorem d_Mo_seen_5 : decode b_Mo_seen 5 = .ok (.aload_n 0, 1) := by decide +kernel
theorem d_Mo_seen_6 : decode b_Mo_seen 6 = .ok (.iload_n 1, 1) := by decide +kernel
theorem d_Mo_seen_7 : decode b_Mo_seen 7 = .ok (.putfield 97, 3) := by decide +kernel
theorem d_Mo_seen_10 : decode b_Mo_seen 10 = .ok (.return_, 1) := by decide +kernel
theorem d_Mo_reset_0 : decode b_Mo_reset 0 = .ok (.aload_n 0, 1) := by decide +kernel
theorem d_Mo_reset_1 : decode b_Mo_reset 1 = .ok (.iconst 0, 1) := by decide +kernel
theorem d_Mo_reset_2 : decode b_Mo_reset 2 = .ok (.putfield 49, 3) := by decide +kernel
theorem d_Mo_reset_5 : decode b_Mo_reset 5 = .ok (.aload_n 0, 1) := by decide +kernel
theorem d_Mo_reset_6 : decode b_Mo_reset 6 = .ok (.getfield 87, 3) := by decide +kernel
theorem d_Mo_reset_9 : decode b_Mo_reset 9 = .ok (.ifCond .eq 10, 3) := by decide +kernel
theorem d_Mo_reset_12 : decode b_Mo_reset 12 = .ok (.aload_n 0, 1) := by decide +kernel
theorem d_Mo_reset_13 : decode b_Mo_reset 13 = .ok (.getfield 97, 3) := by decide +kernel
theorem d_Mo_reset_16 : decode b_Mo_reset 16 = .ok (.ifCond .eq 5, 3) := by decide +kernel
theorem d_Mo_reset_19 : decode b_Mo_reset 19 = .ok (.iconst 0, 1) := by decide +kernel
theorem d_Mo_reset_20 : decode b_Mo_reset 20 = .ok (.ireturn, 1) := by decide +kernel
theorem d_Mo_reset_21 : decode b_Mo_reset 21 = .ok (.aload_n 0, 1) := by decide +kernel
theorem d_Mo_reset_22 : decode b_Mo_reset 22 = .ok (.iconst 0, 1) := by decide +kernel
theorem d_Mo_reset_23 : decode b_Mo_reset 23 = .ok (.putfield 87, 3) := by decide +kernel
theorem d_Mo_reset_26 : decode b_Mo_reset 26 = .ok (.aload_n 0, 1) := by decide +kernel
theorem d_Mo_reset_27 : decode b_Mo_reset 27 = .ok (.iconst 4, 1) := by decide +kernel
theorem d_Mo_reset_28 : decode b_Mo_reset 28 = .ok (.invokevirtual 93, 3) := by decide +kernel
theorem d_Mo_reset_31 : decode b_Mo_reset 31 = .ok (.iconst 1, 1) := by decide +kernel
theorem d_Mo_reset_32 : decode b_Mo_reset 32 = .ok (.ireturn, 1) := by decide +kernel
theorem d_Mo_power_0 : decode b_Mo_power 0 = .ok (.aload_n 0, 1) := by decide +kernel
theorem d_Mo_power_1 : decode b_Mo_power 1 = .ok (.iconst 0, 1) := by decide +kernel
theorem d_Mo_power_2 : decode b_Mo_power 2 = .ok (.putfield 49, 3) := by decide +kernel
theorem d_Mo_power_5 : decode b_Mo_power 5 = .ok (.iload_n 1, 1) := by decide +kernel
theorem d_Mo_power_6 : decode b_Mo_power 6 = .ok (.iconst 0, 1) := by decide +kernel
theorem d_Mo_power_7 : decode b_Mo_power 7 = .ok (.sipush 20000, 3) := by decide +kernel
theorem d_Mo_power_10 : decode b_Mo_power 10 = .ok (.invokestatic 59, 3) := by decide +kernel
theorem d_Mo_power_13 : decode b_Mo_power 13 = .ok (.ifCond .eq 16, 3) := by decide +kernel
theorem d_Mo_power_16 : decode b_Mo_power 16 = .ok (.iload_n 2, 1) := by decide +kernel
theorem d_Mo_power_17 : decode b_Mo_power 17 = .ok (.sipush (-20000), 3) := by decide +kernel
theorem d_Mo_power_20 : decode b_Mo_power 20 = .ok (.sipush 20000, 3) := by decide +kernel
theorem d_Mo_power_23 : decode b_Mo_power 23 = .ok (.invokestatic 59, 3) := by decide +kernel
theorem d_Mo_power_26 : decode b_Mo_power 26 = .ok (.ifCond .ne 9, 3) := by decide +kernel
theorem d_Mo_power_29 : decode b_Mo_power 29 = .ok (.aload_n 0, 1) := by decide +kernel
theorem d_Mo_power_30 : decode b_Mo_power 30 = .ok (.iconst 1, 1) := by decide +kernel
theorem d_Mo_power_31 : decode b_Mo_power 31 = .ok (.putfield 49, 3) := by decide +kernel
theorem d_Mo_power_34 : decode b_Mo_power 34 = .ok (.return_, 1) := by decide +kernel
theorem d_Mo_power_35 : decode b_Mo_power 35 = .ok (.aload_n 0, 1) := by decide +kernel
theorem d_Mo_power_36 : decode b_Mo_power 36 = .ok (.iload_n 1, 1) := by decide +kernel
theorem d_Mo_power_37 : decode b_Mo_power 37 = .ok (.putfield 100, 3) := by decide +kernel
theorem d_Mo_power_40 : decode b_Mo_power 40 = .ok (.aload_n 0, 1) := by decide +kernel
theorem d_Mo_power_41 : decode b_Mo_power 41 = .ok (.iload_n 2, 1) := by decide +kernel
theorem d_Mo_power_42 : decode b_Mo_power 42 = .ok (.putfield 103, 3) := by decide +kernel
theorem d_Mo_power_45 : decode b_Mo_power 45 = .ok (.return_, 1) := by decide +kernel
theorem d_Mo_sample_0 : decode b_Mo_sample 0 = .ok (.aload_n 0, 1) := by decide +kernel
theorem d_Mo_sample_1 : decode b_Mo_sample 1 = .ok (.iconst 0, 1) := by decide +kernel
theorem d_Mo_sample_2 : decode b_Mo_sample 2 = .ok (.putfield 49, 3) := by decide +kernel
theorem d_Mo_sample_5 : decode b_Mo_sample 5 = .ok (.iload_n 1, 1) := by decide +kernel
theorem d_Mo_sample_6 : decode b_Mo_sample 6 = .ok (.invokestatic 188, 3) := by decide +kernel
theorem d_Mo_sample_9 : decode b_Mo_sample 9 = .ok (.ifCond .eq 17, 3) := by decide +kernel
theorem d_Mo_sample_12 : decode b_Mo_sample 12 = .ok (.iload_n 2, 1) := by decide +kernel
theorem d_Mo_sample_13 : decode b_Mo_sample 13 = .ok (.invokestatic 188, 3) := by decide +kernel
theorem d_Mo_sample_16 : decode b_Mo_sample 16 = .ok (.ifCond .eq 10, 3) := by decide +kernel
theorem d_Mo_sample_19 : decode b_Mo_sample 19 = .ok (.iload_n 3, 1) := by decide +kernel
theorem d_Mo_sample_20 : decode b_Mo_sample 20 = .ok (.invokestatic 188, 3) := by decide +kernel
theorem d_Mo_sample_23 : decode b_Mo_sample 23 = .ok (.ifCond .ne 9, 3) := by decide +kernel
theorem d_Mo_sample_26 : decode b_Mo_sample 26 = .ok (.aload_n 0, 1) := by decide +kernel
theorem d_Mo_sample_27 : decode b_Mo_sample 27 = .ok (.iconst 1, 1) := by decide +kernel
theorem d_Mo_sample_28 : decode b_Mo_sample 28 = .ok (.invokevirtual 63, 3) := by decide +kernel
theorem d_Mo_sample_31 : decode b_Mo_sample 31 = .ok (.ireturn, 1) := by decide +kernel
theorem d_Mo_sample_32 : decode b_Mo_sample 32 = .ok (.aload_n 0, 1) := by decide +kernel
theorem d_Mo_sample_33 : decode b_Mo_sample 33 = .ok (.iload_n 1, 1) := by decide +kernel
theorem d_Mo_sample_34 : decode b_Mo_sample 34 = .ok (.iload_n 2, 1) := by decide +kernel
theorem d_Mo_sample_35 : decode b_Mo_sample 35 = .ok (.iload_n 3, 1) := by decide +kernel
theorem d_Mo_sample_36 : decode b_Mo_sample 36 = .ok (.invokevirtual 192, 3) := by decide +kernel
theorem d_Mo_sample_39 : decode b_Mo_sample 39 = .ok (.ldc 195, 2) := by decide +kernel
theorem d_Mo_sample_41 : decode b_Mo_sample 41 = .ok (.aload_n 0, 1) := by decide +kernel
theorem d_Mo_sample_42 : decode b_Mo_sample 42 = .ok (.getfield 158, 3) := by decide +kernel
theorem d_Mo_sample_45 : decode b_Mo_sample 45 = .ok (.imul, 1) := by decide +kernel
theorem d_Mo_sample_46 : decode b_Mo_sample 46 = .ok (.aload_n 0, 1) := by decide +kernel
theorem d_Mo_sample_47 : decode b_Mo_sample 47 = .ok (.getfield 161, 3) := by decide +kernel
theorem d_Mo_sample_50 : decode b_Mo_sample 50 = .ok (.iadd, 1) := by decide +kernel
theorem d_Mo_sample_51 : decode b_Mo_sample 51 = .ok (.ireturn, 1) := by decide +kernel
theorem d_Mo_isSample_0 : decode b_Mo_isSample 0 = .ok (.iload_n 0, 1) := by decide +kernel
theorem d_Mo_isSample_1 : decode b_Mo_isSample 1 = .ok (.sipush (-32768), 3) := by decide +kernel
theorem d_Mo_isSample_4 : decode b_Mo_isSample 4 = .ok (.sipush 32767, 3) := by decide +kernel
theorem d_Mo_isSample_7 : decode b_Mo_isSample 7 = .ok (.invokestatic 59, 3) := by decide +kernel
theorem d_Mo_isSample_10 : decode b_Mo_isSample 10 = .ok (.ireturn, 1) := by decide +kernel
theorem d_Mo_step_0 : decode b_Mo_step 0 = .ok (.aload_n 0, 1) := by decide +kernel
theorem d_Mo_step_1 : decode b_Mo_step 1 = .ok (.iload_n 1, 1) := by decide +kernel
theorem d_Mo_step_2 : decode b_Mo_step 2 = .ok (.iload_n 2, 1) := by decide +kernel
theorem d_Mo_step_3 : decode b_Mo_step 3 = .ok (.iload_n 3, 1) := by decide +kernel
theorem d_Mo_step_4 : decode b_Mo_step 4 = .ok (.invokevirtual 167, 3) := by decide +kernel
theorem d_Mo_step_7 : decode b_Mo_step 7 = .ok (.aload_n 0, 1) := by decide +kernel
theorem d_Mo_step_8 : decode b_Mo_step 8 = .ok (.invokevirtual 171, 3) := by decide +kernel
theorem d_Mo_step_11 : decode b_Mo_step 11 = .ok (.istore 4, 2) := by decide +kernel
theorem d_Mo_step_13 : decode b_Mo_step 13 = .ok (.aload_n 0, 1) := by decide +kernel
theorem d_Mo_step_14 : decode b_Mo_step 14 = .ok (.invokevirtual 174, 3) := by decide +kernel
theorem d_Mo_step_17 : decode b_Mo_step 17 = .ok (.istore 5, 2) := by decide +kernel
theorem d_Mo_step_19 : decode b_Mo_step 19 = .ok (.aload_n 0, 1) := by decide +kernel
theorem d_Mo_step_20 : decode b_Mo_step 20 = .ok (.iload 4, 2) := by decide +kernel
theorem d_Mo_step_22 : decode b_Mo_step 22 = .ok (.iload 5, 2) := by decide +kernel
theorem d_Mo_step_24 : decode b_Mo_step 24 = .ok (.invokevirtual 177, 3) := by decide +kernel
theorem d_Mo_step_27 : decode b_Mo_step 27 = .ok (.aload_n 0, 1) := by decide +kernel
theorem d_Mo_step_28 : decode b_Mo_step 28 = .ok (.iload 4, 2) := by decide +kernel
theorem d_Mo_step_30 : decode b_Mo_step 30 = .ok (.iload 5, 2) := by decide +kernel
theorem d_Mo_step_32 : decode b_Mo_step 32 = .ok (.invokevirtual 181, 3) := by decide +kernel
theorem d_Mo_step_35 : decode b_Mo_step 35 = .ok (.aload_n 0, 1) := by decide +kernel
theorem d_Mo_step_36 : decode b_Mo_step 36 = .ok (.dup, 1) := by decide +kernel
theorem d_Mo_step_37 : decode b_Mo_step 37 = .ok (.getfield 184, 3) := by decide +kernel
theorem d_Mo_step_40 : decode b_Mo_step 40 = .ok (.aload_n 0, 1) := by decide +kernel
theorem d_Mo_step_41 : decode b_Mo_step 41 = .ok (.getfield 158, 3) := by decide +kernel
theorem d_Mo_step_44 : decode b_Mo_step 44 = .ok (.i2l, 1) := by decide +kernel
theorem d_Mo_step_45 : decode b_Mo_step 45 = .ok (.iload 4, 2) := by decide +kernel
theorem d_Mo_step_47 : decode b_Mo_step 47 = .ok (.i2l, 1) := by decide +kernel
theorem d_Mo_step_48 : decode b_Mo_step 48 = .ok (.lmul, 1) := by decide +kernel
theorem d_Mo_step_49 : decode b_Mo_step 49 = .ok (.ladd, 1) := by decide +kernel
theorem d_Mo_step_50 : decode b_Mo_step 50 = .ok (.putfield 184, 3) := by decide +kernel
theorem d_Mo_step_53 : decode b_Mo_step 53 = .ok (.aload_n 0, 1) := by decide +kernel
theorem d_Mo_step_54 : decode b_Mo_step 54 = .ok (.dup, 1) := by decide +kernel
theorem d_Mo_step_55 : decode b_Mo_step 55 = .ok (.getfield 53, 3) := by decide +kernel
theorem d_Mo_step_58 : decode b_Mo_step 58 = .ok (.iconst 1, 1) := by decide +kernel
theorem d_Mo_step_59 : decode b_Mo_step 59 = .ok (.iadd, 1) := by decide +kernel
theorem d_Mo_step_60 : decode b_Mo_step 60 = .ok (.putfield 53, 3) := by decide +kernel
theorem d_Mo_step_63 : decode b_Mo_step 63 = .ok (.return_, 1) := by decide +kernel
theorem d_Mo_follow_0 : decode b_Mo_follow 0 = .ok (.ldc2_w 108, 3) := by decide +kernel
theorem d_Mo_follow_3 : decode b_Mo_follow 3 = .ok (.iload_n 1, 1) := by decide +kernel
theorem d_Mo_follow_4 : decode b_Mo_follow 4 = .ok (.i2l, 1) := by decide +kernel
theorem d_Mo_follow_5 : decode b_Mo_follow 5 = .ok (.lmul, 1) := by decide +kernel
theorem d_Mo_follow_6 : decode b_Mo_follow 6 = .ok (.iload_n 2, 1) := by decide +kernel
theorem d_Mo_follow_7 : decode b_Mo_follow 7 = .ok (.i2l, 1) := by decide +kernel
theorem d_Mo_follow_8 : decode b_Mo_follow 8 = .ok (.lsub, 1) := by decide +kernel
theorem d_Mo_follow_9 : decode b_Mo_follow 9 = .ok (.iload_n 3, 1) := by decide +kernel
theorem d_Mo_follow_10 : decode b_Mo_follow 10 = .ok (.i2l, 1) := by decide +kernel
theorem d_Mo_follow_11 : decode b_Mo_follow 11 = .ok (.lsub, 1) := by decide +kernel
theorem d_Mo_follow_12 : decode b_Mo_follow 12 = .ok (.lstore 4, 2) := by decide +kernel
theorem d_Mo_follow_14 : decode b_Mo_follow 14 = .ok (.iload_n 2, 1) := by decide +kernel
theorem d_Mo_follow_15 : decode b_Mo_follow 15 = .ok (.iload_n 3, 1) := by decide +kernel
theorem d_Mo_follow_16 : decode b_Mo_follow 16 = .ok (.isub, 1) := by decide +kernel
theorem d_Mo_follow_17 : decode b_Mo_follow 17 = .ok (.i2l, 1) := by decide +kernel
theorem d_Mo_follow_18 : decode b_Mo_follow 18 = .ok (.ldc2_w 119, 3) := by decide +kernel
theorem d_Mo_follow_21 : decode b_Mo_follow 21 = .ok (.lmul, 1) := by decide +kernel
theorem d_Mo_follow_22 : decode b_Mo_follow 22 = .ok (.bipush 10, 2) := by decide +kernel
theorem d_Mo_follow_24 : decode b_Mo_follow 24 = .ok (.lshr, 1) := by decide +kernel
theorem d_Mo_follow_25 : decode b_Mo_follow 25 = .ok (.lstore 6, 2) := by decide +kernel
theorem d_Mo_follow_27 : decode b_Mo_follow 27 = .ok (.aload_n 0, 1) := by decide +kernel
theorem d_Mo_follow_28 : decode b_Mo_follow 28 = .ok (.lload 4, 2) := by decide +kernel
theorem d_Mo_follow_30 : decode b_Mo_follow 30 = .ok (.lload 4, 2) := by decide +kernel
theorem d_Mo_follow_32 : decode b_Mo_follow 32 = .ok (.lmul, 1) := by decide +kernel
theorem d_Mo_follow_33 : decode b_Mo_follow 33 = .ok (.lload 6, 2) := by decide +kernel
theorem d_Mo_follow_35 : decode b_Mo_follow 35 = .ok (.lload 6, 2) := by decide +kernel
theorem d_Mo_follow_37 : decode b_Mo_follow 37 = .ok (.lmul, 1) := by decide +kernel
theorem d_Mo_follow_38 : decode b_Mo_follow 38 = .ok (.ladd, 1) := by decide +kernel
theorem d_Mo_follow_39 : decode b_Mo_follow 39 = .ok (.invokestatic 121, 3) := by decide +kernel
theorem d_Mo_follow_42 : decode b_Mo_follow 42 = .ok (.putfield 125, 3) := by decide +kernel
theorem d_Mo_follow_45 : decode b_Mo_follow 45 = .ok (.aload_n 0, 1) := by decide +kernel
theorem d_Mo_follow_46 : decode b_Mo_follow 46 = .ok (.lload 6, 2) := by decide +kernel
theorem d_Mo_follow_48 : decode b_Mo_follow 48 = .ok (.aload_n 0, 1) := by decide +kernel
theorem d_Mo_follow_49 : decode b_Mo_follow 49 = .ok (.getfield 128, 3) := by decide +kernel
theorem d_Mo_follow_52 : decode b_Mo_follow 52 = .ok (.invokestatic 131, 3) := by decide +kernel
theorem d_Mo_follow_55 : decode b_Mo_follow 55 = .ok (.i2l, 1) := by decide +kernel
theorem d_Mo_follow_56 : decode b_Mo_follow 56 = .ok (.lmul, 1) := by decide +kernel
theorem d_Mo_follow_57 : decode b_Mo_follow 57 = .ok (.lload 4, 2) := by decide +kernel
theorem d_Mo_follow_59 : decode b_Mo_follow 59 = .ok (.aload_n 0, 1) := by decide +kernel
theorem d_Mo_follow_60 : decode b_Mo_follow 60 = .ok (.getfield 128, 3) := by decide +kernel
theorem d_Mo_follow_63 : decode b_Mo_follow 63 = .ok (.invokestatic 112, 3) := by decide +kernel
theorem d_Mo_follow_66 : decode b_Mo_follow 66 = .ok (.i2l, 1) := by decide +kernel
theorem d_Mo_follow_67 : decode b_Mo_follow 67 = .ok (.lmul, 1) := by decide +kernel
theorem d_Mo_follow_68 : decode b_Mo_follow 68 = .ok (.lsub, 1) := by decide +kernel
theorem d_Mo_follow_69 : decode b_Mo_follow 69 = .ok (.aload_n 0, 1) := by decide +kernel
theorem d_Mo_follow_70 : decode b_Mo_follow 70 = .ok (.getfield 125, 3) := by decide +kernel
theorem d_Mo_follow_73 : decode b_Mo_follow 73 = .ok (.iconst 1, 1) := by decide +kernel
theorem d_Mo_follow_74 : decode b_Mo_follow 74 = .ok (.iadd, 1) := by decide +kernel
theorem d_Mo_follow_75 : decode b_Mo_follow 75 = .ok (.i2l, 1) := by decide +kernel
theorem d_Mo_follow_76 : decode b_Mo_follow 76 = .ok (.ldiv, 1) := by decide +kernel
theorem d_Mo_follow_77 : decode b_Mo_follow 77 = .ok (.l2i, 1) := by decide +kernel
theorem d_Mo_follow_78 : decode b_Mo_follow 78 = .ok (.putfield 134, 3) := by decide +kernel
theorem d_Mo_follow_81 : decode b_Mo_follow 81 = .ok (.aload_n 0, 1) := by decide +kernel
theorem d_Mo_follow_82 : decode b_Mo_follow 82 = .ok (.dup, 1) := by decide +kernel
theorem d_Mo_follow_83 : decode b_Mo_follow 83 = .ok (.getfield 137, 3) := by decide +kernel
theorem d_Mo_follow_86 : decode b_Mo_follow 86 = .ok (.iconst 2, 1) := by decide +kernel
theorem d_Mo_follow_87 : decode b_Mo_follow 87 = .ok (.aload_n 0, 1) := by decide +kernel
theorem d_Mo_follow_88 : decode b_Mo_follow 88 = .ok (.getfield 134, 3) := by decide +kernel
theorem d_Mo_follow_91 : decode b_Mo_follow 91 = .ok (.imul, 1) := by decide +kernel
theorem d_Mo_follow_92 : decode b_Mo_follow 92 = .ok (.iadd, 1) := by decide +kernel
theorem d_Mo_follow_93 : decode b_Mo_follow 93 = .ok (.putfield 137, 3) := by decide +kernel
theorem d_Mo_follow_96 : decode b_Mo_follow 96 = .ok (.aload_n 0, 1) := by decide +kernel
theorem d_Mo_follow_97 : decode b_Mo_follow 97 = .ok (.aload_n 0, 1) := by decide +kernel
theorem d_Mo_follow_98 : decode b_Mo_follow 98 = .ok (.getfield 137, 3) := by decide +kernel
theorem d_Mo_follow_101 : decode b_Mo_follow 101 = .ok (.ldc 140, 2) := by decide +kernel
theorem d_Mo_follow_103 : decode b_Mo_follow 103 = .ok (.if_icmp .le 8, 3) := by decide +kernel
theorem d_Mo_follow_106 : decode b_Mo_follow 106 = .ok (.ldc 140, 2) := by decide +kernel
theorem d_Mo_follow_108 : decode b_Mo_follow 108 = .ok (.goto 21, 3) := by decide +kernel
theorem d_Mo_follow_111 : decode b_Mo_follow 111 = .ok (.aload_n 0, 1) := by decide +kernel
theorem d_Mo_follow_112 : decode b_Mo_follow 112 = .ok (.getfield 137, 3) := by decide +kernel
theorem d_Mo_follow_115 : decode b_Mo_follow 115 = .ok (.ldc 141, 2) := by decide +kernel
theorem d_Mo_follow_117 : decode b_Mo_follow 117 = .ok (.if_icmp .ge 8, 3) := by decide +kernel
theorem d_Mo_follow_120 : decode b_Mo_follow 120 = .ok (.ldc 141, 2) := by decide +kernel
theorem d_Mo_follow_122 : decode b_Mo_follow 122 = .ok (.goto 7, 3) := by decide +kernel
theorem d_Mo_follow_125 : decode b_Mo_follow 125 = .ok (.aload_n 0, 1) := by decide +kernel
theorem d_Mo_follow_126 : decode b_Mo_follow 126 = .ok (.getfield 137, 3) := by decide +kernel
theorem d_Mo_follow_129 : decode b_Mo_follow 129 = .ok (.putfield 137, 3) := by decide +kernel
theorem d_Mo_follow_132 : decode b_Mo_follow 132 = .ok (.ldc 39, 2) := by decide +kernel
theorem d_Mo_follow_134 : decode b_Mo_follow 134 = .ok (.aload_n 0, 1) := by decide +kernel
theorem d_Mo_follow_135 : decode b_Mo_follow 135 = .ok (.getfield 137, 3) := by decide +kernel
theorem d_Mo_follow_138 : decode b_Mo_follow 138 = .ok (.iadd, 1) := by decide +kernel
theorem d_Mo_follow_139 : decode b_Mo_follow 139 = .ok (.sipush 200, 3) := by decide +kernel
theorem d_Mo_follow_142 : decode b_Mo_follow 142 = .ok (.aload_n 0, 1) := by decide +kernel
theorem d_Mo_follow_143 : decode b_Mo_follow 143 = .ok (.getfield 134, 3) := by decide +kernel
theorem d_Mo_follow_146 : decode b_Mo_follow 146 = .ok (.imul, 1) := by decide +kernel
theorem d_Mo_follow_147 : decode b_Mo_follow 147 = .ok (.iadd, 1) := by decide +kernel
theorem d_Mo_follow_148 : decode b_Mo_follow 148 = .ok (.istore 8, 2) := by decide +kernel
theorem d_Mo_follow_150 : decode b_Mo_follow 150 = .ok (.aload_n 0, 1) := by decide +kernel
theorem d_Mo_follow_151 : decode b_Mo_follow 151 = .ok (.dup, 1) := by decide +kernel
theorem d_Mo_follow_152 : decode b_Mo_follow 152 = .ok (.getfield 128, 3) := by decide +kernel
theorem d_Mo_follow_155 : decode b_Mo_follow 155 = .ok (.iload 8, 2) := by decide +kernel
theorem d_Mo_follow_157 : decode b_Mo_follow 157 = .ok (.iadd, 1) := by decide +kernel
theorem d_Mo_follow_158 : decode b_Mo_follow 158 = .ok (.putfield 128, 3) := by decide +kernel
theorem d_Mo_follow_161 : decode b_Mo_follow 161 = .ok (.bipush 15, 2) := by decide +kernel
theorem d_Mo_follow_163 : decode b_Mo_follow 163 = .ok (.istore 9, 2) := by decide +kernel
theorem d_Mo_follow_165 : decode b_Mo_follow 165 = .ok (.iload 9, 2) := by decide +kernel
theorem d_Mo_follow_167 : decode b_Mo_follow 167 = .ok (.ifCond .le 25, 3) := by decide +kernel
theorem d_Mo_follow_170 : decode b_Mo_follow 170 = .ok (.aload_n 0, 1) := by decide +kernel
theorem d_Mo_follow_171 : decode b_Mo_follow 171 = .ok (.getfield 36, 3) := by decide +kernel
theorem d_Mo_follow_174 : decode b_Mo_follow 174 = .ok (.iload 9, 2) := by decide +kernel
theorem d_Mo_follow_176 : decode b_Mo_follow 176 = .ok (.aload_n 0, 1) := by decide +kernel
theorem d_Mo_follow_177 : decode b_Mo_follow 177 = .ok (.getfield 36, 3) := by decide +kernel
theorem d_Mo_follow_180 : decode b_Mo_follow 180 = .ok (.iload 9, 2) := by decide +kernel
theorem d_Mo_follow_182 : decode b_Mo_follow 182 = .ok (.iconst 1, 1) := by decide +kernel
theorem d_Mo_follow_183 : decode b_Mo_follow 183 = .ok (.isub, 1) := by decide +kernel
theorem d_Mo_follow_184 : decode b_Mo_follow 184 = .ok (.iaload, 1) := by decide +kernel
theorem d_Mo_follow_185 : decode b_Mo_follow 185 = .ok (.iastore, 1) := by decide +kernel
theorem d_Mo_follow_186 : decode b_Mo_follow 186 = .ok (.iinc 9 (-1), 3) := by decide +kernel
theorem d_Mo_follow_189 : decode b_Mo_follow 189 = .ok (.goto (-24), 3) := by decide +kernel
theorem d_Mo_follow_192 : decode b_Mo_follow 192 = .ok (.aload_n 0, 1) := by decide +kernel
theorem d_Mo_follow_193 : decode b_Mo_follow 193 = .ok (.getfield 36, 3) := by decide +kernel
theorem d_Mo_follow_196 : decode b_Mo_follow 196 = .ok (.iconst 0, 1) := by decide +kernel
theorem d_Mo_follow_197 : decode b_Mo_follow 197 = .ok (.aload_n 0, 1) := by decide +kernel
theorem d_Mo_follow_198 : decode b_Mo_follow 198 = .ok (.getfield 125, 3) := by decide +kernel
theorem d_Mo_follow_201 : decode b_Mo_follow 201 = .ok (.iastore, 1) := by decide +kernel
theorem d_Mo_follow_202 : decode b_Mo_follow 202 = .ok (.bipush 31, 2) := by decide +kernel
theorem d_Mo_follow_204 : decode b_Mo_follow 204 = .ok (.istore 9, 2) := by decide +kernel
theorem d_Mo_follow_206 : decode b_Mo_follow 206 = .ok (.iload 9, 2) := by decide +kernel
theorem d_Mo_follow_208 : decode b_Mo_follow 208 = .ok (.ifCond .le 25, 3) := by decide +kernel
theorem d_Mo_follow_211 : decode b_Mo_follow 211 = .ok (.aload_n 0, 1) := by decide +kernel
theorem d_Mo_follow_212 : decode b_Mo_follow 212 = .ok (.getfield 40, 3) := by decide +kernel
theorem d_Mo_follow_215 : decode b_Mo_follow 215 = .ok (.iload 9, 2) := by decide +kernel
theorem d_Mo_follow_217 : decode b_Mo_follow 217 = .ok (.aload_n 0, 1) := by decide +kernel
theorem d_Mo_follow_218 : decode b_Mo_follow 218 = .ok (.getfield 40, 3) := by decide +kernel
theorem d_Mo_follow_221 : decode b_Mo_follow 221 = .ok (.iload 9, 2) := by decide +kernel
theorem d_Mo_follow_223 : decode b_Mo_follow 223 = .ok (.iconst 1, 1) := by decide +kernel
theorem d_Mo_follow_224 : decode b_Mo_follow 224 = .ok (.isub, 1) := by decide +kernel
theorem d_Mo_follow_225 : decode b_Mo_follow 225 = .ok (.iaload, 1) := by decide +kernel
theorem d_Mo_follow_226 : decode b_Mo_follow 226 = .ok (.iastore, 1) := by decide +kernel
theorem d_Mo_follow_227 : decode b_Mo_follow 227 = .ok (.iinc 9 (-1), 3) := by decide +kernel
theorem d_Mo_follow_230 : decode b_Mo_follow 230 = .ok (.goto (-24), 3) := by decide +kernel
theorem d_Mo_follow_233 : decode b_Mo_follow 233 = .ok (.aload_n 0, 1) := by decide +kernel
theorem d_Mo_follow_234 : decode b_Mo_follow 234 = .ok (.getfield 40, 3) := by decide +kernel
theorem d_Mo_follow_237 : decode b_Mo_follow 237 = .ok (.iconst 0, 1) := by decide +kernel
theorem d_Mo_follow_238 : decode b_Mo_follow 238 = .ok (.iload 8, 2) := by decide +kernel
theorem d_Mo_follow_240 : decode b_Mo_follow 240 = .ok (.iastore, 1) := by decide +kernel
theorem d_Mo_follow_241 : decode b_Mo_follow 241 = .ok (.return_, 1) := by decide +kernel
theorem d_Mo_root_0 : decode b_Mo_root 0 = .ok (.lconst 0, 1) := by decide +kernel
theorem d_Mo_root_1 : decode b_Mo_root 1 = .ok (.lstore_n 2, 1) := by decide +kernel
theorem d_Mo_root_2 : decode b_Mo_root 2 = .ok (.ldc2_w 106, 3) := by decide +kernel
theorem d_Mo_root_5 : decode b_Mo_root 5 = .ok (.lstore 4, 2) := by decide +kernel
theorem d_Mo_root_7 : decode b_Mo_root 7 = .ok (.lload_n 2, 1) := by decide +kernel
theorem d_Mo_root_8 : decode b_Mo_root 8 = .ok (.lload 4, 2) := by decide +kernel
theorem d_Mo_root_10 : decode b_Mo_root 10 = .ok (.lcmp, 1) := by decide +kernel
theorem d_Mo_root_11 : decode b_Mo_root 11 = .ok (.ifCond .ge 40, 3) := by decide +kernel
theorem d_Mo_root_14 : decode b_Mo_root 14 = .ok (.lload_n 2, 1) := by decide +kernel
theorem d_Mo_root_15 : decode b_Mo_root 15 = .ok (.lload 4, 2) := by decide +kernel
theorem d_Mo_root_17 : decode b_Mo_root 17 = .ok (.ladd, 1) := by decide +kernel
theorem d_Mo_root_18 : decode b_Mo_root 18 = .ok (.lconst 1, 1) := by decide +kernel
theorem d_Mo_root_19 : decode b_Mo_root 19 = .ok (.ladd, 1) := by decide +kernel
theorem d_Mo_root_20 : decode b_Mo_root 20 = .ok (.ldc2_w 108, 3) := by decide +kernel
theorem d_Mo_root_23 : decode b_Mo_root 23 = .ok (.ldiv, 1) := by decide +kernel
theorem d_Mo_root_24 : decode b_Mo_root 24 = .ok (.lstore 6, 2) := by decide +kernel
theorem d_Mo_root_26 : decode b_Mo_root 26 = .ok (.lload 6, 2) := by decide +kernel
theorem d_Mo_root_28 : decode b_Mo_root 28 = .ok (.lload 6, 2) := by decide +kernel
theorem d_Mo_root_30 : decode b_Mo_root 30 = .ok (.lmul, 1) := by decide +kernel
theorem d_Mo_root_31 : decode b_Mo_root 31 = .ok (.lload_n 0, 1) := by decide +kernel
theorem d_Mo_root_32 : decode b_Mo_root 32 = .ok (.lcmp, 1) := by decide +kernel
theorem d_Mo_root_33 : decode b_Mo_root 33 = .ok (.ifCond .gt 9, 3) := by decide +kernel
theorem d_Mo_root_36 : decode b_Mo_root 36 = .ok (.lload 6, 2) := by decide +kernel
theorem d_Mo_root_38 : decode b_Mo_root 38 = .ok (.lstore_n 2, 1) := by decide +kernel
theorem d_Mo_root_39 : decode b_Mo_root 39 = .ok (.goto 9, 3) := by decide +kernel
theorem d_Mo_root_42 : decode b_Mo_root 42 = .ok (.lload 6, 2) := by decide +kernel
theorem d_Mo_root_44 : decode b_Mo_root 44 = .ok (.lconst 1, 1) := by decide +kernel
theorem d_Mo_root_45 : decode b_Mo_root 45 = .ok (.lsub, 1) := by decide +kernel
theorem d_Mo_root_46 : decode b_Mo_root 46 = .ok (.lstore 4, 2) := by decide +kernel
theorem d_Mo_root_48 : decode b_Mo_root 48 = .ok (.goto (-41), 3) := by decide +kernel
theorem d_Mo_root_51 : decode b_Mo_root 51 = .ok (.lload_n 2, 1) := by decide +kernel
theorem d_Mo_root_52 : decode b_Mo_root 52 = .ok (.l2i, 1) := by decide +kernel
theorem d_Mo_root_53 : decode b_Mo_root 53 = .ok (.ireturn, 1) := by decide +kernel
theorem d_Mo_cosine_0 : decode b_Mo_cosine 0 = .ok (.iload_n 0, 1) := by decide +kernel
theorem d_Mo_cosine_1 : decode b_Mo_cosine 1 = .ok (.ldc 111, 2) := by decide +kernel
theorem d_Mo_cosine_3 : decode b_Mo_cosine 3 = .ok (.iadd, 1) := by decide +kernel
theorem d_Mo_cosine_4 : decode b_Mo_cosine 4 = .ok (.invokestatic 112, 3) := by decide +kernel
theorem d_Mo_cosine_7 : decode b_Mo_cosine 7 = .ok (.ireturn, 1) := by decide +kernel
theorem d_Mo_sine_0 : decode b_Mo_sine 0 = .ok (.iload_n 0, 1) := by decide +kernel
theorem d_Mo_sine_1 : decode b_Mo_sine 1 = .ok (.bipush 16, 2) := by decide +kernel
theorem d_Mo_sine_3 : decode b_Mo_sine 3 = .ok (.iushr, 1) := by decide +kernel
theorem d_Mo_sine_4 : decode b_Mo_sine 4 = .ok (.sipush 32767, 3) := by decide +kernel
theorem d_Mo_sine_7 : decode b_Mo_sine 7 = .ok (.iand, 1) := by decide +kernel
theorem d_Mo_sine_8 : decode b_Mo_sine 8 = .ok (.istore_n 1, 1) := by decide +kernel
theorem d_Mo_sine_9 : decode b_Mo_sine 9 = .ok (.iload_n 1, 1) := by decide +kernel
theorem d_Mo_sine_10 : decode b_Mo_sine 10 = .ok (.ldc 110, 2) := by decide +kernel
theorem d_Mo_sine_12 : decode b_Mo_sine 12 = .ok (.iload_n 1, 1) := by decide +kernel
theorem d_Mo_sine_13 : decode b_Mo_sine 13 = .ok (.isub, 1) := by decide +kernel
theorem d_Mo_sine_14 : decode b_Mo_sine 14 = .ok (.imul, 1) := by decide +kernel
theorem d_Mo_sine_15 : decode b_Mo_sine 15 = .ok (.sipush 16384, 3) := by decide +kernel
theorem d_Mo_sine_18 : decode b_Mo_sine 18 = .ok (.idiv, 1) := by decide +kernel
theorem d_Mo_sine_19 : decode b_Mo_sine 19 = .ok (.istore_n 2, 1) := by decide +kernel
theorem d_Mo_sine_20 : decode b_Mo_sine 20 = .ok (.iload_n 0, 1) := by decide +kernel
theorem d_Mo_sine_21 : decode b_Mo_sine 21 = .ok (.ifCond .ge 8, 3) := by decide +kernel
theorem d_Mo_sine_24 : decode b_Mo_sine 24 = .ok (.iload_n 2, 1) := by decide +kernel
theorem d_Mo_sine_25 : decode b_Mo_sine 25 = .ok (.ineg, 1) := by decide +kernel
theorem d_Mo_sine_26 : decode b_Mo_sine 26 = .ok (.goto 4, 3) := by decide +kernel
theorem d_Mo_sine_29 : decode b_Mo_sine 29 = .ok (.iload_n 2, 1) := by decide +kernel
theorem d_Mo_sine_30 : decode b_Mo_sine 30 = .ok (.ireturn, 1) := by decide +kernel
theorem d_Mo_voltageNow_0 : decode b_Mo_voltageNow 0 = .ok (.iconst 0, 1) := by decide +kernel
theorem d_Mo_voltageNow_1 : decode b_Mo_voltageNow 1 = .ok (.istore_n 1, 1) := by decide +kernel
theorem d_Mo_voltageNow_2 : decode b_Mo_voltageNow 2 = .ok (.iconst 0, 1) := by decide +kernel
theorem d_Mo_voltageNow_3 : decode b_Mo_voltageNow 3 = .ok (.istore_n 2, 1) := by decide +kernel
theorem d_Mo_voltageNow_4 : decode b_Mo_voltageNow 4 = .ok (.iload_n 2, 1) := by decide +kernel
theorem d_Mo_voltageNow_5 : decode b_Mo_voltageNow 5 = .ok (.bipush 16, 2) := by decide +kernel
theorem d_Mo_voltageNow_7 : decode b_Mo_voltageNow 7 = .ok (.if_icmp .ge 18, 3) := by decide +kernel
theorem d_Mo_voltageNow_10 : decode b_Mo_voltageNow 10 = .ok (.iload_n 1, 1) := by decide +kernel
theorem d_Mo_voltageNow_11 : decode b_Mo_voltageNow 11 = .ok (.aload_n 0, 1) := by decide +kernel
theorem d_Mo_voltageNow_12 : decode b_Mo_voltageNow 12 = .ok (.getfield 36, 3) := by decide +kernel
theorem d_Mo_voltageNow_15 : decode b_Mo_voltageNow 15 = .ok (.iload_n 2, 1) := by decide +kernel
theorem d_Mo_voltageNow_16 : decode b_Mo_voltageNow 16 = .ok (.iaload, 1) := by decide +kernel
theorem d_Mo_voltageNow_17 : decode b_Mo_voltageNow 17 = .ok (.iadd, 1) := by decide +kernel
theorem d_Mo_voltageNow_18 : decode b_Mo_voltageNow 18 = .ok (.istore_n 1, 1) := by decide +kernel
theorem d_Mo_voltageNow_19 : decode b_Mo_voltageNow 19 = .ok (.iinc 2 1, 3) := by decide +kernel
theorem d_Mo_voltageNow_22 : decode b_Mo_voltageNow 22 = .ok (.goto (-18), 3) := by decide +kernel
theorem d_Mo_voltageNow_25 : decode b_Mo_voltageNow 25 = .ok (.iload_n 1, 1) := by decide +kernel
theorem d_Mo_voltageNow_26 : decode b_Mo_voltageNow 26 = .ok (.bipush 48, 2) := by decide +kernel
theorem d_Mo_voltageNow_28 : decode b_Mo_voltageNow 28 = .ok (.idiv, 1) := by decide +kernel
theorem d_Mo_voltageNow_29 : decode b_Mo_voltageNow 29 = .ok (.ireturn, 1) := by decide +kernel
theorem d_Mo_frequencyNow_0 : decode b_Mo_frequencyNow 0 = .ok (.lconst 0, 1) := by decide +kernel
theorem d_Mo_frequencyNow_1 : decode b_Mo_frequencyNow 1 = .ok (.lstore_n 1, 1) := by decide +kernel
theorem d_Mo_frequencyNow_2 : decode b_Mo_frequencyNow 2 = .ok (.iconst 0, 1) := by decide +kernel
theorem d_Mo_frequencyNow_3 : decode b_Mo_frequencyNow 3 = .ok (.istore_n 3, 1) := by decide +kernel
theorem d_Mo_frequencyNow_4 : decode b_Mo_frequencyNow 4 = .ok (.iload_n 3, 1) := by decide +kernel
theorem d_Mo_frequencyNow_5 : decode b_Mo_frequencyNow 5 = .ok (.bipush 32, 2) := by decide +kernel
theorem d_Mo_frequencyNow_7 : decode b_Mo_frequencyNow 7 = .ok (.if_icmp .ge 19, 3) := by decide +kernel
theorem d_Mo_frequencyNow_10 : decode b_Mo_frequencyNow 10 = .ok (.lload_n 1, 1) := by decide +kernel
theorem d_Mo_frequencyNow_11 : decode b_Mo_frequencyNow 11 = .ok (.aload_n 0, 1) := by decide +kernel
theorem d_Mo_frequencyNow_12 : decode b_Mo_frequencyNow 12 = .ok (.getfield 40, 3) := by decide +kernel
theorem d_Mo_frequencyNow_15 : decode b_Mo_frequencyNow 15 = .ok (.iload_n 3, 1) := by decide +kernel
theorem d_Mo_frequencyNow_16 : decode b_Mo_frequencyNow 16 = .ok (.iaload, 1) := by decide +kernel
theorem d_Mo_frequencyNow_17 : decode b_Mo_frequencyNow 17 = .ok (.i2l, 1) := by decide +kernel
theorem d_Mo_frequencyNow_18 : decode b_Mo_frequencyNow 18 = .ok (.ladd, 1) := by decide +kernel
theorem d_Mo_frequencyNow_19 : decode b_Mo_frequencyNow 19 = .ok (.lstore_n 1, 1) := by decide +kernel
theorem d_Mo_frequencyNow_20 : decode b_Mo_frequencyNow 20 = .ok (.iinc 3 1, 3) := by decide +kernel
theorem d_Mo_frequencyNow_23 : decode b_Mo_frequencyNow 23 = .ok (.goto (-19), 3) := by decide +kernel
theorem d_Mo_frequencyNow_26 : decode b_Mo_frequencyNow 26 = .ok (.lload_n 1, 1) := by decide +kernel
theorem d_Mo_frequencyNow_27 : decode b_Mo_frequencyNow 27 = .ok (.ldc2_w 115, 3) := by decide +kernel
theorem d_Mo_frequencyNow_30 : decode b_Mo_frequencyNow 30 = .ok (.lmul, 1) := by decide +kernel
theorem d_Mo_frequencyNow_31 : decode b_Mo_frequencyNow 31 = .ok (.ldc2_w 117, 3) := by decide +kernel
theorem d_Mo_frequencyNow_34 : decode b_Mo_frequencyNow 34 = .ok (.ldiv, 1) := by decide +kernel
theorem d_Mo_frequencyNow_35 : decode b_Mo_frequencyNow 35 = .ok (.l2i, 1) := by decide +kernel
theorem d_Mo_frequencyNow_36 : decode b_Mo_frequencyNow 36 = .ok (.ireturn, 1) := by decide +kernel
theorem d_Mo_contactor_0 : decode b_Mo_contactor 0 = .ok (.aload_n 0, 1) := by decide +kernel
theorem d_Mo_contactor_1 : decode b_Mo_contactor 1 = .ok (.iload_n 1, 1) := by decide +kernel
theorem d_Mo_contactor_2 : decode b_Mo_contactor 2 = .ok (.iload_n 2, 1) := by decide +kernel
theorem d_Mo_contactor_3 : decode b_Mo_contactor 3 = .ok (.invokevirtual 145, 3) := by decide +kernel
theorem d_Mo_contactor_6 : decode b_Mo_contactor 6 = .ok (.istore_n 3, 1) := by decide +kernel
theorem d_Mo_contactor_7 : decode b_Mo_contactor 7 = .ok (.iload_n 3, 1) := by decide +kernel
theorem d_Mo_contactor_8 : decode b_Mo_contactor 8 = .ok (.ifCond .lt 23, 3) := by decide +kernel
theorem d_Mo_contactor_11 : decode b_Mo_contactor 11 = .ok (.aload_n 0, 1) := by decide +kernel
theorem d_Mo_contactor_12 : decode b_Mo_contactor 12 = .ok (.getfield 90, 3) := by decide +kernel
theorem d_Mo_contactor_15 : decode b_Mo_contactor 15 = .ok (.ifCond .eq 16, 3) := by decide +kernel
theorem d_Mo_contactor_18 : decode b_Mo_contactor 18 = .ok (.aload_n 0, 1) := by decide +kernel
theorem d_Mo_contactor_19 : decode b_Mo_contactor 19 = .ok (.iconst 0, 1) := by decide +kernel
theorem d_Mo_contactor_20 : decode b_Mo_contactor 20 = .ok (.putfield 90, 3) := by decide +kernel
theorem d_Mo_contactor_23 : decode b_Mo_contactor 23 = .ok (.aload_n 0, 1) := by decide +kernel
theorem d_Mo_contactor_24 : decode b_Mo_contactor 24 = .ok (.bipush 10, 2) := by decide +kernel
theorem d_Mo_contactor_26 : decode b_Mo_contactor 26 = .ok (.iload_n 3, 1) := by decide +kernel
theorem d_Mo_contactor_27 : decode b_Mo_contactor 27 = .ok (.iadd, 1) := by decide +kernel
theorem d_Mo_contactor_28 : decode b_Mo_contactor 28 = .ok (.invokevirtual 93, 3) := by decide +kernel
theorem d_Mo_contactor_31 : decode b_Mo_contactor 31 = .ok (.iload_n 1, 1) := by decide +kernel
theorem d_Mo_contactor_32 : decode b_Mo_contactor 32 = .ok (.aload_n 0, 1) := by decide +kernel
theorem d_Mo_contactor_33 : decode b_Mo_contactor 33 = .ok (.getfield 10, 3) := by decide +kernel
theorem d_Mo_contactor_36 : decode b_Mo_contactor 36 = .ok (.iconst 3, 1) := by decide +kernel
theorem d_Mo_contactor_37 : decode b_Mo_contactor 37 = .ok (.iaload, 1) := by decide +kernel
theorem d_Mo_contactor_38 : decode b_Mo_contactor 38 = .ok (.aload_n 0, 1) := by decide +kernel
theorem d_Mo_contactor_39 : decode b_Mo_contactor 39 = .ok (.getfield 10, 3) := by decide +kernel
theorem d_Mo_contactor_42 : decode b_Mo_contactor 42 = .ok (.iconst 4, 1) := by decide +kernel
theorem d_Mo_contactor_43 : decode b_Mo_contactor 43 = .ok (.iaload, 1) := by decide +kernel
theorem d_Mo_contactor_44 : decode b_Mo_contactor 44 = .ok (.invokestatic 59, 3) := by decide +kernel
theorem d_Mo_contactor_47 : decode b_Mo_contactor 47 = .ok (.ifCond .eq 31, 3) := by decide +kernel
theorem d_Mo_contactor_50 : decode b_Mo_contactor 50 = .ok (.iload_n 2, 1) := by decide +kernel
theorem d_Mo_contactor_51 : decode b_Mo_contactor 51 = .ok (.aload_n 0, 1) := by decide +kernel
theorem d_Mo_contactor_52 : decode b_Mo_contactor 52 = .ok (.getfield 10, 3) := by decide +kernel
theorem d_Mo_contactor_55 : decode b_Mo_contactor 55 = .ok (.iconst 5, 1) := by decide +kernel
theorem d_Mo_contactor_56 : decode b_Mo_contactor 56 = .ok (.iaload, 1) := by decide +kernel
theorem d_Mo_contactor_57 : decode b_Mo_contactor 57 = .ok (.aload_n 0, 1) := by decide +kernel
theorem d_Mo_contactor_58 : decode b_Mo_contactor 58 = .ok (.getfield 10, 3) := by decide +kernel
theorem d_Mo_contactor_61 : decode b_Mo_contactor 61 = .ok (.bipush 6, 2) := by decide +kernel
theorem d_Mo_contactor_63 : decode b_Mo_contactor 63 = .ok (.iaload, 1) := by decide +kernel
theorem d_Mo_contactor_64 : decode b_Mo_contactor 64 = .ok (.invokestatic 59, 3) := by decide +kernel
theorem d_Mo_contactor_67 : decode b_Mo_contactor 67 = .ok (.ifCond .eq 11, 3) := by decide +kernel
theorem d_Mo_contactor_70 : decode b_Mo_contactor 70 = .ok (.iload_n 3, 1) := by decide +kernel
theorem d_Mo_contactor_71 : decode b_Mo_contactor 71 = .ok (.ifCond .ge 7, 3) := by decide +kernel
theorem d_Mo_contactor_74 : decode b_Mo_contactor 74 = .ok (.iconst 1, 1) := by decide +kernel
theorem d_Mo_contactor_75 : decode b_Mo_contactor 75 = .ok (.goto 4, 3) := by decide +kernel
theorem d_Mo_contactor_78 : decode b_Mo_contactor 78 = .ok (.iconst 0, 1) := by decide +kernel
theorem d_Mo_contactor_79 : decode b_Mo_contactor 79 = .ok (.istore 4, 2) := by decide +kernel
theorem d_Mo_contactor_81 : decode b_Mo_contactor 81 = .ok (.aload_n 0, 1) := by decide +kernel
theorem d_Mo_contactor_82 : decode b_Mo_contactor 82 = .ok (.iload 4, 2) := by decide +kernel
theorem d_Mo_contactor_84 : decode b_Mo_contactor 84 = .ok (.ifCond .eq 26, 3) := by decide +kernel
theorem d_Mo_contactor_87 : decode b_Mo_contactor 87 = .ok (.aload_n 0, 1) := by decide +kernel
theorem d_Mo_contactor_88 : decode b_Mo_contactor 88 = .ok (.getfield 149, 3) := by decide +kernel
theorem d_Mo_contactor_91 : decode b_Mo_contactor 91 = .ok (.aload_n 0, 1) := by decide +kernel
theorem d_Mo_contactor_92 : decode b_Mo_contactor 92 = .ok (.getfield 149, 3) := by decide +kernel
theorem d_Mo_contactor_95 : decode b_Mo_contactor 95 = .ok (.sipush 1000, 3) := by decide +kernel
theorem d_Mo_contactor_98 : decode b_Mo_contactor 98 = .ok (.if_icmp .ge 7, 3) := by decide +kernel
theorem d_Mo_contactor_101 : decode b_Mo_contactor 101 = .ok (.iconst 1, 1) := by decide +kernel
theorem d_Mo_contactor_102 : decode b_Mo_contactor 102 = .ok (.goto 4, 3) := by decide +kernel
theorem d_Mo_contactor_105 : decode b_Mo_contactor 105 = .ok (.iconst 0, 1) := by decide +kernel
theorem d_Mo_contactor_106 : decode b_Mo_contactor 106 = .ok (.iadd, 1) := by decide +kernel
theorem d_Mo_contactor_107 : decode b_Mo_contactor 107 = .ok (.goto 4, 3) := by decide +kernel
theorem d_Mo_contactor_110 : decode b_Mo_contactor 110 = .ok (.iconst 0, 1) := by decide +kernel
theorem d_Mo_contactor_111 : decode b_Mo_contactor 111 = .ok (.putfield 149, 3) := by decide +kernel
theorem d_Mo_contactor_114 : decode b_Mo_contactor 114 = .ok (.aload_n 0, 1) := by decide +kernel
theorem d_Mo_contactor_115 : decode b_Mo_contactor 115 = .ok (.getfield 90, 3) := by decide +kernel
theorem d_Mo_contactor_118 : decode b_Mo_contactor 118 = .ok (.ifCond .ne 40, 3) := by decide +kernel
theorem d_Mo_contactor_121 : decode b_Mo_contactor 121 = .ok (.aload_n 0, 1) := by decide +kernel
theorem d_Mo_contactor_122 : decode b_Mo_contactor 122 = .ok (.getfield 67, 3) := by decide +kernel
theorem d_Mo_contactor_125 : decode b_Mo_contactor 125 = .ok (.ifCond .eq 33, 3) := by decide +kernel
theorem d_Mo_contactor_128 : decode b_Mo_contactor 128 = .ok (.aload_n 0, 1) := by decide +kernel
theorem d_Mo_contactor_129 : decode b_Mo_contactor 129 = .ok (.getfield 87, 3) := by decide +kernel
theorem d_Mo_contactor_132 : decode b_Mo_contactor 132 = .ok (.ifCond .ne 26, 3) := by decide +kernel
theorem d_Mo_contactor_135 : decode b_Mo_contactor 135 = .ok (.aload_n 0, 1) := by decide +kernel
theorem d_Mo_contactor_136 : decode b_Mo_contactor 136 = .ok (.getfield 149, 3) := by decide +kernel
theorem d_Mo_contactor_139 : decode b_Mo_contactor 139 = .ok (.aload_n 0, 1) := by decide +kernel
theorem d_Mo_contactor_140 : decode b_Mo_contactor 140 = .ok (.getfield 10, 3) := by decide +kernel
theorem d_Mo_contactor_143 : decode b_Mo_contactor 143 = .ok (.iconst 2, 1) := by decide +kernel
theorem d_Mo_contactor_144 : decode b_Mo_contactor 144 = .ok (.iaload, 1) := by decide +kernel
theorem d_Mo_contactor_145 : decode b_Mo_contactor 145 = .ok (.if_icmp .lt 13, 3) := by decide +kernel
theorem d_Mo_contactor_148 : decode b_Mo_contactor 148 = .ok (.aload_n 0, 1) := by decide +kernel
theorem d_Mo_contactor_149 : decode b_Mo_contactor 149 = .ok (.iconst 1, 1) := by decide +kernel
theorem d_Mo_contactor_150 : decode b_Mo_contactor 150 = .ok (.putfield 90, 3) := by decide +kernel
theorem d_Mo_contactor_153 : decode b_Mo_contactor 153 = .ok (.aload_n 0, 1) := by decide +kernel
theorem d_Mo_contactor_154 : decode b_Mo_contactor 154 = .ok (.iconst 1, 1) := by decide +kernel
theorem d_Mo_contactor_155 : decode b_Mo_contactor 155 = .ok (.invokevirtual 93, 3) := by decide +kernel
theorem d_Mo_contactor_158 : decode b_Mo_contactor 158 = .ok (.aload_n 0, 1) := by decide +kernel
theorem d_Mo_contactor_159 : decode b_Mo_contactor 159 = .ok (.aload_n 0, 1) := by decide +kernel
theorem d_Mo_contactor_160 : decode b_Mo_contactor 160 = .ok (.getfield 97, 3) := by decide +kernel
theorem d_Mo_contactor_163 : decode b_Mo_contactor 163 = .ok (.aload_n 0, 1) := by decide +kernel
theorem d_Mo_contactor_164 : decode b_Mo_contactor 164 = .ok (.getfield 90, 3) := by decide +kernel
theorem d_Mo_contactor_167 : decode b_Mo_contactor 167 = .ok (.if_icmp .eq 12, 3) := by decide +kernel
theorem d_Mo_contactor_170 : decode b_Mo_contactor 170 = .ok (.aload_n 0, 1) := by decide +kernel
theorem d_Mo_contactor_171 : decode b_Mo_contactor 171 = .ok (.getfield 152, 3) := by decide +kernel
theorem d_Mo_contactor_174 : decode b_Mo_contactor 174 = .ok (.iconst 1, 1) := by decide +kernel
theorem d_Mo_contactor_175 : decode b_Mo_contactor 175 = .ok (.iadd, 1) := by decide +kernel
theorem d_Mo_contactor_176 : decode b_Mo_contactor 176 = .ok (.goto 4, 3) := by decide +kernel
theorem d_Mo_contactor_179 : decode b_Mo_contactor 179 = .ok (.iconst 0, 1) := by decide +kernel
theorem d_Mo_contactor_180 : decode b_Mo_contactor 180 = .ok (.putfield 152, 3) := by decide +kernel
theorem d_Mo_contactor_183 : decode b_Mo_contactor 183 = .ok (.aload_n 0, 1) := by decide +kernel
theorem d_Mo_contactor_184 : decode b_Mo_contactor 184 = .ok (.getfield 152, 3) := by decide +kernel
theorem d_Mo_contactor_187 : decode b_Mo_contactor 187 = .ok (.aload_n 0, 1) := by decide +kernel
theorem d_Mo_contactor_188 : decode b_Mo_contactor 188 = .ok (.getfield 10, 3) := by decide +kernel
theorem d_Mo_contactor_191 : decode b_Mo_contactor 191 = .ok (.bipush 11, 2) := by decide +kernel
theorem d_Mo_contactor_193 : decode b_Mo_contactor 193 = .ok (.iaload, 1) := by decide +kernel
theorem d_Mo_contactor_194 : decode b_Mo_contactor 194 = .ok (.if_icmp .lt 28, 3) := by decide +kernel
theorem d_Mo_contactor_197 : decode b_Mo_contactor 197 = .ok (.aload_n 0, 1) := by decide +kernel
theorem d_Mo_contactor_198 : decode b_Mo_contactor 198 = .ok (.iconst 1, 1) := by decide +kernel
theorem d_Mo_contactor_199 : decode b_Mo_contactor 199 = .ok (.putfield 87, 3) := by decide +kernel
theorem d_Mo_contactor_202 : decode b_Mo_contactor 202 = .ok (.aload_n 0, 1) := by decide +kernel
theorem d_Mo_contactor_203 : decode b_Mo_contactor 203 = .ok (.iconst 0, 1) := by decide +kernel
theorem d_Mo_contactor_204 : decode b_Mo_contactor 204 = .ok (.putfield 67, 3) := by decide +kernel
theorem d_Mo_contactor_207 : decode b_Mo_contactor 207 = .ok (.aload_n 0, 1) := by decide +kernel
theorem d_Mo_contactor_208 : decode b_Mo_contactor 208 = .ok (.iconst 0, 1) := by decide +kernel
theorem d_Mo_contactor_209 : decode b_Mo_contactor 209 = .ok (.putfield 90, 3) := by decide +kernel
theorem d_Mo_contactor_212 : decode b_Mo_contactor 212 = .ok (.aload_n 0, 1) := by decide +kernel
theorem d_Mo_contactor_213 : decode b_Mo_contactor 213 = .ok (.iconst 0, 1) := by decide +kernel
theorem d_Mo_contactor_214 : decode b_Mo_contactor 214 = .ok (.putfield 152, 3) := by decide +kernel
theorem d_Mo_contactor_217 : decode b_Mo_contactor 217 = .ok (.aload_n 0, 1) := by decide +kernel
theorem d_Mo_contactor_218 : decode b_Mo_contactor 218 = .ok (.iconst 3, 1) := by decide +kernel
theorem d_Mo_contactor_219 : decode b_Mo_contactor 219 = .ok (.invokevirtual 93, 3) := by decide +kernel
theorem d_Mo_contactor_222 : decode b_Mo_contactor 222 = .ok (.return_, 1) := by decide +kernel
theorem d_Mo_trips_0 : decode b_Mo_trips 0 = .ok (.iconst (-1), 1) := by decide +kernel
theorem d_Mo_trips_1 : decode b_Mo_trips 1 = .ok (.istore_n 3, 1) := by decide +kernel
theorem d_Mo_trips_2 : decode b_Mo_trips 2 = .ok (.iconst 5, 1) := by decide +kernel
theorem d_Mo_trips_3 : decode b_Mo_trips 3 = .ok (.istore 4, 2) := by decide +kernel
theorem d_Mo_trips_5 : decode b_Mo_trips 5 = .ok (.iload 4, 2) := by decide +kernel
theorem d_Mo_trips_7 : decode b_Mo_trips 7 = .ok (.ifCond .lt 113, 3) := by decide +kernel
theorem d_Mo_trips_10 : decode b_Mo_trips 10 = .ok (.aload_n 0, 1) := by decide +kernel
theorem d_Mo_trips_11 : decode b_Mo_trips 11 = .ok (.getfield 24, 3) := by decide +kernel
theorem d_Mo_trips_14 : decode b_Mo_trips 14 = .ok (.iload 4, 2) := by decide +kernel
theorem d_Mo_trips_16 : decode b_Mo_trips 16 = .ok (.iaload, 1) := by decide +kernel
theorem d_Mo_trips_17 : decode b_Mo_trips 17 = .ok (.ifCond .le 18, 3) := by decide +kernel
theorem d_Mo_trips_20 : decode b_Mo_trips 20 = .ok (.aload_n 0, 1) := by decide +kernel
theorem d_Mo_trips_21 : decode b_Mo_trips 21 = .ok (.iload 4, 2) := by decide +kernel
theorem d_Mo_trips_23 : decode b_Mo_trips 23 = .ok (.iload_n 1, 1) := by decide +kernel
theorem d_Mo_trips_24 : decode b_Mo_trips 24 = .ok (.iload_n 2, 1) := by decide +kernel
theorem d_Mo_trips_25 : decode b_Mo_trips 25 = .ok (.invokevirtual 142, 3) := by decide +kernel
theorem d_Mo_trips_28 : decode b_Mo_trips 28 = .ok (.ifCond .eq 7, 3) := by decide +kernel
theorem d_Mo_trips_31 : decode b_Mo_trips 31 = .ok (.iconst 1, 1) := by decide +kernel
theorem d_Mo_trips_32 : decode b_Mo_trips 32 = .ok (.goto 4, 3) := by decide +kernel
theorem d_Mo_trips_35 : decode b_Mo_trips 35 = .ok (.iconst 0, 1) := by decide +kernel
theorem d_Mo_trips_36 : decode b_Mo_trips 36 = .ok (.istore 5, 2) := by decide +kernel
theorem d_Mo_trips_38 : decode b_Mo_trips 38 = .ok (.aload_n 0, 1) := by decide +kernel
theorem d_Mo_trips_39 : decode b_Mo_trips 39 = .ok (.getfield 33, 3) := by decide +kernel
theorem d_Mo_trips_42 : decode b_Mo_trips 42 = .ok (.iload 4, 2) := by decide +kernel
theorem d_Mo_trips_44 : decode b_Mo_trips 44 = .ok (.iload 5, 2) := by decide +kernel
theorem d_Mo_trips_46 : decode b_Mo_trips 46 = .ok (.ifCond .eq 36, 3) := by decide +kernel
theorem d_Mo_trips_49 : decode b_Mo_trips 49 = .ok (.aload_n 0, 1) := by decide +kernel
theorem d_Mo_trips_50 : decode b_Mo_trips 50 = .ok (.getfield 33, 3) := by decide +kernel
theorem d_Mo_trips_53 : decode b_Mo_trips 53 = .ok (.iload 4, 2) := by decide +kernel
theorem d_Mo_trips_55 : decode b_Mo_trips 55 = .ok (.iaload, 1) := by decide +kernel
theorem d_Mo_trips_56 : decode b_Mo_trips 56 = .ok (.aload_n 0, 1) := by decide +kernel
theorem d_Mo_trips_57 : decode b_Mo_trips 57 = .ok (.getfield 33, 3) := by decide +kernel
theorem d_Mo_trips_60 : decode b_Mo_trips 60 = .ok (.iload 4, 2) := by decide +kernel
theorem d_Mo_trips_62 : decode b_Mo_trips 62 = .ok (.iaload, 1) := by decide +kernel
theorem d_Mo_trips_63 : decode b_Mo_trips 63 = .ok (.aload_n 0, 1) := by decide +kernel
theorem d_Mo_trips_64 : decode b_Mo_trips 64 = .ok (.getfield 30, 3) := by decide +kernel
theorem d_Mo_trips_67 : decode b_Mo_trips 67 = .ok (.iload 4, 2) := by decide +kernel
theorem d_Mo_trips_69 : decode b_Mo_trips 69 = .ok (.iaload, 1) := by decide +kernel
theorem d_Mo_trips_70 : decode b_Mo_trips 70 = .ok (.if_icmp .ge 7, 3) := by decide +kernel
theorem d_Mo_trips_73 : decode b_Mo_trips 73 = .ok (.iconst 1, 1) := by decide +kernel
theorem d_Mo_trips_74 : decode b_Mo_trips 74 = .ok (.goto 4, 3) := by decide +kernel
theorem d_Mo_trips_77 : decode b_Mo_trips 77 = .ok (.iconst 0, 1) := by decide +kernel
theorem d_Mo_trips_78 : decode b_Mo_trips 78 = .ok (.iadd, 1) := by decide +kernel
theorem d_Mo_trips_79 : decode b_Mo_trips 79 = .ok (.goto 4, 3) := by decide +kernel
theorem d_Mo_trips_82 : decode b_Mo_trips 82 = .ok (.iconst 0, 1) := by decide +kernel
theorem d_Mo_trips_83 : decode b_Mo_trips 83 = .ok (.iastore, 1) := by decide +kernel
theorem d_Mo_trips_84 : decode b_Mo_trips 84 = .ok (.aload_n 0, 1) := by decide +kernel
theorem d_Mo_trips_85 : decode b_Mo_trips 85 = .ok (.getfield 24, 3) := by decide +kernel
theorem d_Mo_trips_88 : decode b_Mo_trips 88 = .ok (.iload 4, 2) := by decide +kernel
theorem d_Mo_trips_90 : decode b_Mo_trips 90 = .ok (.iaload, 1) := by decide +kernel
theorem d_Mo_trips_91 : decode b_Mo_trips 91 = .ok (.ifCond .le 23, 3) := by decide +kernel
theorem d_Mo_trips_94 : decode b_Mo_trips 94 = .ok (.aload_n 0, 1) := by decide +kernel
theorem d_Mo_trips_95 : decode b_Mo_trips 95 = .ok (.getfield 33, 3) := by decide +kernel
theorem d_Mo_trips_98 : decode b_Mo_trips 98 = .ok (.iload 4, 2) := by decide +kernel
theorem d_Mo_trips_100 : decode b_Mo_trips 100 = .ok (.iaload, 1) := by decide +kernel
theorem d_Mo_trips_101 : decode b_Mo_trips 101 = .ok (.aload_n 0, 1) := by decide +kernel
theorem d_Mo_trips_102 : decode b_Mo_trips 102 = .ok (.getfield 30, 3) := by decide +kernel
theorem d_Mo_trips_105 : decode b_Mo_trips 105 = .ok (.iload 4, 2) := by decide +kernel
theorem d_Mo_trips_107 : decode b_Mo_trips 107 = .ok (.iaload, 1) := by decide +kernel
theorem d_Mo_trips_108 : decode b_Mo_trips 108 = .ok (.if_icmp .ne 6, 3) := by decide +kernel
theorem d_Mo_trips_111 : decode b_Mo_trips 111 = .ok (.iload 4, 2) := by decide +kernel
theorem d_Mo_trips_113 : decode b_Mo_trips 113 = .ok (.istore_n 3, 1) := by decide +kernel
theorem d_Mo_trips_114 : decode b_Mo_trips 114 = .ok (.iinc 4 (-1), 3) := by decide +kernel
theorem d_Mo_trips_117 : decode b_Mo_trips 117 = .ok (.goto (-112), 3) := by decide +kernel
theorem d_Mo_trips_120 : decode b_Mo_trips 120 = .ok (.iload_n 3, 1) := by decide +kernel
theorem d_Mo_trips_121 : decode b_Mo_trips 121 = .ok (.ireturn, 1) := by decide +kernel
theorem d_Mo_beyond_0 : decode b_Mo_beyond 0 = .ok (.aload_n 0, 1) := by decide +kernel
theorem d_Mo_beyond_1 : decode b_Mo_beyond 1 = .ok (.getfield 27, 3) := by decide +kernel
theorem d_Mo_beyond_4 : decode b_Mo_beyond 4 = .ok (.iload_n 1, 1) := by decide +kernel
theorem d_Mo_beyond_5 : decode b_Mo_beyond 5 = .ok (.iaload, 1) := by decide +kernel
theorem d_Mo_beyond_6 : decode b_Mo_beyond 6 = .ok (.istore 4, 2) := by decide +kernel
theorem d_Mo_beyond_8 : decode b_Mo_beyond 8 = .ok (.aload_n 0, 1) := by decide +kernel
theorem d_Mo_beyond_9 : decode b_Mo_beyond 9 = .ok (.getfield 24, 3) := by decide +kernel
theorem d_Mo_beyond_12 : decode b_Mo_beyond 12 = .ok (.iload_n 1, 1) := by decide +kernel
theorem d_Mo_beyond_13 : decode b_Mo_beyond 13 = .ok (.iaload, 1) := by decide +kernel
theorem d_Mo_beyond_14 : decode b_Mo_beyond 14 = .ok (.iconst 1, 1) := by decide +kernel
theorem d_Mo_beyond_15 : decode b_Mo_beyond 15 = .ok (.if_icmp .ne 17, 3) := by decide +kernel
theorem d_Mo_beyond_18 : decode b_Mo_beyond 18 = .ok (.iload_n 2, 1) := by decide +kernel
theorem d_Mo_beyond_19 : decode b_Mo_beyond 19 = .ok (.iload 4, 2) := by decide +kernel
theorem d_Mo_beyond_21 : decode b_Mo_beyond 21 = .ok (.if_icmp .ge 7, 3) := by decide +kernel
theorem d_Mo_beyond_24 : decode b_Mo_beyond 24 = .ok (.iconst 1, 1) := by decide +kernel
theorem d_Mo_beyond_25 : decode b_Mo_beyond 25 = .ok (.goto 66, 3) := by decide +kernel
theorem d_Mo_beyond_28 : decode b_Mo_beyond 28 = .ok (.iconst 0, 1) := by decide +kernel
theorem d_Mo_beyond_29 : decode b_Mo_beyond 29 = .ok (.goto 62, 3) := by decide +kernel
theorem d_Mo_beyond_32 : decode b_Mo_beyond 32 = .ok (.aload_n 0, 1) := by decide +kernel
theorem d_Mo_beyond_33 : decode b_Mo_beyond 33 = .ok (.getfield 24, 3) := by decide +kernel
theorem d_Mo_beyond_36 : decode b_Mo_beyond 36 = .ok (.iload_n 1, 1) := by decide +kernel
theorem d_Mo_beyond_37 : decode b_Mo_beyond 37 = .ok (.iaload, 1) := by decide +kernel
theorem d_Mo_beyond_38 : decode b_Mo_beyond 38 = .ok (.iconst 2, 1) := by decide +kernel
theorem d_Mo_beyond_39 : decode b_Mo_beyond 39 = .ok (.if_icmp .ne 17, 3) := by decide +kernel
theorem d_Mo_beyond_42 : decode b_Mo_beyond 42 = .ok (.iload_n 2, 1) := by decide +kernel
theorem d_Mo_beyond_43 : decode b_Mo_beyond 43 = .ok (.iload 4, 2) := by decide +kernel
theorem d_Mo_beyond_45 : decode b_Mo_beyond 45 = .ok (.if_icmp .le 7, 3) := by decide +kernel
theorem d_Mo_beyond_48 : decode b_Mo_beyond 48 = .ok (.iconst 1, 1) := by decide +kernel
theorem d_Mo_beyond_49 : decode b_Mo_beyond 49 = .ok (.goto 42, 3) := by decide +kernel
theorem d_Mo_beyond_52 : decode b_Mo_beyond 52 = .ok (.iconst 0, 1) := by decide +kernel
theorem d_Mo_beyond_53 : decode b_Mo_beyond 53 = .ok (.goto 38, 3) := by decide +kernel
theorem d_Mo_beyond_56 : decode b_Mo_beyond 56 = .ok (.aload_n 0, 1) := by decide +kernel
theorem d_Mo_beyond_57 : decode b_Mo_beyond 57 = .ok (.getfield 24, 3) := by decide +kernel
theorem d_Mo_beyond_60 : decode b_Mo_beyond 60 = .ok (.iload_n 1, 1) := by decide +kernel
theorem d_Mo_beyond_61 : decode b_Mo_beyond 61 = .ok (.iaload, 1) := by decide +kernel
theorem d_Mo_beyond_62 : decode b_Mo_beyond 62 = .ok (.iconst 3, 1) := by decide +kernel
theorem d_Mo_beyond_63 : decode b_Mo_beyond 63 = .ok (.if_icmp .ne 17, 3) := by decide +kernel
theorem d_Mo_beyond_66 : decode b_Mo_beyond 66 = .ok (.iload_n 3, 1) := by decide +kernel
theorem d_Mo_beyond_67 : decode b_Mo_beyond 67 = .ok (.iload 4, 2) := by decide +kernel
theorem d_Mo_beyond_69 : decode b_Mo_beyond 69 = .ok (.if_icmp .ge 7, 3) := by decide +kernel
theorem d_Mo_beyond_72 : decode b_Mo_beyond 72 = .ok (.iconst 1, 1) := by decide +kernel
theorem d_Mo_beyond_73 : decode b_Mo_beyond 73 = .ok (.goto 18, 3) := by decide +kernel
theorem d_Mo_beyond_76 : decode b_Mo_beyond 76 = .ok (.iconst 0, 1) := by decide +kernel
theorem d_Mo_beyond_77 : decode b_Mo_beyond 77 = .ok (.goto 14, 3) := by decide +kernel
theorem d_Mo_beyond_80 : decode b_Mo_beyond 80 = .ok (.iload_n 3, 1) := by decide +kernel
theorem d_Mo_beyond_81 : decode b_Mo_beyond 81 = .ok (.iload 4, 2) := by decide +kernel
theorem d_Mo_beyond_83 : decode b_Mo_beyond 83 = .ok (.if_icmp .le 7, 3) := by decide +kernel
theorem d_Mo_beyond_86 : decode b_Mo_beyond 86 = .ok (.iconst 1, 1) := by decide +kernel
theorem d_Mo_beyond_87 : decode b_Mo_beyond 87 = .ok (.goto 4, 3) := by decide +kernel
theorem d_Mo_beyond_90 : decode b_Mo_beyond 90 = .ok (.iconst 0, 1) := by decide +kernel
theorem d_Mo_beyond_91 : decode b_Mo_beyond 91 = .ok (.ireturn, 1) := by decide +kernel
theorem d_Mo_command_0 : decode b_Mo_command 0 = .ok (.aload_n 0, 1) := by decide +kernel
theorem d_Mo_command_1 : decode b_Mo_command 1 = .ok (.getfield 90, 3) := by decide +kernel
theorem d_Mo_command_4 : decode b_Mo_command 4 = .ok (.ifCond .ne 19, 3) := by decide +kernel
theorem d_Mo_command_7 : decode b_Mo_command 7 = .ok (.aload_n 0, 1) := by decide +kernel
theorem d_Mo_command_8 : decode b_Mo_command 8 = .ok (.iconst 0, 1) := by decide +kernel
theorem d_Mo_command_9 : decode b_Mo_command 9 = .ok (.putfield 155, 3) := by decide +kernel
theorem d_Mo_command_12 : decode b_Mo_command 12 = .ok (.aload_n 0, 1) := by decide +kernel
theorem d_Mo_command_13 : decode b_Mo_command 13 = .ok (.iconst 0, 1) := by decide +kernel
theorem d_Mo_command_14 : decode b_Mo_command 14 = .ok (.putfield 158, 3) := by decide +kernel
theorem d_Mo_command_17 : decode b_Mo_command 17 = .ok (.aload_n 0, 1) := by decide +kernel
theorem d_Mo_command_18 : decode b_Mo_command 18 = .ok (.iconst 0, 1) := by decide +kernel
theorem d_Mo_command_19 : decode b_Mo_command 19 = .ok (.putfield 161, 3) := by decide +kernel
theorem d_Mo_command_22 : decode b_Mo_command 22 = .ok (.return_, 1) := by decide +kernel
theorem d_Mo_command_23 : decode b_Mo_command 23 = .ok (.aload_n 0, 1) := by decide +kernel
theorem d_Mo_command_24 : decode b_Mo_command 24 = .ok (.getfield 10, 3) := by decide +kernel
theorem d_Mo_command_27 : decode b_Mo_command 27 = .ok (.iconst 0, 1) := by decide +kernel
theorem d_Mo_command_28 : decode b_Mo_command 28 = .ok (.iaload, 1) := by decide +kernel
theorem d_Mo_command_29 : decode b_Mo_command 29 = .ok (.istore_n 3, 1) := by decide +kernel
theorem d_Mo_command_30 : decode b_Mo_command 30 = .ok (.iload_n 2, 1) := by decide +kernel
theorem d_Mo_command_31 : decode b_Mo_command 31 = .ok (.aload_n 0, 1) := by decide +kernel
theorem d_Mo_command_32 : decode b_Mo_command 32 = .ok (.getfield 10, 3) := by decide +kernel
theorem d_Mo_command_35 : decode b_Mo_command 35 = .ok (.bipush 7, 2) := by decide +kernel
theorem d_Mo_command_37 : decode b_Mo_command 37 = .ok (.iaload, 1) := by decide +kernel
theorem d_Mo_command_38 : decode b_Mo_command 38 = .ok (.if_icmp .le 26, 3) := by decide +kernel
theorem d_Mo_command_41 : decode b_Mo_command 41 = .ok (.aload_n 0, 1) := by decide +kernel
theorem d_Mo_command_42 : decode b_Mo_command 42 = .ok (.getfield 10, 3) := by decide +kernel
theorem d_Mo_command_45 : decode b_Mo_command 45 = .ok (.bipush 8, 2) := by decide +kernel
theorem d_Mo_command_47 : decode b_Mo_command 47 = .ok (.iaload, 1) := by decide +kernel
theorem d_Mo_command_48 : decode b_Mo_command 48 = .ok (.iload_n 2, 1) := by decide +kernel
theorem d_Mo_command_49 : decode b_Mo_command 49 = .ok (.aload_n 0, 1) := by decide +kernel
theorem d_Mo_command_50 : decode b_Mo_command 50 = .ok (.getfield 10, 3) := by decide +kernel
theorem d_Mo_command_53 : decode b_Mo_command 53 = .ok (.bipush 7, 2) := by decide +kernel
theorem d_Mo_command_55 : decode b_Mo_command 55 = .ok (.iaload, 1) := by decide +kernel
theorem d_Mo_command_56 : decode b_Mo_command 56 = .ok (.isub, 1) := by decide +kernel
theorem d_Mo_command_57 : decode b_Mo_command 57 = .ok (.bipush 100, 2) := by decide +kernel
theorem d_Mo_command_59 : decode b_Mo_command 59 = .ok (.idiv, 1) := by decide +kernel
theorem d_Mo_command_60 : decode b_Mo_command 60 = .ok (.imul, 1) := by decide +kernel
theorem d_Mo_command_61 : decode b_Mo_command 61 = .ok (.goto 4, 3) := by decide +kernel
theorem d_Mo_command_64 : decode b_Mo_command 64 = .ok (.iconst 0, 1) := by decide +kernel
theorem d_Mo_command_65 : decode b_Mo_command 65 = .ok (.istore 4, 2) := by decide +kernel
theorem d_Mo_command_67 : decode b_Mo_command 67 = .ok (.aload_n 0, 1) := by decide +kernel
theorem d_Mo_command_68 : decode b_Mo_command 68 = .ok (.getfield 100, 3) := by decide +kernel
theorem d_Mo_command_71 : decode b_Mo_command 71 = .ok (.iload 4, 2) := by decide +kernel
theorem d_Mo_command_73 : decode b_Mo_command 73 = .ok (.isub, 1) := by decide +kernel
theorem d_Mo_command_74 : decode b_Mo_command 74 = .ok (.istore 5, 2) := by decide +kernel
theorem d_Mo_command_76 : decode b_Mo_command 76 = .ok (.iload 5, 2) := by decide +kernel
theorem d_Mo_command_78 : decode b_Mo_command 78 = .ok (.ifCond .ge 7, 3) := by decide +kernel
theorem d_Mo_command_81 : decode b_Mo_command 81 = .ok (.iconst 0, 1) := by decide +kernel
theorem d_Mo_command_82 : decode b_Mo_command 82 = .ok (.goto 15, 3) := by decide +kernel
theorem d_Mo_command_85 : decode b_Mo_command 85 = .ok (.iload 5, 2) := by decide +kernel
theorem d_Mo_command_87 : decode b_Mo_command 87 = .ok (.iload_n 3, 1) := by decide +kernel
theorem d_Mo_command_88 : decode b_Mo_command 88 = .ok (.if_icmp .le 7, 3) := by decide +kernel
theorem d_Mo_command_91 : decode b_Mo_command 91 = .ok (.iload_n 3, 1) := by decide +kernel
theorem d_Mo_command_92 : decode b_Mo_command 92 = .ok (.goto 5, 3) := by decide +kernel
theorem d_Mo_command_95 : decode b_Mo_command 95 = .ok (.iload 5, 2) := by decide +kernel
theorem d_Mo_command_97 : decode b_Mo_command 97 = .ok (.istore 5, 2) := by decide +kernel
theorem d_Mo_command_99 : decode b_Mo_command 99 = .ok (.aload_n 0, 1) := by decide +kernel
theorem d_Mo_command_100 : decode b_Mo_command 100 = .ok (.dup, 1) := by decide +kernel
theorem d_Mo_command_101 : decode b_Mo_command 101 = .ok (.getfield 155, 3) := by decide +kernel
theorem d_Mo_command_104 : decode b_Mo_command 104 = .ok (.iload 5, 2) := by decide +kernel
theorem d_Mo_command_106 : decode b_Mo_command 106 = .ok (.aload_n 0, 1) := by decide +kernel
theorem d_Mo_command_107 : decode b_Mo_command 107 = .ok (.getfield 155, 3) := by decide +kernel
theorem d_Mo_command_110 : decode b_Mo_command 110 = .ok (.isub, 1) := by decide +kernel
theorem d_Mo_command_111 : decode b_Mo_command 111 = .ok (.aload_n 0, 1) := by decide +kernel
theorem d_Mo_command_112 : decode b_Mo_command 112 = .ok (.getfield 10, 3) := by decide +kernel
theorem d_Mo_command_115 : decode b_Mo_command 115 = .ok (.iconst 1, 1) := by decide +kernel
theorem d_Mo_command_116 : decode b_Mo_command 116 = .ok (.iaload, 1) := by decide +kernel
theorem d_Mo_command_117 : decode b_Mo_command 117 = .ok (.invokestatic 164, 3) := by decide +kernel
theorem d_Mo_command_120 : decode b_Mo_command 120 = .ok (.iadd, 1) := by decide +kernel
theorem d_Mo_command_121 : decode b_Mo_command 121 = .ok (.putfield 155, 3) := by decide +kernel
theorem d_Mo_command_124 : decode b_Mo_command 124 = .ok (.aload_n 0, 1) := by decide +kernel
theorem d_Mo_command_125 : decode b_Mo_command 125 = .ok (.getfield 103, 3) := by decide +kernel
theorem d_Mo_command_128 : decode b_Mo_command 128 = .ok (.aload_n 0, 1) := by decide +kernel
theorem d_Mo_command_129 : decode b_Mo_command 129 = .ok (.getfield 10, 3) := by decide +kernel
theorem d_Mo_command_132 : decode b_Mo_command 132 = .ok (.bipush 10, 2) := by decide +kernel
theorem d_Mo_command_134 : decode b_Mo_command 134 = .ok (.iaload, 1) := by decide +kernel
theorem d_Mo_command_135 : decode b_Mo_command 135 = .ok (.sipush 10000, 3) := by decide +kernel
theorem d_Mo_command_138 : decode b_Mo_command 138 = .ok (.iload_n 1, 1) := by decide +kernel
theorem d_Mo_command_139 : decode b_Mo_command 139 = .ok (.isub, 1) := by decide +kernel
theorem d_Mo_command_140 : decode b_Mo_command 140 = .ok (.imul, 1) := by decide +kernel
theorem d_Mo_command_141 : decode b_Mo_command 141 = .ok (.bipush 100, 2) := by decide +kernel
theorem d_Mo_command_143 : decode b_Mo_command 143 = .ok (.idiv, 1) := by decide +kernel
theorem d_Mo_command_144 : decode b_Mo_command 144 = .ok (.iadd, 1) := by decide +kernel
theorem d_Mo_command_145 : decode b_Mo_command 145 = .ok (.iload_n 3, 1) := by decide +kernel
theorem d_Mo_command_146 : decode b_Mo_command 146 = .ok (.invokestatic 164, 3) := by decide +kernel
theorem d_Mo_command_149 : decode b_Mo_command 149 = .ok (.istore 6, 2) := by decide +kernel
theorem d_Mo_command_151 : decode b_Mo_command 151 = .ok (.aload_n 0, 1) := by decide +kernel
theorem d_Mo_command_152 : decode b_Mo_command 152 = .ok (.getfield 10, 3) := by decide +kernel
theorem d_Mo_command_155 : decode b_Mo_command 155 = .ok (.bipush 9, 2) := by decide +kernel
theorem d_Mo_command_157 : decode b_Mo_command 157 = .ok (.iaload, 1) := by decide +kernel
theorem d_Mo_command_158 : decode b_Mo_command 158 = .ok (.ifCond .ne 55, 3) := by decide +kernel
theorem d_Mo_command_161 : decode b_Mo_command 161 = .ok (.aload_n 0, 1) := by decide +kernel
theorem d_Mo_command_162 : decode b_Mo_command 162 = .ok (.aload_n 0, 1) := by decide +kernel
theorem d_Mo_command_163 : decode b_Mo_command 163 = .ok (.getfield 155, 3) := by decide +kernel
theorem d_Mo_command_166 : decode b_Mo_command 166 = .ok (.iload_n 3, 1) := by decide +kernel
theorem d_Mo_command_167 : decode b_Mo_command 167 = .ok (.if_icmp .le 7, 3) := by decide +kernel
theorem d_Mo_command_170 : decode b_Mo_command 170 = .ok (.iload_n 3, 1) := by decide +kernel
theorem d_Mo_command_171 : decode b_Mo_command 171 = .ok (.goto 7, 3) := by decide +kernel
theorem d_Mo_command_174 : decode b_Mo_command 174 = .ok (.aload_n 0, 1) := by decide +kernel
theorem d_Mo_command_175 : decode b_Mo_command 175 = .ok (.getfield 155, 3) := by decide +kernel
theorem d_Mo_command_178 : decode b_Mo_command 178 = .ok (.putfield 158, 3) := by decide +kernel
theorem d_Mo_command_181 : decode b_Mo_command 181 = .ok (.aload_n 0, 1) := by decide +kernel
theorem d_Mo_command_182 : decode b_Mo_command 182 = .ok (.iload 6, 2) := by decide +kernel
theorem d_Mo_command_184 : decode b_Mo_command 184 = .ok (.iload_n 3, 1) := by decide +kernel
theorem d_Mo_command_185 : decode b_Mo_command 185 = .ok (.i2l, 1) := by decide +kernel
theorem d_Mo_command_186 : decode b_Mo_command 186 = .ok (.iload_n 3, 1) := by decide +kernel
theorem d_Mo_command_187 : decode b_Mo_command 187 = .ok (.i2l, 1) := by decide +kernel
theorem d_Mo_command_188 : decode b_Mo_command 188 = .ok (.lmul, 1) := by decide +kernel
theorem d_Mo_command_189 : decode b_Mo_command 189 = .ok (.aload_n 0, 1) := by decide +kernel
theorem d_Mo_command_190 : decode b_Mo_command 190 = .ok (.getfield 158, 3) := by decide +kernel
theorem d_Mo_command_193 : decode b_Mo_command 193 = .ok (.i2l, 1) := by decide +kernel
theorem d_Mo_command_194 : decode b_Mo_command 194 = .ok (.aload_n 0, 1) := by decide +kernel
theorem d_Mo_command_195 : decode b_Mo_command 195 = .ok (.getfield 158, 3) := by decide +kernel
theorem d_Mo_command_198 : decode b_Mo_command 198 = .ok (.i2l, 1) := by decide +kernel
theorem d_Mo_command_199 : decode b_Mo_command 199 = .ok (.lmul, 1) := by decide +kernel
theorem d_Mo_command_200 : decode b_Mo_command 200 = .ok (.lsub, 1) := by decide +kernel
theorem d_Mo_command_201 : decode b_Mo_command 201 = .ok (.invokestatic 121, 3) := by decide +kernel
theorem d_Mo_command_204 : decode b_Mo_command 204 = .ok (.invokestatic 164, 3) := by decide +kernel
theorem d_Mo_command_207 : decode b_Mo_command 207 = .ok (.putfield 161, 3) := by decide +kernel
theorem d_Mo_command_210 : decode b_Mo_command 210 = .ok (.goto 53, 3) := by decide +kernel
theorem d_Mo_command_213 : decode b_Mo_command 213 = .ok (.aload_n 0, 1) := by decide +kernel
theorem d_Mo_command_214 : decode b_Mo_command 214 = .ok (.iload 6, 2) := by decide +kernel
theorem d_Mo_command_216 : decode b_Mo_command 216 = .ok (.putfield 161, 3) := by decide +kernel
theorem d_Mo_command_219 : decode b_Mo_command 219 = .ok (.iload_n 3, 1) := by decide +kernel
theorem d_Mo_command_220 : decode b_Mo_command 220 = .ok (.i2l, 1) := by decide +kernel
theorem d_Mo_command_221 : decode b_Mo_command 221 = .ok (.iload_n 3, 1) := by decide +kernel
theorem d_Mo_command_222 : decode b_Mo_command 222 = .ok (.i2l, 1) := by decide +kernel
theorem d_Mo_command_223 : decode b_Mo_command 223 = .ok (.lmul, 1) := by decide +kernel
theorem d_Mo_command_224 : decode b_Mo_command 224 = .ok (.aload_n 0, 1) := by decide +kernel
theorem d_Mo_command_225 : decode b_Mo_command 225 = .ok (.getfield 161, 3) := by decide +kernel
theorem d_Mo_command_228 : decode b_Mo_command 228 = .ok (.i2l, 1) := by decide +kernel
theorem d_Mo_command_229 : decode b_Mo_command 229 = .ok (.aload_n 0, 1) := by decide +kernel
theorem d_Mo_command_230 : decode b_Mo_command 230 = .ok (.getfield 161, 3) := by decide +kernel
theorem d_Mo_command_233 : decode b_Mo_command 233 = .ok (.i2l, 1) := by decide +kernel
theorem d_Mo_command_234 : decode b_Mo_command 234 = .ok (.lmul, 1) := by decide +kernel
theorem d_Mo_command_235 : decode b_Mo_command 235 = .ok (.lsub, 1) := by decide +kernel
theorem d_Mo_command_236 : decode b_Mo_command 236 = .ok (.invokestatic 121, 3) := by decide +kernel
theorem d_Mo_command_239 : decode b_Mo_command 239 = .ok (.istore 7, 2) := by decide +kernel
theorem d_Mo_command_241 : decode b_Mo_command 241 = .ok (.aload_n 0, 1) := by decide +kernel
theorem d_Mo_command_242 : decode b_Mo_command 242 = .ok (.aload_n 0, 1) := by decide +kernel
theorem d_Mo_command_243 : decode b_Mo_command 243 = .ok (.getfield 155, 3) := by decide +kernel
theorem d_Mo_command_246 : decode b_Mo_command 246 = .ok (.iload 7, 2) := by decide +kernel
theorem d_Mo_command_248 : decode b_Mo_command 248 = .ok (.if_icmp .le 8, 3) := by decide +kernel
theorem d_Mo_command_251 : decode b_Mo_command 251 = .ok (.iload 7, 2) := by decide +kernel
theorem d_Mo_command_253 : decode b_Mo_command 253 = .ok (.goto 7, 3) := by decide +kernel
theorem d_Mo_command_256 : decode b_Mo_command 256 = .ok (.aload_n 0, 1) := by decide +kernel
theorem d_Mo_command_257 : decode b_Mo_command 257 = .ok (.getfield 155, 3) := by decide +kernel
theorem d_Mo_command_260 : decode b_Mo_command 260 = .ok (.putfield 158, 3) := by decide +kernel
theorem d_Mo_command_263 : decode b_Mo_command 263 = .ok (.return_, 1) := by decide +kernel
theorem d_Mo_limited_0 : decode b_Mo_limited 0 = .ok (.iload_n 0, 1) := by decide +kernel
theorem d_Mo_limited_1 : decode b_Mo_limited 1 = .ok (.iload_n 1, 1) := by decide +kernel
theorem d_Mo_limited_2 : decode b_Mo_limited 2 = .ok (.if_icmp .le 7, 3) := by decide +kernel
theorem d_Mo_limited_5 : decode b_Mo_limited 5 = .ok (.iload_n 1, 1) := by decide +kernel
theorem d_Mo_limited_6 : decode b_Mo_limited 6 = .ok (.goto 15, 3) := by decide +kernel
theorem d_Mo_limited_9 : decode b_Mo_limited 9 = .ok (.iload_n 0, 1) := by decide +kernel
theorem d_Mo_limited_10 : decode b_Mo_limited 10 = .ok (.iload_n 1, 1) := by decide +kernel
theorem d_Mo_limited_11 : decode b_Mo_limited 11 = .ok (.ineg, 1) := by decide +kernel
theorem d_Mo_limited_12 : decode b_Mo_limited 12 = .ok (.if_icmp .ge 8, 3) := by decide +kernel
theorem d_Mo_limited_15 : decode b_Mo_limited 15 = .ok (.iload_n 1, 1) := by decide +kernel
theorem d_Mo_limited_16 : decode b_Mo_limited 16 = .ok (.ineg, 1) := by decide +kernel
theorem d_Mo_limited_17 : decode b_Mo_limited 17 = .ok (.goto 4, 3) := by decide +kernel
theorem d_Mo_limited_20 : decode b_Mo_limited 20 = .ok (.iload_n 0, 1) := by decide +kernel
theorem d_Mo_limited_21 : decode b_Mo_limited 21 = .ok (.ireturn, 1) := by decide +kernel
theorem d_Mo_grid_0 : decode b_Mo_grid 0 = .ok (.aload_n 0, 1) := by decide +kernel
theorem d_Mo_grid_1 : decode b_Mo_grid 1 = .ok (.iconst 0, 1) := by decide +kernel
theorem d_Mo_grid_2 : decode b_Mo_grid 2 = .ok (.putfield 49, 3) := by decide +kernel
theorem d_Mo_grid_5 : decode b_Mo_grid 5 = .ok (.iload_n 1, 1) := by decide +kernel
theorem d_Mo_grid_6 : decode b_Mo_grid 6 = .ok (.iconst 0, 1) := by decide +kernel
theorem d_Mo_grid_7 : decode b_Mo_grid 7 = .ok (.sipush 20000, 3) := by decide +kernel
theorem d_Mo_grid_10 : decode b_Mo_grid 10 = .ok (.invokestatic 59, 3) := by decide +kernel
theorem d_Mo_grid_13 : decode b_Mo_grid 13 = .ok (.ifCond .eq 14, 3) := by decide +kernel
theorem d_Mo_grid_16 : decode b_Mo_grid 16 = .ok (.iload_n 2, 1) := by decide +kernel
theorem d_Mo_grid_17 : decode b_Mo_grid 17 = .ok (.ldc 16, 2) := by decide +kernel
theorem d_Mo_grid_19 : decode b_Mo_grid 19 = .ok (.ldc 20, 2) := by decide +kernel
theorem d_Mo_grid_21 : decode b_Mo_grid 21 = .ok (.invokestatic 59, 3) := by decide +kernel
theorem d_Mo_grid_24 : decode b_Mo_grid 24 = .ok (.ifCond .ne 9, 3) := by decide +kernel
theorem d_Mo_grid_27 : decode b_Mo_grid 27 = .ok (.aload_n 0, 1) := by decide +kernel
theorem d_Mo_grid_28 : decode b_Mo_grid 28 = .ok (.iconst 1, 1) := by decide +kernel
theorem d_Mo_grid_29 : decode b_Mo_grid 29 = .ok (.putfield 49, 3) := by decide +kernel
theorem d_Mo_grid_32 : decode b_Mo_grid 32 = .ok (.return_, 1) := by decide +kernel
theorem d_Mo_grid_33 : decode b_Mo_grid 33 = .ok (.aload_n 0, 1) := by decide +kernel
theorem d_Mo_grid_34 : decode b_Mo_grid 34 = .ok (.iconst 1, 1) := by decide +kernel
theorem d_Mo_grid_35 : decode b_Mo_grid 35 = .ok (.putfield 196, 3) := by decide +kernel
theorem d_Mo_grid_38 : decode b_Mo_grid 38 = .ok (.aload_n 0, 1) := by decide +kernel
theorem d_Mo_grid_39 : decode b_Mo_grid 39 = .ok (.iload_n 1, 1) := by decide +kernel
theorem d_Mo_grid_40 : decode b_Mo_grid 40 = .ok (.putfield 199, 3) := by decide +kernel
theorem d_Mo_grid_43 : decode b_Mo_grid 43 = .ok (.aload_n 0, 1) := by decide +kernel
theorem d_Mo_grid_44 : decode b_Mo_grid 44 = .ok (.iload_n 2, 1) := by decide +kernel
theorem d_Mo_grid_45 : decode b_Mo_grid 45 = .ok (.putfield 202, 3) := by decide +kernel
theorem d_Mo_grid_48 : decode b_Mo_grid 48 = .ok (.aload_n 0, 1) := by decide +kernel
theorem d_Mo_grid_49 : decode b_Mo_grid 49 = .ok (.dup, 1) := by decide +kernel
theorem d_Mo_grid_50 : decode b_Mo_grid 50 = .ok (.getfield 205, 3) := by decide +kernel
theorem d_Mo_grid_53 : decode b_Mo_grid 53 = .ok (.iload_n 3, 1) := by decide +kernel
theorem d_Mo_grid_54 : decode b_Mo_grid 54 = .ok (.iadd, 1) := by decide +kernel
theorem d_Mo_grid_55 : decode b_Mo_grid 55 = .ok (.putfield 205, 3) := by decide +kernel
theorem d_Mo_grid_58 : decode b_Mo_grid 58 = .ok (.return_, 1) := by decide +kernel
theorem d_Mo_run_0 : decode b_Mo_run 0 = .ok (.aload_n 0, 1) := by decide +kernel
theorem d_Mo_run_1 : decode b_Mo_run 1 = .ok (.iconst 0, 1) := by decide +kernel
theorem d_Mo_run_2 : decode b_Mo_run 2 = .ok (.putfield 49, 3) := by decide +kernel
theorem d_Mo_run_5 : decode b_Mo_run 5 = .ok (.iload_n 1, 1) := by decide +kernel
theorem d_Mo_run_6 : decode b_Mo_run 6 = .ok (.iconst 1, 1) := by decide +kernel
theorem d_Mo_run_7 : decode b_Mo_run 7 = .ok (.sipush 500, 3) := by decide +kernel
theorem d_Mo_run_10 : decode b_Mo_run 10 = .ok (.invokestatic 59, 3) := by decide +kernel
theorem d_Mo_run_13 : decode b_Mo_run 13 = .ok (.ifCond .ne 9, 3) := by decide +kernel
theorem d_Mo_run_16 : decode b_Mo_run 16 = .ok (.aload_n 0, 1) := by decide +kernel
theorem d_Mo_run_17 : decode b_Mo_run 17 = .ok (.iconst 1, 1) := by decide +kernel
theorem d_Mo_run_18 : decode b_Mo_run 18 = .ok (.invokevirtual 63, 3) := by decide +kernel
theorem d_Mo_run_21 : decode b_Mo_run 21 = .ok (.ireturn, 1) := by decide +kernel
theorem d_Mo_run_22 : decode b_Mo_run 22 = .ok (.aload_n 0, 1) := by decide +kernel
theorem d_Mo_run_23 : decode b_Mo_run 23 = .ok (.getfield 196, 3) := by decide +kernel
theorem d_Mo_run_26 : decode b_Mo_run 26 = .ok (.ifCond .ne 9, 3) := by decide +kernel
theorem d_Mo_run_29 : decode b_Mo_run 29 = .ok (.aload_n 0, 1) := by decide +kernel
theorem d_Mo_run_30 : decode b_Mo_run 30 = .ok (.iconst 2, 1) := by decide +kernel
theorem d_Mo_run_31 : decode b_Mo_run 31 = .ok (.invokevirtual 63, 3) := by decide +kernel
theorem d_Mo_run_34 : decode b_Mo_run 34 = .ok (.ireturn, 1) := by decide +kernel
theorem d_Mo_run_35 : decode b_Mo_run 35 = .ok (.iconst 0, 1) := by decide +kernel
theorem d_Mo_run_36 : decode b_Mo_run 36 = .ok (.istore_n 2, 1) := by decide +kernel
theorem d_Mo_run_37 : decode b_Mo_run 37 = .ok (.iconst 0, 1) := by decide +kernel
theorem d_Mo_run_38 : decode b_Mo_run 38 = .ok (.istore_n 3, 1) := by decide +kernel
theorem d_Mo_run_39 : decode b_Mo_run 39 = .ok (.iload_n 3, 1) := by decide +kernel
theorem d_Mo_run_40 : decode b_Mo_run 40 = .ok (.iload_n 1, 1) := by decide +kernel
theorem d_Mo_run_41 : decode b_Mo_run 41 = .ok (.if_icmp .ge 81, 3) := by decide +kernel
theorem d_Mo_run_44 : decode b_Mo_run 44 = .ok (.aload_n 0, 1) := by decide +kernel
theorem d_Mo_run_45 : decode b_Mo_run 45 = .ok (.aload_n 0, 1) := by decide +kernel
theorem d_Mo_run_46 : decode b_Mo_run 46 = .ok (.aload_n 0, 1) := by decide +kernel
theorem d_Mo_run_47 : decode b_Mo_run 47 = .ok (.getfield 205, 3) := by decide +kernel
theorem d_Mo_run_50 : decode b_Mo_run 50 = .ok (.invokevirtual 208, 3) := by decide +kernel
theorem d_Mo_run_53 : decode b_Mo_run 53 = .ok (.aload_n 0, 1) := by decide +kernel
theorem d_Mo_run_54 : decode b_Mo_run 54 = .ok (.aload_n 0, 1) := by decide +kernel
theorem d_Mo_run_55 : decode b_Mo_run 55 = .ok (.getfield 205, 3) := by decide +kernel
theorem d_Mo_run_58 : decode b_Mo_run 58 = .ok (.ldc 211, 2) := by decide +kernel
theorem d_Mo_run_60 : decode b_Mo_run 60 = .ok (.isub, 1) := by decide +kernel
theorem d_Mo_run_61 : decode b_Mo_run 61 = .ok (.invokevirtual 208, 3) := by decide +kernel
theorem d_Mo_run_64 : decode b_Mo_run 64 = .ok (.aload_n 0, 1) := by decide +kernel
theorem d_Mo_run_65 : decode b_Mo_run 65 = .ok (.aload_n 0, 1) := by decide +kernel
theorem d_Mo_run_66 : decode b_Mo_run 66 = .ok (.getfield 205, 3) := by decide +kernel
theorem d_Mo_run_69 : decode b_Mo_run 69 = .ok (.ldc 211, 2) := by decide +kernel
theorem d_Mo_run_71 : decode b_Mo_run 71 = .ok (.iadd, 1) := by decide +kernel
theorem d_Mo_run_72 : decode b_Mo_run 72 = .ok (.invokevirtual 208, 3) := by decide +kernel
theorem d_Mo_run_75 : decode b_Mo_run 75 = .ok (.invokevirtual 192, 3) := by decide +kernel
theorem d_Mo_run_78 : decode b_Mo_run 78 = .ok (.aload_n 0, 1) := by decide +kernel
theorem d_Mo_run_79 : decode b_Mo_run 79 = .ok (.dup, 1) := by decide +kernel
theorem d_Mo_run_80 : decode b_Mo_run 80 = .ok (.getfield 205, 3) := by decide +kernel
theorem d_Mo_run_83 : decode b_Mo_run 83 = .ok (.aload_n 0, 1) := by decide +kernel
theorem d_Mo_run_84 : decode b_Mo_run 84 = .ok (.getfield 202, 3) := by decide +kernel
theorem d_Mo_run_87 : decode b_Mo_run 87 = .ok (.i2l, 1) := by decide +kernel
theorem d_Mo_run_88 : decode b_Mo_run 88 = .ok (.ldc2_w 212, 3) := by decide +kernel
theorem d_Mo_run_91 : decode b_Mo_run 91 = .ok (.lmul, 1) := by decide +kernel
theorem d_Mo_run_92 : decode b_Mo_run 92 = .ok (.ldc2_w 115, 3) := by decide +kernel
theorem d_Mo_run_95 : decode b_Mo_run 95 = .ok (.ldiv, 1) := by decide +kernel
theorem d_Mo_run_96 : decode b_Mo_run 96 = .ok (.l2i, 1) := by decide +kernel
theorem d_Mo_run_97 : decode b_Mo_run 97 = .ok (.iadd, 1) := by decide +kernel
theorem d_Mo_run_98 : decode b_Mo_run 98 = .ok (.putfield 205, 3) := by decide +kernel
theorem d_Mo_run_101 : decode b_Mo_run 101 = .ok (.iload_n 2, 1) := by decide +kernel
theorem d_Mo_run_102 : decode b_Mo_run 102 = .ok (.aload_n 0, 1) := by decide +kernel
theorem d_Mo_run_103 : decode b_Mo_run 103 = .ok (.getfield 90, 3) := by decide +kernel
theorem d_Mo_run_106 : decode b_Mo_run 106 = .ok (.ifCond .eq 7, 3) := by decide +kernel
theorem d_Mo_run_109 : decode b_Mo_run 109 = .ok (.iconst 1, 1) := by decide +kernel
theorem d_Mo_run_110 : decode b_Mo_run 110 = .ok (.goto 4, 3) := by decide +kernel
theorem d_Mo_run_113 : decode b_Mo_run 113 = .ok (.iconst 0, 1) := by decide +kernel
theorem d_Mo_run_114 : decode b_Mo_run 114 = .ok (.iadd, 1) := by decide +kernel
theorem d_Mo_run_115 : decode b_Mo_run 115 = .ok (.istore_n 2, 1) := by decide +kernel
theorem d_Mo_run_116 : decode b_Mo_run 116 = .ok (.iinc 3 1, 3) := by decide +kernel
theorem d_Mo_run_119 : decode b_Mo_run 119 = .ok (.goto (-80), 3) := by decide +kernel
theorem d_Mo_run_122 : decode b_Mo_run 122 = .ok (.iload_n 2, 1) := by decide +kernel
theorem d_Mo_run_123 : decode b_Mo_run 123 = .ok (.ireturn, 1) := by decide +kernel
theorem d_Mo_phase_0 : decode b_Mo_phase 0 = .ok (.aload_n 0, 1) := by decide +kernel
theorem d_Mo_phase_1 : decode b_Mo_phase 1 = .ok (.getfield 199, 3) := by decide +kernel
theorem d_Mo_phase_4 : decode b_Mo_phase 4 = .ok (.iload_n 1, 1) := by decide +kernel
theorem d_Mo_phase_5 : decode b_Mo_phase 5 = .ok (.invokestatic 131, 3) := by decide +kernel
theorem d_Mo_phase_8 : decode b_Mo_phase 8 = .ok (.imul, 1) := by decide +kernel
theorem d_Mo_phase_9 : decode b_Mo_phase 9 = .ok (.sipush 16384, 3) := by decide +kernel
theorem d_Mo_phase_12 : decode b_Mo_phase 12 = .ok (.idiv, 1) := by decide +kernel
theorem d_Mo_phase_13 : decode b_Mo_phase 13 = .ok (.ireturn, 1) := by decide +kernel
theorem d_Mo_signal_0 : decode b_Mo_signal 0 = .ok (.aload_n 0, 1) := by decide +kernel
theorem d_Mo_signal_1 : decode b_Mo_signal 1 = .ok (.iconst 0, 1) := by decide +kernel
theorem d_Mo_signal_2 : decode b_Mo_signal 2 = .ok (.putfield 49, 3) := by decide +kernel
theorem d_Mo_signal_5 : decode b_Mo_signal 5 = .ok (.iload_n 1, 1) := by decide +kernel
theorem d_Mo_signal_6 : decode b_Mo_signal 6 = .ok (.iconst 0, 1) := by decide +kernel
theorem d_Mo_signal_7 : decode b_Mo_signal 7 = .ok (.iconst 5, 1) := by decide +kernel
theorem d_Mo_signal_8 : decode b_Mo_signal 8 = .ok (.invokestatic 59, 3) := by decide +kernel
theorem d_Mo_signal_11 : decode b_Mo_signal 11 = .ok (.ifCond .ne 9, 3) := by decide +kernel
theorem d_Mo_signal_14 : decode b_Mo_signal 14 = .ok (.aload_n 0, 1) := by decide +kernel
theorem d_Mo_signal_15 : decode b_Mo_signal 15 = .ok (.iconst 1, 1) := by decide +kernel
theorem d_Mo_signal_16 : decode b_Mo_signal 16 = .ok (.invokevirtual 63, 3) := by decide +kernel
theorem d_Mo_signal_19 : decode b_Mo_signal 19 = .ok (.ireturn, 1) := by decide +kernel
theorem d_Mo_signal_20 : decode b_Mo_signal 20 = .ok (.iload_n 1, 1) := by decide +kernel
theorem d_Mo_signal_21 : decode b_Mo_signal 21 = .ok (.iconst 3, 1) := by decide +kernel
theorem d_Mo_signal_22 : decode b_Mo_signal 22 = .ok (.if_icmp .ge 31, 3) := by decide +kernel
theorem d_Mo_signal_25 : decode b_Mo_signal 25 = .ok (.iload_n 1, 1) := by decide +kernel
theorem d_Mo_signal_26 : decode b_Mo_signal 26 = .ok (.ifCond .ne 10, 3) := by decide +kernel
theorem d_Mo_signal_29 : decode b_Mo_signal 29 = .ok (.aload_n 0, 1) := by decide +kernel
theorem d_Mo_signal_30 : decode b_Mo_signal 30 = .ok (.getfield 128, 3) := by decide +kernel
theorem d_Mo_signal_33 : decode b_Mo_signal 33 = .ok (.goto 19, 3) := by decide +kernel
theorem d_Mo_signal_36 : decode b_Mo_signal 36 = .ok (.iload_n 1, 1) := by decide +kernel
theorem d_Mo_signal_37 : decode b_Mo_signal 37 = .ok (.iconst 1, 1) := by decide +kernel
theorem d_Mo_signal_38 : decode b_Mo_signal 38 = .ok (.if_icmp .ne 10, 3) := by decide +kernel
theorem d_Mo_signal_41 : decode b_Mo_signal 41 = .ok (.aload_n 0, 1) := by decide +kernel
theorem d_Mo_signal_42 : decode b_Mo_signal 42 = .ok (.invokevirtual 174, 3) := by decide +kernel
theorem d_Mo_signal_45 : decode b_Mo_signal 45 = .ok (.goto 7, 3) := by decide +kernel
theorem d_Mo_signal_48 : decode b_Mo_signal 48 = .ok (.aload_n 0, 1) := by decide +kernel
theorem d_Mo_signal_49 : decode b_Mo_signal 49 = .ok (.invokevirtual 171, 3) := by decide +kernel
theorem d_Mo_signal_52 : decode b_Mo_signal 52 = .ok (.ireturn, 1) := by decide +kernel
theorem d_Mo_signal_53 : decode b_Mo_signal 53 = .ok (.iload_n 1, 1) := by decide +kernel
theorem d_Mo_signal_54 : decode b_Mo_signal 54 = .ok (.iconst 3, 1) := by decide +kernel
theorem d_Mo_signal_55 : decode b_Mo_signal 55 = .ok (.if_icmp .ne 10, 3) := by decide +kernel
theorem d_Mo_signal_58 : decode b_Mo_signal 58 = .ok (.aload_n 0, 1) := by decide +kernel
theorem d_Mo_signal_59 : decode b_Mo_signal 59 = .ok (.getfield 137, 3) := by decide +kernel
theorem d_Mo_signal_62 : decode b_Mo_signal 62 = .ok (.goto 19, 3) := by decide +kernel
theorem d_Mo_signal_65 : decode b_Mo_signal 65 = .ok (.iload_n 1, 1) := by decide +kernel
theorem d_Mo_signal_66 : decode b_Mo_signal 66 = .ok (.iconst 4, 1) := by decide +kernel
theorem d_Mo_signal_67 : decode b_Mo_signal 67 = .ok (.if_icmp .ne 10, 3) := by decide +kernel
theorem d_Mo_signal_70 : decode b_Mo_signal 70 = .ok (.aload_n 0, 1) := by decide +kernel
theorem d_Mo_signal_71 : decode b_Mo_signal 71 = .ok (.getfield 134, 3) := by decide +kernel
theorem d_Mo_signal_74 : decode b_Mo_signal 74 = .ok (.goto 7, 3) := by decide +kernel
theorem d_Mo_signal_77 : decode b_Mo_signal 77 = .ok (.aload_n 0, 1) := by decide +kernel
theorem d_Mo_signal_78 : decode b_Mo_signal 78 = .ok (.getfield 125, 3) := by decide +kernel
theorem d_Mo_signal_81 : decode b_Mo_signal 81 = .ok (.ireturn, 1) := by decide +kernel
theorem d_Mo_state_0 : decode b_Mo_state 0 = .ok (.aload_n 0, 1) := by decide +kernel
theorem d_Mo_state_1 : decode b_Mo_state 1 = .ok (.iconst 0, 1) := by decide +kernel
theorem d_Mo_state_2 : decode b_Mo_state 2 = .ok (.putfield 49, 3) := by decide +kernel
theorem d_Mo_state_5 : decode b_Mo_state 5 = .ok (.iload_n 1, 1) := by decide +kernel
theorem d_Mo_state_6 : decode b_Mo_state 6 = .ok (.iconst 0, 1) := by decide +kernel
theorem d_Mo_state_7 : decode b_Mo_state 7 = .ok (.bipush 11, 2) := by decide +kernel
theorem d_Mo_state_9 : decode b_Mo_state 9 = .ok (.invokestatic 59, 3) := by decide +kernel
theorem d_Mo_state_12 : decode b_Mo_state 12 = .ok (.ifCond .ne 9, 3) := by decide +kernel
theorem d_Mo_state_15 : decode b_Mo_state 15 = .ok (.aload_n 0, 1) := by decide +kernel
theorem d_Mo_state_16 : decode b_Mo_state 16 = .ok (.iconst 1, 1) := by decide +kernel
theorem d_Mo_state_17 : decode b_Mo_state 17 = .ok (.invokevirtual 63, 3) := by decide +kernel
theorem d_Mo_state_20 : decode b_Mo_state 20 = .ok (.ireturn, 1) := by decide +kernel
theorem d_Mo_state_21 : decode b_Mo_state 21 = .ok (.iload_n 1, 1) := by decide +kernel
theorem d_Mo_state_22 : decode b_Mo_state 22 = .ok (.iconst 5, 1) := by decide +kernel
theorem d_Mo_state_23 : decode b_Mo_state 23 = .ok (.if_icmp .ge 58, 3) := by decide +kernel
theorem d_Mo_state_26 : decode b_Mo_state 26 = .ok (.iload_n 1, 1) := by decide +kernel
theorem d_Mo_state_27 : decode b_Mo_state 27 = .ok (.ifCond .ne 10, 3) := by decide +kernel
theorem d_Mo_state_30 : decode b_Mo_state 30 = .ok (.aload_n 0, 1) := by decide +kernel
theorem d_Mo_state_31 : decode b_Mo_state 31 = .ok (.getfield 90, 3) := by decide +kernel
theorem d_Mo_state_34 : decode b_Mo_state 34 = .ok (.goto 43, 3) := by decide +kernel
theorem d_Mo_state_37 : decode b_Mo_state 37 = .ok (.iload_n 1, 1) := by decide +kernel
theorem d_Mo_state_38 : decode b_Mo_state 38 = .ok (.iconst 1, 1) := by decide +kernel
theorem d_Mo_state_39 : decode b_Mo_state 39 = .ok (.if_icmp .ne 10, 3) := by decide +kernel
theorem d_Mo_state_42 : decode b_Mo_state 42 = .ok (.aload_n 0, 1) := by decide +kernel
theorem d_Mo_state_43 : decode b_Mo_state 43 = .ok (.getfield 97, 3) := by decide +kernel
theorem d_Mo_state_46 : decode b_Mo_state 46 = .ok (.goto 31, 3) := by decide +kernel
theorem d_Mo_state_49 : decode b_Mo_state 49 = .ok (.iload_n 1, 1) := by decide +kernel
theorem d_Mo_state_50 : decode b_Mo_state 50 = .ok (.iconst 2, 1) := by decide +kernel
theorem d_Mo_state_51 : decode b_Mo_state 51 = .ok (.if_icmp .ne 10, 3) := by decide +kernel
theorem d_Mo_state_54 : decode b_Mo_state 54 = .ok (.aload_n 0, 1) := by decide +kernel
theorem d_Mo_state_55 : decode b_Mo_state 55 = .ok (.getfield 67, 3) := by decide +kernel
theorem d_Mo_state_58 : decode b_Mo_state 58 = .ok (.goto 19, 3) := by decide +kernel
theorem d_Mo_state_61 : decode b_Mo_state 61 = .ok (.iload_n 1, 1) := by decide +kernel
theorem d_Mo_state_62 : decode b_Mo_state 62 = .ok (.iconst 3, 1) := by decide +kernel
theorem d_Mo_state_63 : decode b_Mo_state 63 = .ok (.if_icmp .ne 10, 3) := by decide +kernel
theorem d_Mo_state_66 : decode b_Mo_state 66 = .ok (.aload_n 0, 1) := by decide +kernel
theorem d_Mo_state_67 : decode b_Mo_state 67 = .ok (.getfield 87, 3) := by decide +kernel
theorem d_Mo_state_70 : decode b_Mo_state 70 = .ok (.goto 7, 3) := by decide +kernel
theorem d_Mo_state_73 : decode b_Mo_state 73 = .ok (.aload_n 0, 1) := by decide +kernel
theorem d_Mo_state_74 : decode b_Mo_state 74 = .ok (.getfield 71, 3) := by decide +kernel
theorem d_Mo_state_77 : decode b_Mo_state 77 = .ok (.invokestatic 214, 3) := by decide +kernel
theorem d_Mo_state_80 : decode b_Mo_state 80 = .ok (.ireturn, 1) := by decide +kernel
theorem d_Mo_state_81 : decode b_Mo_state 81 = .ok (.iload_n 1, 1) := by decide +kernel
theorem d_Mo_state_82 : decode b_Mo_state 82 = .ok (.bipush 8, 2) := by decide +kernel
theorem d_Mo_state_84 : decode b_Mo_state 84 = .ok (.if_icmp .ge 33, 3) := by decide +kernel
theorem d_Mo_state_87 : decode b_Mo_state 87 = .ok (.iload_n 1, 1) := by decide +kernel
theorem d_Mo_state_88 : decode b_Mo_state 88 = .ok (.iconst 5, 1) := by decide +kernel
theorem d_Mo_state_89 : decode b_Mo_state 89 = .ok (.if_icmp .ne 10, 3) := by decide +kernel
theorem d_Mo_state_92 : decode b_Mo_state 92 = .ok (.aload_n 0, 1) := by decide +kernel
theorem d_Mo_state_93 : decode b_Mo_state 93 = .ok (.getfield 152, 3) := by decide +kernel
theorem d_Mo_state_96 : decode b_Mo_state 96 = .ok (.goto 20, 3) := by decide +kernel
theorem d_Mo_state_99 : decode b_Mo_state 99 = .ok (.iload_n 1, 1) := by decide +kernel
theorem d_Mo_state_100 : decode b_Mo_state 100 = .ok (.bipush 6, 2) := by decide +kernel
theorem d_Mo_state_102 : decode b_Mo_state 102 = .ok (.if_icmp .ne 10, 3) := by decide +kernel
theorem d_Mo_state_105 : decode b_Mo_state 105 = .ok (.aload_n 0, 1) := by decide +kernel
theorem d_Mo_state_106 : decode b_Mo_state 106 = .ok (.getfield 149, 3) := by decide +kernel
theorem d_Mo_state_109 : decode b_Mo_state 109 = .ok (.goto 7, 3) := by decide +kernel
theorem d_Mo_state_112 : decode b_Mo_state 112 = .ok (.aload_n 0, 1) := by decide +kernel
theorem d_Mo_state_113 : decode b_Mo_state 113 = .ok (.getfield 155, 3) := by decide +kernel
theorem d_Mo_state_116 : decode b_Mo_state 116 = .ok (.ireturn, 1) := by decide +kernel
theorem d_Mo_state_117 : decode b_Mo_state 117 = .ok (.iload_n 1, 1) := by decide +kernel
theorem d_Mo_state_118 : decode b_Mo_state 118 = .ok (.bipush 8, 2) := by decide +kernel
theorem d_Mo_state_120 : decode b_Mo_state 120 = .ok (.if_icmp .ne 10, 3) := by decide +kernel
theorem d_Mo_state_123 : decode b_Mo_state 123 = .ok (.aload_n 0, 1) := by decide +kernel
theorem d_Mo_state_124 : decode b_Mo_state 124 = .ok (.getfield 158, 3) := by decide +kernel
theorem d_Mo_state_127 : decode b_Mo_state 127 = .ok (.goto 33, 3) := by decide +kernel
theorem d_Mo_state_130 : decode b_Mo_state 130 = .ok (.iload_n 1, 1) := by decide +kernel
theorem d_Mo_state_131 : decode b_Mo_state 131 = .ok (.bipush 9, 2) := by decide +kernel
theorem d_Mo_state_133 : decode b_Mo_state 133 = .ok (.if_icmp .ne 10, 3) := by decide +kernel
theorem d_Mo_state_136 : decode b_Mo_state 136 = .ok (.aload_n 0, 1) := by decide +kernel
theorem d_Mo_state_137 : decode b_Mo_state 137 = .ok (.getfield 161, 3) := by decide +kernel
theorem d_Mo_state_140 : decode b_Mo_state 140 = .ok (.goto 20, 3) := by decide +kernel
theorem d_Mo_state_143 : decode b_Mo_state 143 = .ok (.iload_n 1, 1) := by decide +kernel
theorem d_Mo_state_144 : decode b_Mo_state 144 = .ok (.bipush 10, 2) := by decide +kernel
theorem d_Mo_state_146 : decode b_Mo_state 146 = .ok (.if_icmp .ne 10, 3) := by decide +kernel
theorem d_Mo_state_149 : decode b_Mo_state 149 = .ok (.aload_n 0, 1) := by decide +kernel
theorem d_Mo_state_150 : decode b_Mo_state 150 = .ok (.getfield 53, 3) := by decide +kernel
theorem d_Mo_state_153 : decode b_Mo_state 153 = .ok (.goto 7, 3) := by decide +kernel
theorem d_Mo_state_156 : decode b_Mo_state 156 = .ok (.aload_n 0, 1) := by decide +kernel
theorem d_Mo_state_157 : decode b_Mo_state 157 = .ok (.getfield 56, 3) := by decide +kernel
theorem d_Mo_state_160 : decode b_Mo_state 160 = .ok (.ireturn, 1) := by decide +kernel
theorem d_Mo_bit_0 : decode b_Mo_bit 0 = .ok (.iload_n 0, 1) := by decide +kernel
theorem d_Mo_bit_1 : decode b_Mo_bit 1 = .ok (.ifCond .eq 7, 3) := by decide +kernel
theorem d_Mo_bit_4 : decode b_Mo_bit 4 = .ok (.iconst 1, 1) := by decide +kernel
theorem d_Mo_bit_5 : decode b_Mo_bit 5 = .ok (.goto 4, 3) := by decide +kernel
theorem d_Mo_bit_8 : decode b_Mo_bit 8 = .ok (.iconst 0, 1) := by decide +kernel
theorem d_Mo_bit_9 : decode b_Mo_bit 9 = .ok (.ireturn, 1) := by decide +kernel
theorem d_Mo_count_0 : decode b_Mo_count 0 = .ok (.aload_n 0, 1) := by decide +kernel
theorem d_Mo_count_1 : decode b_Mo_count 1 = .ok (.iconst 0, 1) := by decide +kernel
theorem d_Mo_count_2 : decode b_Mo_count 2 = .ok (.putfield 49, 3) := by decide +kernel
theorem d_Mo_count_5 : decode b_Mo_count 5 = .ok (.iload_n 1, 1) := by decide +kernel
theorem d_Mo_count_6 : decode b_Mo_count 6 = .ok (.iconst 0, 1) := by decide +kernel
theorem d_Mo_count_7 : decode b_Mo_count 7 = .ok (.iconst 5, 1) := by decide +kernel
theorem d_Mo_count_8 : decode b_Mo_count 8 = .ok (.invokestatic 59, 3) := by decide +kernel
theorem d_Mo_count_11 : decode b_Mo_count 11 = .ok (.ifCond .eq 12, 3) := by decide +kernel
theorem d_Mo_count_14 : decode b_Mo_count 14 = .ok (.aload_n 0, 1) := by decide +kernel
theorem d_Mo_count_15 : decode b_Mo_count 15 = .ok (.getfield 33, 3) := by decide +kernel
theorem d_Mo_count_18 : decode b_Mo_count 18 = .ok (.iload_n 1, 1) := by decide +kernel
theorem d_Mo_count_19 : decode b_Mo_count 19 = .ok (.iaload, 1) := by decide +kernel
theorem d_Mo_count_20 : decode b_Mo_count 20 = .ok (.goto 8, 3) := by decide +kernel
theorem d_Mo_count_23 : decode b_Mo_count 23 = .ok (.aload_n 0, 1) := by decide +kernel
theorem d_Mo_count_24 : decode b_Mo_count 24 = .ok (.iconst 1, 1) := by decide +kernel
theorem d_Mo_count_25 : decode b_Mo_count 25 = .ok (.invokevirtual 63, 3) := by decide +kernel
theorem d_Mo_count_28 : decode b_Mo_count 28 = .ok (.ireturn, 1) := by decide +kernel
theorem d_Mo_energy_0 : decode b_Mo_energy 0 = .ok (.aload_n 0, 1) := by decide +kernel
theorem d_Mo_energy_1 : decode b_Mo_energy 1 = .ok (.iconst 0, 1) := by decide +kernel
theorem d_Mo_energy_2 : decode b_Mo_energy 2 = .ok (.putfield 49, 3) := by decide +kernel
theorem d_Mo_energy_5 : decode b_Mo_energy 5 = .ok (.aload_n 0, 1) := by decide +kernel
theorem d_Mo_energy_6 : decode b_Mo_energy 6 = .ok (.getfield 184, 3) := by decide +kernel
theorem d_Mo_energy_9 : decode b_Mo_energy 9 = .ok (.lreturn, 1) := by decide +kernel
theorem d_Mo_event_0 : decode b_Mo_event 0 = .ok (.aload_n 0, 1) := by decide +kernel
theorem d_Mo_event_1 : decode b_Mo_event 1 = .ok (.iconst 0, 1) := by decide +kernel
theorem d_Mo_event_2 : decode b_Mo_event 2 = .ok (.putfield 49, 3) := by decide +kernel
theorem d_Mo_event_5 : decode b_Mo_event 5 = .ok (.iload_n 1, 1) := by decide +kernel
theorem d_Mo_event_6 : decode b_Mo_event 6 = .ok (.iconst 0, 1) := by decide +kernel
theorem d_Mo_event_7 : decode b_Mo_event 7 = .ok (.bipush 15, 2) := by decide +kernel
theorem d_Mo_event_9 : decode b_Mo_event 9 = .ok (.invokestatic 59, 3) := by decide +kernel
theorem d_Mo_event_12 : decode b_Mo_event 12 = .ok (.ifCond .eq 20, 3) := by decide +kernel
theorem d_Mo_event_15 : decode b_Mo_event 15 = .ok (.iload_n 1, 1) := by decide +kernel
theorem d_Mo_event_16 : decode b_Mo_event 16 = .ok (.aload_n 0, 1) := by decide +kernel
theorem d_Mo_event_17 : decode b_Mo_event 17 = .ok (.getfield 56, 3) := by decide +kernel
theorem d_Mo_event_20 : decode b_Mo_event 20 = .ok (.if_icmp .ge 12, 3) := by decide +kernel
theorem d_Mo_event_23 : decode b_Mo_event 23 = .ok (.iload_n 2, 1) := by decide +kernel
theorem d_Mo_event_24 : decode b_Mo_event 24 = .ok (.iconst 0, 1) := by decide +kernel
theorem d_Mo_event_25 : decode b_Mo_event 25 = .ok (.iconst 1, 1) := by decide +kernel
theorem d_Mo_event_26 : decode b_Mo_event 26 = .ok (.invokestatic 59, 3) := by decide +kernel
theorem d_Mo_event_29 : decode b_Mo_event 29 = .ok (.ifCond .ne 9, 3) := by decide +kernel
theorem d_Mo_event_32 : decode b_Mo_event 32 = .ok (.aload_n 0, 1) := by decide +kernel
theorem d_Mo_event_33 : decode b_Mo_event 33 = .ok (.iconst 1, 1) := by decide +kernel
theorem d_Mo_event_34 : decode b_Mo_event 34 = .ok (.invokevirtual 63, 3) := by decide +kernel
theorem d_Mo_event_37 : decode b_Mo_event 37 = .ok (.ireturn, 1) := by decide +kernel
theorem d_Mo_event_38 : decode b_Mo_event 38 = .ok (.iload_n 2, 1) := by decide +kernel
theorem d_Mo_event_39 : decode b_Mo_event 39 = .ok (.ifCond .ne 12, 3) := by decide +kernel
theorem d_Mo_event_42 : decode b_Mo_event 42 = .ok (.aload_n 0, 1) := by decide +kernel
theorem d_Mo_event_43 : decode b_Mo_event 43 = .ok (.getfield 43, 3) := by decide +kernel
theorem d_Mo_event_46 : decode b_Mo_event 46 = .ok (.iload_n 1, 1) := by decide +kernel
theorem d_Mo_event_47 : decode b_Mo_event 47 = .ok (.iaload, 1) := by decide +kernel
theorem d_Mo_event_48 : decode b_Mo_event 48 = .ok (.goto 9, 3) := by decide +kernel
theorem d_Mo_event_51 : decode b_Mo_event 51 = .ok (.aload_n 0, 1) := by decide +kernel
theorem d_Mo_event_52 : decode b_Mo_event 52 = .ok (.getfield 46, 3) := by decide +kernel
theorem d_Mo_event_55 : decode b_Mo_event 55 = .ok (.iload_n 1, 1) := by decide +kernel
theorem d_Mo_event_56 : decode b_Mo_event 56 = .ok (.iaload, 1) := by decide +kernel
theorem d_Mo_event_57 : decode b_Mo_event 57 = .ok (.ireturn, 1) := by decide +kernel
