theorem dX12_init_0 : decode cX12_init 0 = .ok (.aload_n 0, 1) := by decide +kernel
theorem dX12_init_1 : decode cX12_init 1 = .ok (.invokespecial 1, 3) := by decide +kernel
theorem dX12_init_4 : decode cX12_init 4 = .ok (.aload_n 0, 1) := by decide +kernel
theorem dX12_init_5 : decode cX12_init 5 = .ok (.sipush 400, 3) := by decide +kernel
theorem dX12_init_8 : decode cX12_init 8 = .ok (.newarray .int, 2) := by decide +kernel
theorem dX12_init_10 : decode cX12_init 10 = .ok (.putfield 7, 3) := by decide +kernel
theorem dX12_init_13 : decode cX12_init 13 = .ok (.aload_n 0, 1) := by decide +kernel
theorem dX12_init_14 : decode cX12_init 14 = .ok (.bipush 20, 2) := by decide +kernel
theorem dX12_init_16 : decode cX12_init 16 = .ok (.putfield 13, 3) := by decide +kernel
theorem dX12_init_19 : decode cX12_init 19 = .ok (.aload_n 0, 1) := by decide +kernel
theorem dX12_init_20 : decode cX12_init 20 = .ok (.iconst 3, 1) := by decide +kernel
theorem dX12_init_21 : decode cX12_init 21 = .ok (.newarray .int, 2) := by decide +kernel
theorem dX12_init_23 : decode cX12_init 23 = .ok (.putfield 17, 3) := by decide +kernel
theorem dX12_init_26 : decode cX12_init 26 = .ok (.aload_n 0, 1) := by decide +kernel
theorem dX12_init_27 : decode cX12_init 27 = .ok (.iconst 3, 1) := by decide +kernel
theorem dX12_init_28 : decode cX12_init 28 = .ok (.newarray .int, 2) := by decide +kernel
theorem dX12_init_30 : decode cX12_init 30 = .ok (.putfield 20, 3) := by decide +kernel
theorem dX12_init_33 : decode cX12_init 33 = .ok (.aload_n 0, 1) := by decide +kernel
theorem dX12_init_34 : decode cX12_init 34 = .ok (.iconst 3, 1) := by decide +kernel
theorem dX12_init_35 : decode cX12_init 35 = .ok (.newarray .int, 2) := by decide +kernel
theorem dX12_init_37 : decode cX12_init 37 = .ok (.putfield 23, 3) := by decide +kernel
theorem dX12_init_40 : decode cX12_init 40 = .ok (.aload_n 0, 1) := by decide +kernel
theorem dX12_init_41 : decode cX12_init 41 = .ok (.bipush 41, 2) := by decide +kernel
theorem dX12_init_43 : decode cX12_init 43 = .ok (.newarray .int, 2) := by decide +kernel
theorem dX12_init_45 : decode cX12_init 45 = .ok (.putfield 26, 3) := by decide +kernel
theorem dX12_init_48 : decode cX12_init 48 = .ok (.aload_n 0, 1) := by decide +kernel
theorem dX12_init_49 : decode cX12_init 49 = .ok (.iconst 1, 1) := by decide +kernel
theorem dX12_init_50 : decode cX12_init 50 = .ok (.putfield 29, 3) := by decide +kernel
theorem dX12_init_53 : decode cX12_init 53 = .ok (.aload_n 0, 1) := by decide +kernel
theorem dX12_init_54 : decode cX12_init 54 = .ok (.bipush 69, 2) := by decide +kernel
theorem dX12_init_56 : decode cX12_init 56 = .ok (.newarray .int, 2) := by decide +kernel
theorem dX12_init_58 : decode cX12_init 58 = .ok (.dup, 1) := by decide +kernel
theorem dX12_init_59 : decode cX12_init 59 = .ok (.iconst 0, 1) := by decide +kernel
theorem dX12_init_60 : decode cX12_init 60 = .ok (.bipush 105, 2) := by decide +kernel
theorem dX12_init_62 : decode cX12_init 62 = .ok (.iastore, 1) := by decide +kernel
theorem dX12_init_63 : decode cX12_init 63 = .ok (.dup, 1) := by decide +kernel
theorem dX12_init_64 : decode cX12_init 64 = .ok (.iconst 1, 1) := by decide +kernel
theorem dX12_init_65 : decode cX12_init 65 = .ok (.bipush 102, 2) := by decide +kernel
theorem dX12_init_67 : decode cX12_init 67 = .ok (.iastore, 1) := by decide +kernel
theorem dX12_init_68 : decode cX12_init 68 = .ok (.dup, 1) := by decide +kernel
theorem dX12_init_69 : decode cX12_init 69 = .ok (.iconst 2, 1) := by decide +kernel
theorem dX12_init_70 : decode cX12_init 70 = .ok (.bipush 32, 2) := by decide +kernel
theorem dX12_init_72 : decode cX12_init 72 = .ok (.iastore, 1) := by decide +kernel
theorem dX12_init_73 : decode cX12_init 73 = .ok (.dup, 1) := by decide +kernel
theorem dX12_init_74 : decode cX12_init 74 = .ok (.iconst 3, 1) := by decide +kernel
theorem dX12_init_75 : decode cX12_init 75 = .ok (.bipush 102, 2) := by decide +kernel
theorem dX12_init_77 : decode cX12_init 77 = .ok (.iastore, 1) := by decide +kernel
theorem dX12_init_78 : decode cX12_init 78 = .ok (.dup, 1) := by decide +kernel
theorem dX12_init_79 : decode cX12_init 79 = .ok (.iconst 4, 1) := by decide +kernel
theorem dX12_init_80 : decode cX12_init 80 = .ok (.bipush 97, 2) := by decide +kernel
theorem dX12_init_82 : decode cX12_init 82 = .ok (.iastore, 1) := by decide +kernel
theorem dX12_init_83 : decode cX12_init 83 = .ok (.dup, 1) := by decide +kernel
theorem dX12_init_84 : decode cX12_init 84 = .ok (.iconst 5, 1) := by decide +kernel
theorem dX12_init_85 : decode cX12_init 85 = .ok (.bipush 108, 2) := by decide +kernel
theorem dX12_init_87 : decode cX12_init 87 = .ok (.iastore, 1) := by decide +kernel
theorem dX12_init_88 : decode cX12_init 88 = .ok (.dup, 1) := by decide +kernel
theorem dX12_init_89 : decode cX12_init 89 = .ok (.bipush 6, 2) := by decide +kernel
theorem dX12_init_91 : decode cX12_init 91 = .ok (.bipush 108, 2) := by decide +kernel
theorem dX12_init_93 : decode cX12_init 93 = .ok (.iastore, 1) := by decide +kernel
theorem dX12_init_94 : decode cX12_init 94 = .ok (.dup, 1) := by decide +kernel
theorem dX12_init_95 : decode cX12_init 95 = .ok (.bipush 7, 2) := by decide +kernel
theorem dX12_init_97 : decode cX12_init 97 = .ok (.bipush 32, 2) := by decide +kernel
theorem dX12_init_99 : decode cX12_init 99 = .ok (.iastore, 1) := by decide +kernel
theorem dX12_init_100 : decode cX12_init 100 = .ok (.dup, 1) := by decide +kernel
theorem dX12_init_101 : decode cX12_init 101 = .ok (.bipush 8, 2) := by decide +kernel
theorem dX12_init_103 : decode cX12_init 103 = .ok (.bipush 115, 2) := by decide +kernel
theorem dX12_init_105 : decode cX12_init 105 = .ok (.iastore, 1) := by decide +kernel
theorem dX12_init_106 : decode cX12_init 106 = .ok (.dup, 1) := by decide +kernel
theorem dX12_init_107 : decode cX12_init 107 = .ok (.bipush 9, 2) := by decide +kernel
theorem dX12_init_109 : decode cX12_init 109 = .ok (.bipush 116, 2) := by decide +kernel
theorem dX12_init_111 : decode cX12_init 111 = .ok (.iastore, 1) := by decide +kernel
theorem dX12_init_112 : decode cX12_init 112 = .ok (.dup, 1) := by decide +kernel
theorem dX12_init_113 : decode cX12_init 113 = .ok (.bipush 10, 2) := by decide +kernel
theorem dX12_init_115 : decode cX12_init 115 = .ok (.bipush 111, 2) := by decide +kernel
theorem dX12_init_117 : decode cX12_init 117 = .ok (.iastore, 1) := by decide +kernel
theorem dX12_init_118 : decode cX12_init 118 = .ok (.dup, 1) := by decide +kernel
theorem dX12_init_119 : decode cX12_init 119 = .ok (.bipush 11, 2) := by decide +kernel
theorem dX12_init_121 : decode cX12_init 121 = .ok (.bipush 112, 2) := by decide +kernel
theorem dX12_init_123 : decode cX12_init 123 = .ok (.iastore, 1) := by decide +kernel
theorem dX12_init_124 : decode cX12_init 124 = .ok (.dup, 1) := by decide +kernel
theorem dX12_init_125 : decode cX12_init 125 = .ok (.bipush 12, 2) := by decide +kernel
theorem dX12_init_127 : decode cX12_init 127 = .ok (.bipush 32, 2) := by decide +kernel
theorem dX12_init_129 : decode cX12_init 129 = .ok (.iastore, 1) := by decide +kernel
theorem dX12_init_130 : decode cX12_init 130 = .ok (.dup, 1) := by decide +kernel
theorem dX12_init_131 : decode cX12_init 131 = .ok (.bipush 13, 2) := by decide +kernel
theorem dX12_init_133 : decode cX12_init 133 = .ok (.bipush 97, 2) := by decide +kernel
theorem dX12_init_135 : decode cX12_init 135 = .ok (.iastore, 1) := by decide +kernel
theorem dX12_init_136 : decode cX12_init 136 = .ok (.dup, 1) := by decide +kernel
theorem dX12_init_137 : decode cX12_init 137 = .ok (.bipush 14, 2) := by decide +kernel
theorem dX12_init_139 : decode cX12_init 139 = .ok (.bipush 110, 2) := by decide +kernel
theorem dX12_init_141 : decode cX12_init 141 = .ok (.iastore, 1) := by decide +kernel
theorem dX12_init_142 : decode cX12_init 142 = .ok (.dup, 1) := by decide +kernel
theorem dX12_init_143 : decode cX12_init 143 = .ok (.bipush 15, 2) := by decide +kernel
theorem dX12_init_145 : decode cX12_init 145 = .ok (.bipush 100, 2) := by decide +kernel
theorem dX12_init_147 : decode cX12_init 147 = .ok (.iastore, 1) := by decide +kernel
theorem dX12_init_148 : decode cX12_init 148 = .ok (.dup, 1) := by decide +kernel
theorem dX12_init_149 : decode cX12_init 149 = .ok (.bipush 16, 2) := by decide +kernel
theorem dX12_init_151 : decode cX12_init 151 = .ok (.bipush 32, 2) := by decide +kernel
theorem dX12_init_153 : decode cX12_init 153 = .ok (.iastore, 1) := by decide +kernel
theorem dX12_init_154 : decode cX12_init 154 = .ok (.dup, 1) := by decide +kernel
theorem dX12_init_155 : decode cX12_init 155 = .ok (.bipush 17, 2) := by decide +kernel
theorem dX12_init_157 : decode cX12_init 157 = .ok (.bipush 111, 2) := by decide +kernel
theorem dX12_init_159 : decode cX12_init 159 = .ok (.iastore, 1) := by decide +kernel
theorem dX12_init_160 : decode cX12_init 160 = .ok (.dup, 1) := by decide +kernel
theorem dX12_init_161 : decode cX12_init 161 = .ok (.bipush 18, 2) := by decide +kernel
theorem dX12_init_163 : decode cX12_init 163 = .ok (.bipush 114, 2) := by decide +kernel
theorem dX12_init_165 : decode cX12_init 165 = .ok (.iastore, 1) := by decide +kernel
theorem dX12_init_166 : decode cX12_init 166 = .ok (.dup, 1) := by decide +kernel
theorem dX12_init_167 : decode cX12_init 167 = .ok (.bipush 19, 2) := by decide +kernel
theorem dX12_init_169 : decode cX12_init 169 = .ok (.bipush 32, 2) := by decide +kernel
theorem dX12_init_171 : decode cX12_init 171 = .ok (.iastore, 1) := by decide +kernel
theorem dX12_init_172 : decode cX12_init 172 = .ok (.dup, 1) := by decide +kernel
theorem dX12_init_173 : decode cX12_init 173 = .ok (.bipush 20, 2) := by decide +kernel
theorem dX12_init_175 : decode cX12_init 175 = .ok (.bipush 110, 2) := by decide +kernel
theorem dX12_init_177 : decode cX12_init 177 = .ok (.iastore, 1) := by decide +kernel
theorem dX12_init_178 : decode cX12_init 178 = .ok (.dup, 1) := by decide +kernel
theorem dX12_init_179 : decode cX12_init 179 = .ok (.bipush 21, 2) := by decide +kernel
theorem dX12_init_181 : decode cX12_init 181 = .ok (.bipush 111, 2) := by decide +kernel
theorem dX12_init_183 : decode cX12_init 183 = .ok (.iastore, 1) := by decide +kernel
theorem dX12_init_184 : decode cX12_init 184 = .ok (.dup, 1) := by decide +kernel
theorem dX12_init_185 : decode cX12_init 185 = .ok (.bipush 22, 2) := by decide +kernel
theorem dX12_init_187 : decode cX12_init 187 = .ok (.bipush 116, 2) := by decide +kernel
theorem dX12_init_189 : decode cX12_init 189 = .ok (.iastore, 1) := by decide +kernel
theorem dX12_init_190 : decode cX12_init 190 = .ok (.dup, 1) := by decide +kernel
theorem dX12_init_191 : decode cX12_init 191 = .ok (.bipush 23, 2) := by decide +kernel
theorem dX12_init_193 : decode cX12_init 193 = .ok (.bipush 32, 2) := by decide +kernel
theorem dX12_init_195 : decode cX12_init 195 = .ok (.iastore, 1) := by decide +kernel
theorem dX12_init_196 : decode cX12_init 196 = .ok (.dup, 1) := by decide +kernel
theorem dX12_init_197 : decode cX12_init 197 = .ok (.bipush 24, 2) := by decide +kernel
theorem dX12_init_199 : decode cX12_init 199 = .ok (.bipush 108, 2) := by decide +kernel
theorem dX12_init_201 : decode cX12_init 201 = .ok (.iastore, 1) := by decide +kernel
theorem dX12_init_202 : decode cX12_init 202 = .ok (.dup, 1) := by decide +kernel
theorem dX12_init_203 : decode cX12_init 203 = .ok (.bipush 25, 2) := by decide +kernel
theorem dX12_init_205 : decode cX12_init 205 = .ok (.bipush 111, 2) := by decide +kernel
theorem dX12_init_207 : decode cX12_init 207 = .ok (.iastore, 1) := by decide +kernel
theorem dX12_init_208 : decode cX12_init 208 = .ok (.dup, 1) := by decide +kernel
theorem dX12_init_209 : decode cX12_init 209 = .ok (.bipush 26, 2) := by decide +kernel
theorem dX12_init_211 : decode cX12_init 211 = .ok (.bipush 119, 2) := by decide +kernel
theorem dX12_init_213 : decode cX12_init 213 = .ok (.iastore, 1) := by decide +kernel
theorem dX12_init_214 : decode cX12_init 214 = .ok (.dup, 1) := by decide +kernel
theorem dX12_init_215 : decode cX12_init 215 = .ok (.bipush 27, 2) := by decide +kernel
theorem dX12_init_217 : decode cX12_init 217 = .ok (.bipush 32, 2) := by decide +kernel
theorem dX12_init_219 : decode cX12_init 219 = .ok (.iastore, 1) := by decide +kernel
theorem dX12_init_220 : decode cX12_init 220 = .ok (.dup, 1) := by decide +kernel
theorem dX12_init_221 : decode cX12_init 221 = .ok (.bipush 28, 2) := by decide +kernel
theorem dX12_init_223 : decode cX12_init 223 = .ok (.bipush 104, 2) := by decide +kernel
theorem dX12_init_225 : decode cX12_init 225 = .ok (.iastore, 1) := by decide +kernel
theorem dX12_init_226 : decode cX12_init 226 = .ok (.dup, 1) := by decide +kernel
theorem dX12_init_227 : decode cX12_init 227 = .ok (.bipush 29, 2) := by decide +kernel
theorem dX12_init_229 : decode cX12_init 229 = .ok (.bipush 105, 2) := by decide +kernel
theorem dX12_init_231 : decode cX12_init 231 = .ok (.iastore, 1) := by decide +kernel
theorem dX12_init_232 : decode cX12_init 232 = .ok (.dup, 1) := by decide +kernel
theorem dX12_init_233 : decode cX12_init 233 = .ok (.bipush 30, 2) := by decide +kernel
theorem dX12_init_235 : decode cX12_init 235 = .ok (.bipush 103, 2) := by decide +kernel
theorem dX12_init_237 : decode cX12_init 237 = .ok (.iastore, 1) := by decide +kernel
theorem dX12_init_238 : decode cX12_init 238 = .ok (.dup, 1) := by decide +kernel
theorem dX12_init_239 : decode cX12_init 239 = .ok (.bipush 31, 2) := by decide +kernel
theorem dX12_init_241 : decode cX12_init 241 = .ok (.bipush 104, 2) := by decide +kernel
theorem dX12_init_243 : decode cX12_init 243 = .ok (.iastore, 1) := by decide +kernel
theorem dX12_init_244 : decode cX12_init 244 = .ok (.dup, 1) := by decide +kernel
theorem dX12_init_245 : decode cX12_init 245 = .ok (.bipush 32, 2) := by decide +kernel
theorem dX12_init_247 : decode cX12_init 247 = .ok (.bipush 32, 2) := by decide +kernel
theorem dX12_init_249 : decode cX12_init 249 = .ok (.iastore, 1) := by decide +kernel
theorem dX12_init_250 : decode cX12_init 250 = .ok (.dup, 1) := by decide +kernel
theorem dX12_init_251 : decode cX12_init 251 = .ok (.bipush 33, 2) := by decide +kernel
theorem dX12_init_253 : decode cX12_init 253 = .ok (.bipush 115, 2) := by decide +kernel
theorem dX12_init_255 : decode cX12_init 255 = .ok (.iastore, 1) := by decide +kernel
theorem dX12_init_256 : decode cX12_init 256 = .ok (.dup, 1) := by decide +kernel
theorem dX12_init_257 : decode cX12_init 257 = .ok (.bipush 34, 2) := by decide +kernel
theorem dX12_init_259 : decode cX12_init 259 = .ok (.bipush 112, 2) := by decide +kernel
theorem dX12_init_261 : decode cX12_init 261 = .ok (.iastore, 1) := by decide +kernel
theorem dX12_init_262 : decode cX12_init 262 = .ok (.dup, 1) := by decide +kernel
theorem dX12_init_263 : decode cX12_init 263 = .ok (.bipush 35, 2) := by decide +kernel
theorem dX12_init_265 : decode cX12_init 265 = .ok (.bipush 97, 2) := by decide +kernel
theorem dX12_init_267 : decode cX12_init 267 = .ok (.iastore, 1) := by decide +kernel
theorem dX12_init_268 : decode cX12_init 268 = .ok (.dup, 1) := by decide +kernel
theorem dX12_init_269 : decode cX12_init 269 = .ok (.bipush 36, 2) := by decide +kernel
theorem dX12_init_271 : decode cX12_init 271 = .ok (.bipush 110, 2) := by decide +kernel
theorem dX12_init_273 : decode cX12_init 273 = .ok (.iastore, 1) := by decide +kernel
theorem dX12_init_274 : decode cX12_init 274 = .ok (.dup, 1) := by decide +kernel
theorem dX12_init_275 : decode cX12_init 275 = .ok (.bipush 37, 2) := by decide +kernel
theorem dX12_init_277 : decode cX12_init 277 = .ok (.bipush 32, 2) := by decide +kernel
theorem dX12_init_279 : decode cX12_init 279 = .ok (.iastore, 1) := by decide +kernel
theorem dX12_init_280 : decode cX12_init 280 = .ok (.dup, 1) := by decide +kernel
theorem dX12_init_281 : decode cX12_init 281 = .ok (.bipush 38, 2) := by decide +kernel
theorem dX12_init_283 : decode cX12_init 283 = .ok (.bipush 102, 2) := by decide +kernel
theorem dX12_init_285 : decode cX12_init 285 = .ok (.iastore, 1) := by decide +kernel
theorem dX12_init_286 : decode cX12_init 286 = .ok (.dup, 1) := by decide +kernel
theorem dX12_init_287 : decode cX12_init 287 = .ok (.bipush 39, 2) := by decide +kernel
theorem dX12_init_289 : decode cX12_init 289 = .ok (.bipush 97, 2) := by decide +kernel
theorem dX12_init_291 : decode cX12_init 291 = .ok (.iastore, 1) := by decide +kernel
theorem dX12_init_292 : decode cX12_init 292 = .ok (.dup, 1) := by decide +kernel
theorem dX12_init_293 : decode cX12_init 293 = .ok (.bipush 40, 2) := by decide +kernel
theorem dX12_init_295 : decode cX12_init 295 = .ok (.bipush 108, 2) := by decide +kernel
theorem dX12_init_297 : decode cX12_init 297 = .ok (.iastore, 1) := by decide +kernel
theorem dX12_init_298 : decode cX12_init 298 = .ok (.dup, 1) := by decide +kernel
theorem dX12_init_299 : decode cX12_init 299 = .ok (.bipush 41, 2) := by decide +kernel
theorem dX12_init_301 : decode cX12_init 301 = .ok (.bipush 108, 2) := by decide +kernel
theorem dX12_init_303 : decode cX12_init 303 = .ok (.iastore, 1) := by decide +kernel
theorem dX12_init_304 : decode cX12_init 304 = .ok (.dup, 1) := by decide +kernel
theorem dX12_init_305 : decode cX12_init 305 = .ok (.bipush 42, 2) := by decide +kernel
theorem dX12_init_307 : decode cX12_init 307 = .ok (.bipush 115, 2) := by decide +kernel
theorem dX12_init_309 : decode cX12_init 309 = .ok (.iastore, 1) := by decide +kernel
theorem dX12_init_310 : decode cX12_init 310 = .ok (.dup, 1) := by decide +kernel
theorem dX12_init_311 : decode cX12_init 311 = .ok (.bipush 43, 2) := by decide +kernel
theorem dX12_init_313 : decode cX12_init 313 = .ok (.bipush 32, 2) := by decide +kernel
theorem dX12_init_315 : decode cX12_init 315 = .ok (.iastore, 1) := by decide +kernel
theorem dX12_init_316 : decode cX12_init 316 = .ok (.dup, 1) := by decide +kernel
theorem dX12_init_317 : decode cX12_init 317 = .ok (.bipush 44, 2) := by decide +kernel
theorem dX12_init_319 : decode cX12_init 319 = .ok (.bipush 108, 2) := by decide +kernel
theorem dX12_init_321 : decode cX12_init 321 = .ok (.iastore, 1) := by decide +kernel
theorem dX12_init_322 : decode cX12_init 322 = .ok (.dup, 1) := by decide +kernel
theorem dX12_init_323 : decode cX12_init 323 = .ok (.bipush 45, 2) := by decide +kernel
theorem dX12_init_325 : decode cX12_init 325 = .ok (.bipush 97, 2) := by decide +kernel
theorem dX12_init_327 : decode cX12_init 327 = .ok (.iastore, 1) := by decide +kernel
theorem dX12_init_328 : decode cX12_init 328 = .ok (.dup, 1) := by decide +kernel
theorem dX12_init_329 : decode cX12_init 329 = .ok (.bipush 46, 2) := by decide +kernel
theorem dX12_init_331 : decode cX12_init 331 = .ok (.bipush 115, 2) := by decide +kernel
theorem dX12_init_333 : decode cX12_init 333 = .ok (.iastore, 1) := by decide +kernel
theorem dX12_init_334 : decode cX12_init 334 = .ok (.dup, 1) := by decide +kernel
theorem dX12_init_335 : decode cX12_init 335 = .ok (.bipush 47, 2) := by decide +kernel
theorem dX12_init_337 : decode cX12_init 337 = .ok (.bipush 116, 2) := by decide +kernel
theorem dX12_init_339 : decode cX12_init 339 = .ok (.iastore, 1) := by decide +kernel
theorem dX12_init_340 : decode cX12_init 340 = .ok (.dup, 1) := by decide +kernel
theorem dX12_init_341 : decode cX12_init 341 = .ok (.bipush 48, 2) := by decide +kernel
theorem dX12_init_343 : decode cX12_init 343 = .ok (.bipush 32, 2) := by decide +kernel
theorem dX12_init_345 : decode cX12_init 345 = .ok (.iastore, 1) := by decide +kernel
theorem dX12_init_346 : decode cX12_init 346 = .ok (.dup, 1) := by decide +kernel
theorem dX12_init_347 : decode cX12_init 347 = .ok (.bipush 49, 2) := by decide +kernel
theorem dX12_init_349 : decode cX12_init 349 = .ok (.bipush 98, 2) := by decide +kernel
theorem dX12_init_351 : decode cX12_init 351 = .ok (.iastore, 1) := by decide +kernel
theorem dX12_init_352 : decode cX12_init 352 = .ok (.dup, 1) := by decide +kernel
theorem dX12_init_353 : decode cX12_init 353 = .ok (.bipush 50, 2) := by decide +kernel
theorem dX12_init_355 : decode cX12_init 355 = .ok (.bipush 114, 2) := by decide +kernel
theorem dX12_init_357 : decode cX12_init 357 = .ok (.iastore, 1) := by decide +kernel
theorem dX12_init_358 : decode cX12_init 358 = .ok (.dup, 1) := by decide +kernel
theorem dX12_init_359 : decode cX12_init 359 = .ok (.bipush 51, 2) := by decide +kernel
theorem dX12_init_361 : decode cX12_init 361 = .ok (.bipush 111, 2) := by decide +kernel
theorem dX12_init_363 : decode cX12_init 363 = .ok (.iastore, 1) := by decide +kernel
theorem dX12_init_364 : decode cX12_init 364 = .ok (.dup, 1) := by decide +kernel
theorem dX12_init_365 : decode cX12_init 365 = .ok (.bipush 52, 2) := by decide +kernel
theorem dX12_init_367 : decode cX12_init 367 = .ok (.bipush 107, 2) := by decide +kernel
theorem dX12_init_369 : decode cX12_init 369 = .ok (.iastore, 1) := by decide +kernel
theorem dX12_init_370 : decode cX12_init 370 = .ok (.dup, 1) := by decide +kernel
theorem dX12_init_371 : decode cX12_init 371 = .ok (.bipush 53, 2) := by decide +kernel
theorem dX12_init_373 : decode cX12_init 373 = .ok (.bipush 101, 2) := by decide +kernel
theorem dX12_init_375 : decode cX12_init 375 = .ok (.iastore, 1) := by decide +kernel
theorem dX12_init_376 : decode cX12_init 376 = .ok (.dup, 1) := by decide +kernel
theorem dX12_init_377 : decode cX12_init 377 = .ok (.bipush 54, 2) := by decide +kernel
theorem dX12_init_379 : decode cX12_init 379 = .ok (.bipush 32, 2) := by decide +kernel
theorem dX12_init_381 : decode cX12_init 381 = .ok (.iastore, 1) := by decide +kernel
theorem dX12_init_382 : decode cX12_init 382 = .ok (.dup, 1) := by decide +kernel
theorem dX12_init_383 : decode cX12_init 383 = .ok (.bipush 55, 2) := by decide +kernel
theorem dX12_init_385 : decode cX12_init 385 = .ok (.bipush 111, 2) := by decide +kernel
theorem dX12_init_387 : decode cX12_init 387 = .ok (.iastore, 1) := by decide +kernel
theorem dX12_init_388 : decode cX12_init 388 = .ok (.dup, 1) := by decide +kernel
theorem dX12_init_389 : decode cX12_init 389 = .ok (.bipush 56, 2) := by decide +kernel
theorem dX12_init_391 : decode cX12_init 391 = .ok (.bipush 110, 2) := by decide +kernel
theorem dX12_init_393 : decode cX12_init 393 = .ok (.iastore, 1) := by decide +kernel
theorem dX12_init_394 : decode cX12_init 394 = .ok (.dup, 1) := by decide +kernel
theorem dX12_init_395 : decode cX12_init 395 = .ok (.bipush 57, 2) := by decide +kernel
theorem dX12_init_397 : decode cX12_init 397 = .ok (.bipush 101, 2) := by decide +kernel
theorem dX12_init_399 : decode cX12_init 399 = .ok (.iastore, 1) := by decide +kernel
theorem dX12_init_400 : decode cX12_init 400 = .ok (.dup, 1) := by decide +kernel
theorem dX12_init_401 : decode cX12_init 401 = .ok (.bipush 58, 2) := by decide +kernel
theorem dX12_init_403 : decode cX12_init 403 = .ok (.bipush 32, 2) := by decide +kernel
theorem dX12_init_405 : decode cX12_init 405 = .ok (.iastore, 1) := by decide +kernel
theorem dX12_init_406 : decode cX12_init 406 = .ok (.dup, 1) := by decide +kernel
theorem dX12_init_407 : decode cX12_init 407 = .ok (.bipush 59, 2) := by decide +kernel
theorem dX12_init_409 : decode cX12_init 409 = .ok (.bipush 116, 2) := by decide +kernel
theorem dX12_init_411 : decode cX12_init 411 = .ok (.iastore, 1) := by decide +kernel
theorem dX12_init_412 : decode cX12_init 412 = .ok (.dup, 1) := by decide +kernel
theorem dX12_init_413 : decode cX12_init 413 = .ok (.bipush 60, 2) := by decide +kernel
theorem dX12_init_415 : decode cX12_init 415 = .ok (.bipush 119, 2) := by decide +kernel
theorem dX12_init_417 : decode cX12_init 417 = .ok (.iastore, 1) := by decide +kernel
theorem dX12_init_418 : decode cX12_init 418 = .ok (.dup, 1) := by decide +kernel
theorem dX12_init_419 : decode cX12_init 419 = .ok (.bipush 61, 2) := by decide +kernel
theorem dX12_init_421 : decode cX12_init 421 = .ok (.bipush 111, 2) := by decide +kernel
theorem dX12_init_423 : decode cX12_init 423 = .ok (.iastore, 1) := by decide +kernel
theorem dX12_init_424 : decode cX12_init 424 = .ok (.dup, 1) := by decide +kernel
theorem dX12_init_425 : decode cX12_init 425 = .ok (.bipush 62, 2) := by decide +kernel
theorem dX12_init_427 : decode cX12_init 427 = .ok (.bipush 32, 2) := by decide +kernel
theorem dX12_init_429 : decode cX12_init 429 = .ok (.iastore, 1) := by decide +kernel
theorem dX12_init_430 : decode cX12_init 430 = .ok (.dup, 1) := by decide +kernel
theorem dX12_init_431 : decode cX12_init 431 = .ok (.bipush 63, 2) := by decide +kernel
theorem dX12_init_433 : decode cX12_init 433 = .ok (.bipush 116, 2) := by decide +kernel
theorem dX12_init_435 : decode cX12_init 435 = .ok (.iastore, 1) := by decide +kernel
theorem dX12_init_436 : decode cX12_init 436 = .ok (.dup, 1) := by decide +kernel
theorem dX12_init_437 : decode cX12_init 437 = .ok (.bipush 64, 2) := by decide +kernel
theorem dX12_init_439 : decode cX12_init 439 = .ok (.bipush 104, 2) := by decide +kernel
theorem dX12_init_441 : decode cX12_init 441 = .ok (.iastore, 1) := by decide +kernel
theorem dX12_init_442 : decode cX12_init 442 = .ok (.dup, 1) := by decide +kernel
theorem dX12_init_443 : decode cX12_init 443 = .ok (.bipush 65, 2) := by decide +kernel
theorem dX12_init_445 : decode cX12_init 445 = .ok (.bipush 114, 2) := by decide +kernel
theorem dX12_init_447 : decode cX12_init 447 = .ok (.iastore, 1) := by decide +kernel
theorem dX12_init_448 : decode cX12_init 448 = .ok (.dup, 1) := by decide +kernel
theorem dX12_init_449 : decode cX12_init 449 = .ok (.bipush 66, 2) := by decide +kernel
theorem dX12_init_451 : decode cX12_init 451 = .ok (.bipush 101, 2) := by decide +kernel
theorem dX12_init_453 : decode cX12_init 453 = .ok (.iastore, 1) := by decide +kernel
theorem dX12_init_454 : decode cX12_init 454 = .ok (.dup, 1) := by decide +kernel
theorem dX12_init_455 : decode cX12_init 455 = .ok (.bipush 67, 2) := by decide +kernel
theorem dX12_init_457 : decode cX12_init 457 = .ok (.bipush 101, 2) := by decide +kernel
theorem dX12_init_459 : decode cX12_init 459 = .ok (.iastore, 1) := by decide +kernel
theorem dX12_init_460 : decode cX12_init 460 = .ok (.dup, 1) := by decide +kernel
theorem dX12_init_461 : decode cX12_init 461 = .ok (.bipush 68, 2) := by decide +kernel
theorem dX12_init_463 : decode cX12_init 463 = .ok (.bipush 32, 2) := by decide +kernel
theorem dX12_init_465 : decode cX12_init 465 = .ok (.iastore, 1) := by decide +kernel
theorem dX12_init_466 : decode cX12_init 466 = .ok (.putfield 32, 3) := by decide +kernel
theorem dX12_init_469 : decode cX12_init 469 = .ok (.aload_n 0, 1) := by decide +kernel
theorem dX12_init_470 : decode cX12_init 470 = .ok (.iconst (-1), 1) := by decide +kernel
theorem dX12_init_471 : decode cX12_init 471 = .ok (.putfield 35, 3) := by decide +kernel
theorem dX12_init_474 : decode cX12_init 474 = .ok (.aload_n 0, 1) := by decide +kernel
theorem dX12_init_475 : decode cX12_init 475 = .ok (.sipush 128, 3) := by decide +kernel
theorem dX12_init_478 : decode cX12_init 478 = .ok (.newarray .int, 2) := by decide +kernel
theorem dX12_init_480 : decode cX12_init 480 = .ok (.putfield 38, 3) := by decide +kernel
theorem dX12_init_483 : decode cX12_init 483 = .ok (.aload_n 0, 1) := by decide +kernel
theorem dX12_init_484 : decode cX12_init 484 = .ok (.sipush 128, 3) := by decide +kernel
theorem dX12_init_487 : decode cX12_init 487 = .ok (.newarray .int, 2) := by decide +kernel
theorem dX12_init_489 : decode cX12_init 489 = .ok (.putfield 41, 3) := by decide +kernel
theorem dX12_init_492 : decode cX12_init 492 = .ok (.aload_n 0, 1) := by decide +kernel
theorem dX12_init_493 : decode cX12_init 493 = .ok (.sipush 128, 3) := by decide +kernel
theorem dX12_init_496 : decode cX12_init 496 = .ok (.newarray .int, 2) := by decide +kernel
theorem dX12_init_498 : decode cX12_init 498 = .ok (.putfield 44, 3) := by decide +kernel
theorem dX12_init_501 : decode cX12_init 501 = .ok (.aload_n 0, 1) := by decide +kernel
theorem dX12_init_502 : decode cX12_init 502 = .ok (.bipush 24, 2) := by decide +kernel
theorem dX12_init_504 : decode cX12_init 504 = .ok (.newarray .int, 2) := by decide +kernel
theorem dX12_init_506 : decode cX12_init 506 = .ok (.putfield 47, 3) := by decide +kernel
theorem dX12_init_509 : decode cX12_init 509 = .ok (.aload_n 0, 1) := by decide +kernel
theorem dX12_init_510 : decode cX12_init 510 = .ok (.bipush 24, 2) := by decide +kernel
theorem dX12_init_512 : decode cX12_init 512 = .ok (.newarray .int, 2) := by decide +kernel
theorem dX12_init_514 : decode cX12_init 514 = .ok (.putfield 50, 3) := by decide +kernel
theorem dX12_init_517 : decode cX12_init 517 = .ok (.aload_n 0, 1) := by decide +kernel
theorem dX12_init_518 : decode cX12_init 518 = .ok (.bipush 24, 2) := by decide +kernel
theorem dX12_init_520 : decode cX12_init 520 = .ok (.newarray .int, 2) := by decide +kernel
theorem dX12_init_522 : decode cX12_init 522 = .ok (.putfield 53, 3) := by decide +kernel
theorem dX12_init_525 : decode cX12_init 525 = .ok (.aload_n 0, 1) := by decide +kernel
theorem dX12_init_526 : decode cX12_init 526 = .ok (.bipush 24, 2) := by decide +kernel
theorem dX12_init_528 : decode cX12_init 528 = .ok (.newarray .int, 2) := by decide +kernel
theorem dX12_init_530 : decode cX12_init 530 = .ok (.putfield 56, 3) := by decide +kernel
theorem dX12_init_533 : decode cX12_init 533 = .ok (.aload_n 0, 1) := by decide +kernel
theorem dX12_init_534 : decode cX12_init 534 = .ok (.bipush 24, 2) := by decide +kernel
theorem dX12_init_536 : decode cX12_init 536 = .ok (.newarray .int, 2) := by decide +kernel
theorem dX12_init_538 : decode cX12_init 538 = .ok (.putfield 59, 3) := by decide +kernel
theorem dX12_init_541 : decode cX12_init 541 = .ok (.aload_n 0, 1) := by decide +kernel
theorem dX12_init_542 : decode cX12_init 542 = .ok (.bipush 96, 2) := by decide +kernel
theorem dX12_init_544 : decode cX12_init 544 = .ok (.newarray .int, 2) := by decide +kernel
theorem dX12_init_546 : decode cX12_init 546 = .ok (.putfield 62, 3) := by decide +kernel
theorem dX12_init_549 : decode cX12_init 549 = .ok (.aload_n 0, 1) := by decide +kernel
theorem dX12_init_550 : decode cX12_init 550 = .ok (.bipush 96, 2) := by decide +kernel
theorem dX12_init_552 : decode cX12_init 552 = .ok (.newarray .int, 2) := by decide +kernel
theorem dX12_init_554 : decode cX12_init 554 = .ok (.putfield 65, 3) := by decide +kernel
theorem dX12_init_557 : decode cX12_init 557 = .ok (.aload_n 0, 1) := by decide +kernel
theorem dX12_init_558 : decode cX12_init 558 = .ok (.bipush 9, 2) := by decide +kernel
theorem dX12_init_560 : decode cX12_init 560 = .ok (.newarray .long, 2) := by decide +kernel
theorem dX12_init_562 : decode cX12_init 562 = .ok (.putfield 68, 3) := by decide +kernel
theorem dX12_init_565 : decode cX12_init 565 = .ok (.aload_n 0, 1) := by decide +kernel
theorem dX12_init_566 : decode cX12_init 566 = .ok (.bipush 64, 2) := by decide +kernel
theorem dX12_init_568 : decode cX12_init 568 = .ok (.newarray .long, 2) := by decide +kernel
theorem dX12_init_570 : decode cX12_init 570 = .ok (.putfield 72, 3) := by decide +kernel
theorem dX12_init_573 : decode cX12_init 573 = .ok (.aload_n 0, 1) := by decide +kernel
theorem dX12_init_574 : decode cX12_init 574 = .ok (.sipush 200, 3) := by decide +kernel
theorem dX12_init_577 : decode cX12_init 577 = .ok (.newarray .int, 2) := by decide +kernel
theorem dX12_init_579 : decode cX12_init 579 = .ok (.putfield 75, 3) := by decide +kernel
theorem dX12_init_582 : decode cX12_init 582 = .ok (.aload_n 0, 1) := by decide +kernel
theorem dX12_init_583 : decode cX12_init 583 = .ok (.sipush 200, 3) := by decide +kernel
theorem dX12_init_586 : decode cX12_init 586 = .ok (.newarray .int, 2) := by decide +kernel
theorem dX12_init_588 : decode cX12_init 588 = .ok (.putfield 78, 3) := by decide +kernel
theorem dX12_init_591 : decode cX12_init 591 = .ok (.aload_n 0, 1) := by decide +kernel
theorem dX12_init_592 : decode cX12_init 592 = .ok (.sipush 200, 3) := by decide +kernel
theorem dX12_init_595 : decode cX12_init 595 = .ok (.newarray .int, 2) := by decide +kernel
theorem dX12_init_597 : decode cX12_init 597 = .ok (.putfield 81, 3) := by decide +kernel
theorem dX12_init_600 : decode cX12_init 600 = .ok (.aload_n 0, 1) := by decide +kernel
theorem dX12_init_601 : decode cX12_init 601 = .ok (.ldc 84, 2) := by decide +kernel
theorem dX12_init_603 : decode cX12_init 603 = .ok (.newarray .long, 2) := by decide +kernel
theorem dX12_init_605 : decode cX12_init 605 = .ok (.putfield 85, 3) := by decide +kernel
theorem dX12_init_608 : decode cX12_init 608 = .ok (.aload_n 0, 1) := by decide +kernel
theorem dX12_init_609 : decode cX12_init 609 = .ok (.bipush 42, 2) := by decide +kernel
theorem dX12_init_611 : decode cX12_init 611 = .ok (.newarray .int, 2) := by decide +kernel
theorem dX12_init_613 : decode cX12_init 613 = .ok (.putfield 88, 3) := by decide +kernel
theorem dX12_init_616 : decode cX12_init 616 = .ok (.aload_n 0, 1) := by decide +kernel
theorem dX12_init_617 : decode cX12_init 617 = .ok (.ldc 91, 2) := by decide +kernel
theorem dX12_init_619 : decode cX12_init 619 = .ok (.newarray .int, 2) := by decide +kernel
theorem dX12_init_621 : decode cX12_init 621 = .ok (.putfield 92, 3) := by decide +kernel
theorem dX12_init_624 : decode cX12_init 624 = .ok (.aload_n 0, 1) := by decide +kernel
theorem dX12_init_625 : decode cX12_init 625 = .ok (.sipush 410, 3) := by decide +kernel
theorem dX12_init_628 : decode cX12_init 628 = .ok (.newarray .int, 2) := by decide +kernel
theorem dX12_init_630 : decode cX12_init 630 = .ok (.putfield 95, 3) := by decide +kernel
theorem dX12_init_633 : decode cX12_init 633 = .ok (.aload_n 0, 1) := by decide +kernel
theorem dX12_init_634 : decode cX12_init 634 = .ok (.ldc 98, 2) := by decide +kernel
theorem dX12_init_636 : decode cX12_init 636 = .ok (.newarray .int, 2) := by decide +kernel
theorem dX12_init_638 : decode cX12_init 638 = .ok (.putfield 99, 3) := by decide +kernel
theorem dX12_init_641 : decode cX12_init 641 = .ok (.aload_n 0, 1) := by decide +kernel
theorem dX12_init_642 : decode cX12_init 642 = .ok (.bipush 40, 2) := by decide +kernel
theorem dX12_init_644 : decode cX12_init 644 = .ok (.newarray .int, 2) := by decide +kernel
theorem dX12_init_646 : decode cX12_init 646 = .ok (.putfield 102, 3) := by decide +kernel
theorem dX12_init_649 : decode cX12_init 649 = .ok (.aload_n 0, 1) := by decide +kernel
theorem dX12_init_650 : decode cX12_init 650 = .ok (.bipush 40, 2) := by decide +kernel
theorem dX12_init_652 : decode cX12_init 652 = .ok (.newarray .int, 2) := by decide +kernel
theorem dX12_init_654 : decode cX12_init 654 = .ok (.putfield 105, 3) := by decide +kernel
theorem dX12_init_657 : decode cX12_init 657 = .ok (.aload_n 0, 1) := by decide +kernel
theorem dX12_init_658 : decode cX12_init 658 = .ok (.bipush 40, 2) := by decide +kernel
theorem dX12_init_660 : decode cX12_init 660 = .ok (.newarray .int, 2) := by decide +kernel
theorem dX12_init_662 : decode cX12_init 662 = .ok (.putfield 108, 3) := by decide +kernel
theorem dX12_init_665 : decode cX12_init 665 = .ok (.aload_n 0, 1) := by decide +kernel
theorem dX12_init_666 : decode cX12_init 666 = .ok (.bipush 40, 2) := by decide +kernel
theorem dX12_init_668 : decode cX12_init 668 = .ok (.newarray .boolean, 2) := by decide +kernel
theorem dX12_init_670 : decode cX12_init 670 = .ok (.putfield 111, 3) := by decide +kernel
theorem dX12_init_673 : decode cX12_init 673 = .ok (.aload_n 0, 1) := by decide +kernel
theorem dX12_init_674 : decode cX12_init 674 = .ok (.bipush 40, 2) := by decide +kernel
theorem dX12_init_676 : decode cX12_init 676 = .ok (.newarray .boolean, 2) := by decide +kernel
theorem dX12_init_678 : decode cX12_init 678 = .ok (.putfield 115, 3) := by decide +kernel
theorem dX12_init_681 : decode cX12_init 681 = .ok (.aload_n 0, 1) := by decide +kernel
theorem dX12_init_682 : decode cX12_init 682 = .ok (.bipush 100, 2) := by decide +kernel
theorem dX12_init_684 : decode cX12_init 684 = .ok (.newarray .int, 2) := by decide +kernel
theorem dX12_init_686 : decode cX12_init 686 = .ok (.putfield 118, 3) := by decide +kernel
theorem dX12_init_689 : decode cX12_init 689 = .ok (.aload_n 0, 1) := by decide +kernel
theorem dX12_init_690 : decode cX12_init 690 = .ok (.bipush 100, 2) := by decide +kernel
theorem dX12_init_692 : decode cX12_init 692 = .ok (.newarray .int, 2) := by decide +kernel
theorem dX12_init_694 : decode cX12_init 694 = .ok (.putfield 121, 3) := by decide +kernel
theorem dX12_init_697 : decode cX12_init 697 = .ok (.aload_n 0, 1) := by decide +kernel
theorem dX12_init_698 : decode cX12_init 698 = .ok (.bipush 100, 2) := by decide +kernel
theorem dX12_init_700 : decode cX12_init 700 = .ok (.newarray .int, 2) := by decide +kernel
theorem dX12_init_702 : decode cX12_init 702 = .ok (.putfield 124, 3) := by decide +kernel
theorem dX12_init_705 : decode cX12_init 705 = .ok (.aload_n 0, 1) := by decide +kernel
theorem dX12_init_706 : decode cX12_init 706 = .ok (.getfield 20, 3) := by decide +kernel
theorem dX12_init_709 : decode cX12_init 709 = .ok (.iconst 0, 1) := by decide +kernel
theorem dX12_init_710 : decode cX12_init 710 = .ok (.iconst 2, 1) := by decide +kernel
theorem dX12_init_711 : decode cX12_init 711 = .ok (.iastore, 1) := by decide +kernel
theorem dX12_init_712 : decode cX12_init 712 = .ok (.iconst 0, 1) := by decide +kernel
theorem dX12_init_713 : decode cX12_init 713 = .ok (.istore_n 1, 1) := by decide +kernel
theorem dX12_init_714 : decode cX12_init 714 = .ok (.iload_n 1, 1) := by decide +kernel
theorem dX12_init_715 : decode cX12_init 715 = .ok (.iconst 3, 1) := by decide +kernel
theorem dX12_init_716 : decode cX12_init 716 = .ok (.if_icmp .ge 16, 3) := by decide +kernel
theorem dX12_init_719 : decode cX12_init 719 = .ok (.aload_n 0, 1) := by decide +kernel
theorem dX12_init_720 : decode cX12_init 720 = .ok (.getfield 23, 3) := by decide +kernel
theorem dX12_init_723 : decode cX12_init 723 = .ok (.iload_n 1, 1) := by decide +kernel
theorem dX12_init_724 : decode cX12_init 724 = .ok (.iconst 1, 1) := by decide +kernel
theorem dX12_init_725 : decode cX12_init 725 = .ok (.iastore, 1) := by decide +kernel
theorem dX12_init_726 : decode cX12_init 726 = .ok (.iinc 1 1, 3) := by decide +kernel
theorem dX12_init_729 : decode cX12_init 729 = .ok (.goto (-15), 3) := by decide +kernel
theorem dX12_init_732 : decode cX12_init 732 = .ok (.iconst 0, 1) := by decide +kernel
theorem dX12_init_733 : decode cX12_init 733 = .ok (.istore_n 1, 1) := by decide +kernel
theorem dX12_init_734 : decode cX12_init 734 = .ok (.iload_n 1, 1) := by decide +kernel
theorem dX12_init_735 : decode cX12_init 735 = .ok (.bipush 41, 2) := by decide +kernel
theorem dX12_init_737 : decode cX12_init 737 = .ok (.if_icmp .ge 16, 3) := by decide +kernel
theorem dX12_init_740 : decode cX12_init 740 = .ok (.aload_n 0, 1) := by decide +kernel
theorem dX12_init_741 : decode cX12_init 741 = .ok (.getfield 26, 3) := by decide +kernel
theorem dX12_init_744 : decode cX12_init 744 = .ok (.iload_n 1, 1) := by decide +kernel
theorem dX12_init_745 : decode cX12_init 745 = .ok (.iconst 1, 1) := by decide +kernel
theorem dX12_init_746 : decode cX12_init 746 = .ok (.iastore, 1) := by decide +kernel
theorem dX12_init_747 : decode cX12_init 747 = .ok (.iinc 1 1, 3) := by decide +kernel
theorem dX12_init_750 : decode cX12_init 750 = .ok (.goto (-16), 3) := by decide +kernel
theorem dX12_init_753 : decode cX12_init 753 = .ok (.return_, 1) := by decide +kernel
theorem dX12_thrown_0 : decode cX12_thrown 0 = .ok (.aload_n 0, 1) := by decide +kernel
theorem dX12_thrown_1 : decode cX12_thrown 1 = .ok (.getfield 127, 3) := by decide +kernel
theorem dX12_thrown_4 : decode cX12_thrown 4 = .ok (.ireturn, 1) := by decide +kernel
theorem dX12_feed_0 : decode cX12_feed 0 = .ok (.aload_n 0, 1) := by decide +kernel
theorem dX12_feed_1 : decode cX12_feed 1 = .ok (.iconst 0, 1) := by decide +kernel
theorem dX12_feed_2 : decode cX12_feed 2 = .ok (.putfield 127, 3) := by decide +kernel
theorem dX12_feed_5 : decode cX12_feed 5 = .ok (.aload_n 0, 1) := by decide +kernel
theorem dX12_feed_6 : decode cX12_feed 6 = .ok (.getfield 130, 3) := by decide +kernel
theorem dX12_feed_9 : decode cX12_feed 9 = .ok (.bipush 20, 2) := by decide +kernel
theorem dX12_feed_11 : decode cX12_feed 11 = .ok (.iadd, 1) := by decide +kernel
theorem dX12_feed_12 : decode cX12_feed 12 = .ok (.sipush 400, 3) := by decide +kernel
theorem dX12_feed_15 : decode cX12_feed 15 = .ok (.if_icmp .le 5, 3) := by decide +kernel
theorem dX12_feed_18 : decode cX12_feed 18 = .ok (.iconst (-1), 1) := by decide +kernel
theorem dX12_feed_19 : decode cX12_feed 19 = .ok (.ireturn, 1) := by decide +kernel
theorem dX12_feed_20 : decode cX12_feed 20 = .ok (.iconst 0, 1) := by decide +kernel
theorem dX12_feed_21 : decode cX12_feed 21 = .ok (.istore 6, 2) := by decide +kernel
theorem dX12_feed_23 : decode cX12_feed 23 = .ok (.iload 6, 2) := by decide +kernel
theorem dX12_feed_25 : decode cX12_feed 25 = .ok (.bipush 20, 2) := by decide +kernel
theorem dX12_feed_27 : decode cX12_feed 27 = .ok (.if_icmp .ge 86, 3) := by decide +kernel
theorem dX12_feed_30 : decode cX12_feed 30 = .ok (.iload 6, 2) := by decide +kernel
theorem dX12_feed_32 : decode cX12_feed 32 = .ok (.iconst 4, 1) := by decide +kernel
theorem dX12_feed_33 : decode cX12_feed 33 = .ok (.if_icmp .ge 7, 3) := by decide +kernel
theorem dX12_feed_36 : decode cX12_feed 36 = .ok (.iload_n 1, 1) := by decide +kernel
theorem dX12_feed_37 : decode cX12_feed 37 = .ok (.goto 39, 3) := by decide +kernel
theorem dX12_feed_40 : decode cX12_feed 40 = .ok (.iload 6, 2) := by decide +kernel
theorem dX12_feed_42 : decode cX12_feed 42 = .ok (.bipush 8, 2) := by decide +kernel
theorem dX12_feed_44 : decode cX12_feed 44 = .ok (.if_icmp .ge 7, 3) := by decide +kernel
theorem dX12_feed_47 : decode cX12_feed 47 = .ok (.iload_n 2, 1) := by decide +kernel
theorem dX12_feed_48 : decode cX12_feed 48 = .ok (.goto 28, 3) := by decide +kernel
theorem dX12_feed_51 : decode cX12_feed 51 = .ok (.iload 6, 2) := by decide +kernel
theorem dX12_feed_53 : decode cX12_feed 53 = .ok (.bipush 12, 2) := by decide +kernel
theorem dX12_feed_55 : decode cX12_feed 55 = .ok (.if_icmp .ge 7, 3) := by decide +kernel
theorem dX12_feed_58 : decode cX12_feed 58 = .ok (.iload_n 3, 1) := by decide +kernel
theorem dX12_feed_59 : decode cX12_feed 59 = .ok (.goto 17, 3) := by decide +kernel
theorem dX12_feed_62 : decode cX12_feed 62 = .ok (.iload 6, 2) := by decide +kernel
theorem dX12_feed_64 : decode cX12_feed 64 = .ok (.bipush 16, 2) := by decide +kernel
theorem dX12_feed_66 : decode cX12_feed 66 = .ok (.if_icmp .ge 8, 3) := by decide +kernel
theorem dX12_feed_69 : decode cX12_feed 69 = .ok (.iload 4, 2) := by decide +kernel
theorem dX12_feed_71 : decode cX12_feed 71 = .ok (.goto 5, 3) := by decide +kernel
theorem dX12_feed_74 : decode cX12_feed 74 = .ok (.iload 5, 2) := by decide +kernel
theorem dX12_feed_76 : decode cX12_feed 76 = .ok (.istore 7, 2) := by decide +kernel
theorem dX12_feed_78 : decode cX12_feed 78 = .ok (.aload_n 0, 1) := by decide +kernel
theorem dX12_feed_79 : decode cX12_feed 79 = .ok (.getfield 7, 3) := by decide +kernel
theorem dX12_feed_82 : decode cX12_feed 82 = .ok (.aload_n 0, 1) := by decide +kernel
theorem dX12_feed_83 : decode cX12_feed 83 = .ok (.getfield 130, 3) := by decide +kernel
theorem dX12_feed_86 : decode cX12_feed 86 = .ok (.iload 6, 2) := by decide +kernel
theorem dX12_feed_88 : decode cX12_feed 88 = .ok (.iadd, 1) := by decide +kernel
theorem dX12_feed_89 : decode cX12_feed 89 = .ok (.iload 7, 2) := by decide +kernel
theorem dX12_feed_91 : decode cX12_feed 91 = .ok (.bipush 24, 2) := by decide +kernel
theorem dX12_feed_93 : decode cX12_feed 93 = .ok (.bipush 8, 2) := by decide +kernel
theorem dX12_feed_95 : decode cX12_feed 95 = .ok (.iload 6, 2) := by decide +kernel
theorem dX12_feed_97 : decode cX12_feed 97 = .ok (.iconst 4, 1) := by decide +kernel
theorem dX12_feed_98 : decode cX12_feed 98 = .ok (.irem, 1) := by decide +kernel
theorem dX12_feed_99 : decode cX12_feed 99 = .ok (.imul, 1) := by decide +kernel
theorem dX12_feed_100 : decode cX12_feed 100 = .ok (.isub, 1) := by decide +kernel
theorem dX12_feed_101 : decode cX12_feed 101 = .ok (.ishr, 1) := by decide +kernel
theorem dX12_feed_102 : decode cX12_feed 102 = .ok (.sipush 255, 3) := by decide +kernel
theorem dX12_feed_105 : decode cX12_feed 105 = .ok (.iand, 1) := by decide +kernel
theorem dX12_feed_106 : decode cX12_feed 106 = .ok (.iastore, 1) := by decide +kernel
theorem dX12_feed_107 : decode cX12_feed 107 = .ok (.iinc 6 1, 3) := by decide +kernel
theorem dX12_feed_110 : decode cX12_feed 110 = .ok (.goto (-87), 3) := by decide +kernel
theorem dX12_feed_113 : decode cX12_feed 113 = .ok (.aload_n 0, 1) := by decide +kernel
theorem dX12_feed_114 : decode cX12_feed 114 = .ok (.dup, 1) := by decide +kernel
theorem dX12_feed_115 : decode cX12_feed 115 = .ok (.getfield 130, 3) := by decide +kernel
theorem dX12_feed_118 : decode cX12_feed 118 = .ok (.bipush 20, 2) := by decide +kernel
theorem dX12_feed_120 : decode cX12_feed 120 = .ok (.iadd, 1) := by decide +kernel
theorem dX12_feed_121 : decode cX12_feed 121 = .ok (.putfield 130, 3) := by decide +kernel
theorem dX12_feed_124 : decode cX12_feed 124 = .ok (.aload_n 0, 1) := by decide +kernel
theorem dX12_feed_125 : decode cX12_feed 125 = .ok (.getfield 130, 3) := by decide +kernel
theorem dX12_feed_128 : decode cX12_feed 128 = .ok (.ireturn, 1) := by decide +kernel
theorem dX12_isIn_0 : decode cX12_isIn 0 = .ok (.iload_n 0, 1) := by decide +kernel
theorem dX12_isIn_1 : decode cX12_isIn 1 = .ok (.iload_n 1, 1) := by decide +kernel
theorem dX12_isIn_2 : decode cX12_isIn 2 = .ok (.if_icmp .lt 12, 3) := by decide +kernel
theorem dX12_isIn_5 : decode cX12_isIn 5 = .ok (.iload_n 0, 1) := by decide +kernel
theorem dX12_isIn_6 : decode cX12_isIn 6 = .ok (.iload_n 2, 1) := by decide +kernel
theorem dX12_isIn_7 : decode cX12_isIn 7 = .ok (.if_icmp .gt 7, 3) := by decide +kernel
theorem dX12_isIn_10 : decode cX12_isIn 10 = .ok (.iconst 1, 1) := by decide +kernel
theorem dX12_isIn_11 : decode cX12_isIn 11 = .ok (.goto 4, 3) := by decide +kernel
theorem dX12_isIn_14 : decode cX12_isIn 14 = .ok (.iconst 0, 1) := by decide +kernel
theorem dX12_isIn_15 : decode cX12_isIn 15 = .ok (.ireturn, 1) := by decide +kernel
theorem dX12_stair_0 : decode cX12_stair 0 = .ok (.aload_n 0, 1) := by decide +kernel
theorem dX12_stair_1 : decode cX12_stair 1 = .ok (.iconst 0, 1) := by decide +kernel
theorem dX12_stair_2 : decode cX12_stair 2 = .ok (.putfield 127, 3) := by decide +kernel
theorem dX12_stair_5 : decode cX12_stair 5 = .ok (.iload_n 1, 1) := by decide +kernel
theorem dX12_stair_6 : decode cX12_stair 6 = .ok (.iconst 1, 1) := by decide +kernel
theorem dX12_stair_7 : decode cX12_stair 7 = .ok (.bipush 40, 2) := by decide +kernel
theorem dX12_stair_9 : decode cX12_stair 9 = .ok (.invokestatic 133, 3) := by decide +kernel
theorem dX12_stair_12 : decode cX12_stair 12 = .ok (.ifCond .ne 5, 3) := by decide +kernel
theorem dX12_stair_15 : decode cX12_stair 15 = .ok (.iconst 0, 1) := by decide +kernel
theorem dX12_stair_16 : decode cX12_stair 16 = .ok (.ireturn, 1) := by decide +kernel
theorem dX12_stair_17 : decode cX12_stair 17 = .ok (.aload_n 0, 1) := by decide +kernel
theorem dX12_stair_18 : decode cX12_stair 18 = .ok (.iload_n 1, 1) := by decide +kernel
theorem dX12_stair_19 : decode cX12_stair 19 = .ok (.putfield 13, 3) := by decide +kernel
theorem dX12_stair_22 : decode cX12_stair 22 = .ok (.iconst 0, 1) := by decide +kernel
theorem dX12_stair_23 : decode cX12_stair 23 = .ok (.istore_n 2, 1) := by decide +kernel
theorem dX12_stair_24 : decode cX12_stair 24 = .ok (.iload_n 2, 1) := by decide +kernel
theorem dX12_stair_25 : decode cX12_stair 25 = .ok (.bipush 41, 2) := by decide +kernel
theorem dX12_stair_27 : decode cX12_stair 27 = .ok (.if_icmp .ge 16, 3) := by decide +kernel
theorem dX12_stair_30 : decode cX12_stair 30 = .ok (.aload_n 0, 1) := by decide +kernel
theorem dX12_stair_31 : decode cX12_stair 31 = .ok (.getfield 26, 3) := by decide +kernel
theorem dX12_stair_34 : decode cX12_stair 34 = .ok (.iload_n 2, 1) := by decide +kernel
theorem dX12_stair_35 : decode cX12_stair 35 = .ok (.iconst 1, 1) := by decide +kernel
theorem dX12_stair_36 : decode cX12_stair 36 = .ok (.iastore, 1) := by decide +kernel
theorem dX12_stair_37 : decode cX12_stair 37 = .ok (.iinc 2 1, 3) := by decide +kernel
theorem dX12_stair_40 : decode cX12_stair 40 = .ok (.goto (-16), 3) := by decide +kernel
theorem dX12_stair_43 : decode cX12_stair 43 = .ok (.aload_n 0, 1) := by decide +kernel
theorem dX12_stair_44 : decode cX12_stair 44 = .ok (.iconst 0, 1) := by decide +kernel
theorem dX12_stair_45 : decode cX12_stair 45 = .ok (.putfield 137, 3) := by decide +kernel
theorem dX12_stair_48 : decode cX12_stair 48 = .ok (.aload_n 0, 1) := by decide +kernel
theorem dX12_stair_49 : decode cX12_stair 49 = .ok (.iconst 0, 1) := by decide +kernel
theorem dX12_stair_50 : decode cX12_stair 50 = .ok (.putfield 140, 3) := by decide +kernel
theorem dX12_stair_53 : decode cX12_stair 53 = .ok (.iconst 1, 1) := by decide +kernel
theorem dX12_stair_54 : decode cX12_stair 54 = .ok (.ireturn, 1) := by decide +kernel
theorem dX12_isKind_0 : decode cX12_isKind 0 = .ok (.iload_n 0, 1) := by decide +kernel
theorem dX12_isKind_1 : decode cX12_isKind 1 = .ok (.ifCond .lt 12, 3) := by decide +kernel
theorem dX12_isKind_4 : decode cX12_isKind 4 = .ok (.iload_n 0, 1) := by decide +kernel
theorem dX12_isKind_5 : decode cX12_isKind 5 = .ok (.iconst 3, 1) := by decide +kernel
theorem dX12_isKind_6 : decode cX12_isKind 6 = .ok (.if_icmp .ge 7, 3) := by decide +kernel
theorem dX12_isKind_9 : decode cX12_isKind 9 = .ok (.iconst 1, 1) := by decide +kernel
theorem dX12_isKind_10 : decode cX12_isKind 10 = .ok (.goto 4, 3) := by decide +kernel
theorem dX12_isKind_13 : decode cX12_isKind 13 = .ok (.iconst 0, 1) := by decide +kernel
theorem dX12_isKind_14 : decode cX12_isKind 14 = .ok (.ireturn, 1) := by decide +kernel
theorem dX12_isStep_0 : decode cX12_isStep 0 = .ok (.iload_n 1, 1) := by decide +kernel
theorem dX12_isStep_1 : decode cX12_isStep 1 = .ok (.iconst 1, 1) := by decide +kernel
theorem dX12_isStep_2 : decode cX12_isStep 2 = .ok (.if_icmp .lt 15, 3) := by decide +kernel
theorem dX12_isStep_5 : decode cX12_isStep 5 = .ok (.iload_n 1, 1) := by decide +kernel
theorem dX12_isStep_6 : decode cX12_isStep 6 = .ok (.aload_n 0, 1) := by decide +kernel
theorem dX12_isStep_7 : decode cX12_isStep 7 = .ok (.getfield 13, 3) := by decide +kernel
theorem dX12_isStep_10 : decode cX12_isStep 10 = .ok (.if_icmp .gt 7, 3) := by decide +kernel
theorem dX12_isStep_13 : decode cX12_isStep 13 = .ok (.iconst 1, 1) := by decide +kernel
theorem dX12_isStep_14 : decode cX12_isStep 14 = .ok (.goto 4, 3) := by decide +kernel
theorem dX12_isStep_17 : decode cX12_isStep 17 = .ok (.iconst 0, 1) := by decide +kernel
theorem dX12_isStep_18 : decode cX12_isStep 18 = .ok (.ireturn, 1) := by decide +kernel
theorem dX12_isStrength_0 : decode cX12_isStrength 0 = .ok (.iload_n 1, 1) := by decide +kernel
theorem dX12_isStrength_1 : decode cX12_isStrength 1 = .ok (.ifCond .lt 15, 3) := by decide +kernel
theorem dX12_isStrength_4 : decode cX12_isStrength 4 = .ok (.iload_n 1, 1) := by decide +kernel
theorem dX12_isStrength_5 : decode cX12_isStrength 5 = .ok (.aload_n 0, 1) := by decide +kernel
theorem dX12_isStrength_6 : decode cX12_isStrength 6 = .ok (.getfield 13, 3) := by decide +kernel
theorem dX12_isStrength_9 : decode cX12_isStrength 9 = .ok (.if_icmp .gt 7, 3) := by decide +kernel
theorem dX12_isStrength_12 : decode cX12_isStrength 12 = .ok (.iconst 1, 1) := by decide +kernel
theorem dX12_isStrength_13 : decode cX12_isStrength 13 = .ok (.goto 4, 3) := by decide +kernel
theorem dX12_isStrength_16 : decode cX12_isStrength 16 = .ok (.iconst 0, 1) := by decide +kernel
theorem dX12_isStrength_17 : decode cX12_isStrength 17 = .ok (.ireturn, 1) := by decide +kernel
theorem dX12_kind_0 : decode cX12_kind 0 = .ok (.aload_n 0, 1) := by decide +kernel
theorem dX12_kind_1 : decode cX12_kind 1 = .ok (.iconst 0, 1) := by decide +kernel
theorem dX12_kind_2 : decode cX12_kind 2 = .ok (.putfield 127, 3) := by decide +kernel
theorem dX12_kind_5 : decode cX12_kind 5 = .ok (.iload_n 1, 1) := by decide +kernel
theorem dX12_kind_6 : decode cX12_kind 6 = .ok (.invokestatic 144, 3) := by decide +kernel
theorem dX12_kind_9 : decode cX12_kind 9 = .ok (.ifCond .eq 34, 3) := by decide +kernel
theorem dX12_kind_12 : decode cX12_kind 12 = .ok (.iload_n 2, 1) := by decide +kernel
theorem dX12_kind_13 : decode cX12_kind 13 = .ok (.bipush (-9), 2) := by decide +kernel
theorem dX12_kind_15 : decode cX12_kind 15 = .ok (.bipush 9, 2) := by decide +kernel
theorem dX12_kind_17 : decode cX12_kind 17 = .ok (.invokestatic 133, 3) := by decide +kernel
theorem dX12_kind_20 : decode cX12_kind 20 = .ok (.ifCond .eq 23, 3) := by decide +kernel
theorem dX12_kind_23 : decode cX12_kind 23 = .ok (.iload_n 3, 1) := by decide +kernel
theorem dX12_kind_24 : decode cX12_kind 24 = .ok (.iconst 0, 1) := by decide +kernel
theorem dX12_kind_25 : decode cX12_kind 25 = .ok (.iconst 4, 1) := by decide +kernel
theorem dX12_kind_26 : decode cX12_kind 26 = .ok (.invokestatic 133, 3) := by decide +kernel
theorem dX12_kind_29 : decode cX12_kind 29 = .ok (.ifCond .eq 14, 3) := by decide +kernel
theorem dX12_kind_32 : decode cX12_kind 32 = .ok (.iload 4, 2) := by decide +kernel
theorem dX12_kind_34 : decode cX12_kind 34 = .ok (.iconst 0, 1) := by decide +kernel
theorem dX12_kind_35 : decode cX12_kind 35 = .ok (.bipush 99, 2) := by decide +kernel
theorem dX12_kind_37 : decode cX12_kind 37 = .ok (.invokestatic 133, 3) := by decide +kernel
theorem dX12_kind_40 : decode cX12_kind 40 = .ok (.ifCond .ne 5, 3) := by decide +kernel
theorem dX12_kind_43 : decode cX12_kind 43 = .ok (.iconst 0, 1) := by decide +kernel
theorem dX12_kind_44 : decode cX12_kind 44 = .ok (.ireturn, 1) := by decide +kernel
theorem dX12_kind_45 : decode cX12_kind 45 = .ok (.aload_n 0, 1) := by decide +kernel
theorem dX12_kind_46 : decode cX12_kind 46 = .ok (.getfield 17, 3) := by decide +kernel
theorem dX12_kind_49 : decode cX12_kind 49 = .ok (.iload_n 1, 1) := by decide +kernel
theorem dX12_kind_50 : decode cX12_kind 50 = .ok (.iload_n 2, 1) := by decide +kernel
theorem dX12_kind_51 : decode cX12_kind 51 = .ok (.iastore, 1) := by decide +kernel
theorem dX12_kind_52 : decode cX12_kind 52 = .ok (.aload_n 0, 1) := by decide +kernel
theorem dX12_kind_53 : decode cX12_kind 53 = .ok (.getfield 20, 3) := by decide +kernel
theorem dX12_kind_56 : decode cX12_kind 56 = .ok (.iload_n 1, 1) := by decide +kernel
theorem dX12_kind_57 : decode cX12_kind 57 = .ok (.iload_n 3, 1) := by decide +kernel
theorem dX12_kind_58 : decode cX12_kind 58 = .ok (.iastore, 1) := by decide +kernel
theorem dX12_kind_59 : decode cX12_kind 59 = .ok (.aload_n 0, 1) := by decide +kernel
theorem dX12_kind_60 : decode cX12_kind 60 = .ok (.getfield 23, 3) := by decide +kernel
theorem dX12_kind_63 : decode cX12_kind 63 = .ok (.iload_n 1, 1) := by decide +kernel
theorem dX12_kind_64 : decode cX12_kind 64 = .ok (.iload 4, 2) := by decide +kernel
theorem dX12_kind_66 : decode cX12_kind 66 = .ok (.iastore, 1) := by decide +kernel
theorem dX12_kind_67 : decode cX12_kind 67 = .ok (.aload_n 0, 1) := by decide +kernel
theorem dX12_kind_68 : decode cX12_kind 68 = .ok (.iconst 0, 1) := by decide +kernel
theorem dX12_kind_69 : decode cX12_kind 69 = .ok (.putfield 140, 3) := by decide +kernel
theorem dX12_kind_72 : decode cX12_kind 72 = .ok (.iconst 1, 1) := by decide +kernel
theorem dX12_kind_73 : decode cX12_kind 73 = .ok (.ireturn, 1) := by decide +kernel
theorem dX12_cost_0 : decode cX12_cost 0 = .ok (.aload_n 0, 1) := by decide +kernel
theorem dX12_cost_1 : decode cX12_cost 1 = .ok (.iconst 0, 1) := by decide +kernel
theorem dX12_cost_2 : decode cX12_cost 2 = .ok (.putfield 127, 3) := by decide +kernel
theorem dX12_cost_5 : decode cX12_cost 5 = .ok (.iload_n 1, 1) := by decide +kernel
theorem dX12_cost_6 : decode cX12_cost 6 = .ok (.iconst 0, 1) := by decide +kernel
theorem dX12_cost_7 : decode cX12_cost 7 = .ok (.bipush 99, 2) := by decide +kernel
theorem dX12_cost_9 : decode cX12_cost 9 = .ok (.invokestatic 133, 3) := by decide +kernel
theorem dX12_cost_12 : decode cX12_cost 12 = .ok (.ifCond .eq 13, 3) := by decide +kernel
theorem dX12_cost_15 : decode cX12_cost 15 = .ok (.iload_n 2, 1) := by decide +kernel
theorem dX12_cost_16 : decode cX12_cost 16 = .ok (.iconst 0, 1) := by decide +kernel
theorem dX12_cost_17 : decode cX12_cost 17 = .ok (.bipush 9, 2) := by decide +kernel
theorem dX12_cost_19 : decode cX12_cost 19 = .ok (.invokestatic 133, 3) := by decide +kernel
theorem dX12_cost_22 : decode cX12_cost 22 = .ok (.ifCond .ne 5, 3) := by decide +kernel
theorem dX12_cost_25 : decode cX12_cost 25 = .ok (.iconst 0, 1) := by decide +kernel
theorem dX12_cost_26 : decode cX12_cost 26 = .ok (.ireturn, 1) := by decide +kernel
theorem dX12_cost_27 : decode cX12_cost 27 = .ok (.aload_n 0, 1) := by decide +kernel
theorem dX12_cost_28 : decode cX12_cost 28 = .ok (.iload_n 1, 1) := by decide +kernel
theorem dX12_cost_29 : decode cX12_cost 29 = .ok (.putfield 29, 3) := by decide +kernel
theorem dX12_cost_32 : decode cX12_cost 32 = .ok (.aload_n 0, 1) := by decide +kernel
theorem dX12_cost_33 : decode cX12_cost 33 = .ok (.iload_n 2, 1) := by decide +kernel
theorem dX12_cost_34 : decode cX12_cost 34 = .ok (.putfield 148, 3) := by decide +kernel
theorem dX12_cost_37 : decode cX12_cost 37 = .ok (.iconst 1, 1) := by decide +kernel
theorem dX12_cost_38 : decode cX12_cost 38 = .ok (.ireturn, 1) := by decide +kernel
theorem dX12_weight_0 : decode cX12_weight 0 = .ok (.aload_n 0, 1) := by decide +kernel
theorem dX12_weight_1 : decode cX12_weight 1 = .ok (.iconst 0, 1) := by decide +kernel
theorem dX12_weight_2 : decode cX12_weight 2 = .ok (.putfield 127, 3) := by decide +kernel
theorem dX12_weight_5 : decode cX12_weight 5 = .ok (.aload_n 0, 1) := by decide +kernel
theorem dX12_weight_6 : decode cX12_weight 6 = .ok (.iload_n 1, 1) := by decide +kernel
theorem dX12_weight_7 : decode cX12_weight 7 = .ok (.invokevirtual 151, 3) := by decide +kernel
theorem dX12_weight_10 : decode cX12_weight 10 = .ok (.ifCond .eq 13, 3) := by decide +kernel
theorem dX12_weight_13 : decode cX12_weight 13 = .ok (.iload_n 2, 1) := by decide +kernel
theorem dX12_weight_14 : decode cX12_weight 14 = .ok (.iconst 0, 1) := by decide +kernel
theorem dX12_weight_15 : decode cX12_weight 15 = .ok (.bipush 99, 2) := by decide +kernel
theorem dX12_weight_17 : decode cX12_weight 17 = .ok (.invokestatic 133, 3) := by decide +kernel
theorem dX12_weight_20 : decode cX12_weight 20 = .ok (.ifCond .ne 5, 3) := by decide +kernel
theorem dX12_weight_23 : decode cX12_weight 23 = .ok (.iconst 0, 1) := by decide +kernel
theorem dX12_weight_24 : decode cX12_weight 24 = .ok (.ireturn, 1) := by decide +kernel
theorem dX12_weight_25 : decode cX12_weight 25 = .ok (.aload_n 0, 1) := by decide +kernel
theorem dX12_weight_26 : decode cX12_weight 26 = .ok (.getfield 26, 3) := by decide +kernel
theorem dX12_weight_29 : decode cX12_weight 29 = .ok (.iload_n 1, 1) := by decide +kernel
theorem dX12_weight_30 : decode cX12_weight 30 = .ok (.iload_n 2, 1) := by decide +kernel
theorem dX12_weight_31 : decode cX12_weight 31 = .ok (.iastore, 1) := by decide +kernel
theorem dX12_weight_32 : decode cX12_weight 32 = .ok (.iconst 1, 1) := by decide +kernel
theorem dX12_weight_33 : decode cX12_weight 33 = .ok (.ireturn, 1) := by decide +kernel
theorem dX12_fails_0 : decode cX12_fails 0 = .ok (.aload_n 0, 1) := by decide +kernel
theorem dX12_fails_1 : decode cX12_fails 1 = .ok (.iload_n 1, 1) := by decide +kernel
theorem dX12_fails_2 : decode cX12_fails 2 = .ok (.putfield 127, 3) := by decide +kernel
theorem dX12_fails_5 : decode cX12_fails 5 = .ok (.iconst 0, 1) := by decide +kernel
theorem dX12_fails_6 : decode cX12_fails 6 = .ok (.ireturn, 1) := by decide +kernel
theorem dX12_look_0 : decode cX12_look 0 = .ok (.aload_n 0, 1) := by decide +kernel
theorem dX12_look_1 : decode cX12_look 1 = .ok (.iconst 0, 1) := by decide +kernel
theorem dX12_look_2 : decode cX12_look 2 = .ok (.putfield 127, 3) := by decide +kernel
theorem dX12_look_5 : decode cX12_look 5 = .ok (.iload_n 1, 1) := by decide +kernel
theorem dX12_look_6 : decode cX12_look 6 = .ok (.invokestatic 144, 3) := by decide +kernel
theorem dX12_look_9 : decode cX12_look 9 = .ok (.ifCond .ne 9, 3) := by decide +kernel
theorem dX12_look_12 : decode cX12_look 12 = .ok (.aload_n 0, 1) := by decide +kernel
theorem dX12_look_13 : decode cX12_look 13 = .ok (.iconst 1, 1) := by decide +kernel
theorem dX12_look_14 : decode cX12_look 14 = .ok (.invokevirtual 154, 3) := by decide +kernel
theorem dX12_look_17 : decode cX12_look 17 = .ok (.ireturn, 1) := by decide +kernel
theorem dX12_look_18 : decode cX12_look 18 = .ok (.iload_n 2, 1) := by decide +kernel
theorem dX12_look_19 : decode cX12_look 19 = .ok (.tableswitch 46 0 2 #[25, 32, 39], 25) := by decide +kernel
theorem dX12_look_44 : decode cX12_look 44 = .ok (.aload_n 0, 1) := by decide +kernel
theorem dX12_look_45 : decode cX12_look 45 = .ok (.getfield 17, 3) := by decide +kernel
theorem dX12_look_48 : decode cX12_look 48 = .ok (.iload_n 1, 1) := by decide +kernel
theorem dX12_look_49 : decode cX12_look 49 = .ok (.iaload, 1) := by decide +kernel
theorem dX12_look_50 : decode cX12_look 50 = .ok (.ireturn, 1) := by decide +kernel
theorem dX12_look_51 : decode cX12_look 51 = .ok (.aload_n 0, 1) := by decide +kernel
theorem dX12_look_52 : decode cX12_look 52 = .ok (.getfield 20, 3) := by decide +kernel
theorem dX12_look_55 : decode cX12_look 55 = .ok (.iload_n 1, 1) := by decide +kernel
theorem dX12_look_56 : decode cX12_look 56 = .ok (.iaload, 1) := by decide +kernel
theorem dX12_look_57 : decode cX12_look 57 = .ok (.ireturn, 1) := by decide +kernel
theorem dX12_look_58 : decode cX12_look 58 = .ok (.aload_n 0, 1) := by decide +kernel
theorem dX12_look_59 : decode cX12_look 59 = .ok (.getfield 23, 3) := by decide +kernel
theorem dX12_look_62 : decode cX12_look 62 = .ok (.iload_n 1, 1) := by decide +kernel
theorem dX12_look_63 : decode cX12_look 63 = .ok (.iaload, 1) := by decide +kernel
theorem dX12_look_64 : decode cX12_look 64 = .ok (.ireturn, 1) := by decide +kernel
theorem dX12_look_65 : decode cX12_look 65 = .ok (.aload_n 0, 1) := by decide +kernel
theorem dX12_look_66 : decode cX12_look 66 = .ok (.iconst 2, 1) := by decide +kernel
theorem dX12_look_67 : decode cX12_look 67 = .ok (.invokevirtual 154, 3) := by decide +kernel
theorem dX12_look_70 : decode cX12_look 70 = .ok (.ireturn, 1) := by decide +kernel
theorem dX12_likely_0 : decode cX12_likely 0 = .ok (.aload_n 0, 1) := by decide +kernel
theorem dX12_likely_1 : decode cX12_likely 1 = .ok (.iconst 0, 1) := by decide +kernel
theorem dX12_likely_2 : decode cX12_likely 2 = .ok (.putfield 127, 3) := by decide +kernel
theorem dX12_likely_5 : decode cX12_likely 5 = .ok (.aload_n 0, 1) := by decide +kernel
theorem dX12_likely_6 : decode cX12_likely 6 = .ok (.iload_n 1, 1) := by decide +kernel
theorem dX12_likely_7 : decode cX12_likely 7 = .ok (.invokevirtual 151, 3) := by decide +kernel
theorem dX12_likely_10 : decode cX12_likely 10 = .ok (.ifCond .eq 12, 3) := by decide +kernel
theorem dX12_likely_13 : decode cX12_likely 13 = .ok (.aload_n 0, 1) := by decide +kernel
theorem dX12_likely_14 : decode cX12_likely 14 = .ok (.getfield 26, 3) := by decide +kernel
theorem dX12_likely_17 : decode cX12_likely 17 = .ok (.iload_n 1, 1) := by decide +kernel
theorem dX12_likely_18 : decode cX12_likely 18 = .ok (.iaload, 1) := by decide +kernel
theorem dX12_likely_19 : decode cX12_likely 19 = .ok (.goto 4, 3) := by decide +kernel
theorem dX12_likely_22 : decode cX12_likely 22 = .ok (.iconst (-1), 1) := by decide +kernel
theorem dX12_likely_23 : decode cX12_likely 23 = .ok (.ireturn, 1) := by decide +kernel
theorem dX12_weightsOf_0 : decode cX12_weightsOf 0 = .ok (.iconst 0, 1) := by decide +kernel
theorem dX12_weightsOf_1 : decode cX12_weightsOf 1 = .ok (.istore_n 3, 1) := by decide +kernel
theorem dX12_weightsOf_2 : decode cX12_weightsOf 2 = .ok (.iload_n 1, 1) := by decide +kernel
theorem dX12_weightsOf_3 : decode cX12_weightsOf 3 = .ok (.istore 4, 2) := by decide +kernel
theorem dX12_weightsOf_5 : decode cX12_weightsOf 5 = .ok (.iload 4, 2) := by decide +kernel
theorem dX12_weightsOf_7 : decode cX12_weightsOf 7 = .ok (.iload_n 2, 1) := by decide +kernel
theorem dX12_weightsOf_8 : decode cX12_weightsOf 8 = .ok (.if_icmp .gt 19, 3) := by decide +kernel
theorem dX12_weightsOf_11 : decode cX12_weightsOf 11 = .ok (.iload_n 3, 1) := by decide +kernel
theorem dX12_weightsOf_12 : decode cX12_weightsOf 12 = .ok (.aload_n 0, 1) := by decide +kernel
theorem dX12_weightsOf_13 : decode cX12_weightsOf 13 = .ok (.getfield 26, 3) := by decide +kernel
theorem dX12_weightsOf_16 : decode cX12_weightsOf 16 = .ok (.iload 4, 2) := by decide +kernel
theorem dX12_weightsOf_18 : decode cX12_weightsOf 18 = .ok (.iaload, 1) := by decide +kernel
theorem dX12_weightsOf_19 : decode cX12_weightsOf 19 = .ok (.iadd, 1) := by decide +kernel
theorem dX12_weightsOf_20 : decode cX12_weightsOf 20 = .ok (.istore_n 3, 1) := by decide +kernel
theorem dX12_weightsOf_21 : decode cX12_weightsOf 21 = .ok (.iinc 4 1, 3) := by decide +kernel
theorem dX12_weightsOf_24 : decode cX12_weightsOf 24 = .ok (.goto (-19), 3) := by decide +kernel
theorem dX12_weightsOf_27 : decode cX12_weightsOf 27 = .ok (.iload_n 3, 1) := by decide +kernel
theorem dX12_weightsOf_28 : decode cX12_weightsOf 28 = .ok (.ireturn, 1) := by decide +kernel
theorem dX12_wrong_0 : decode cX12_wrong 0 = .ok (.aload_n 0, 1) := by decide +kernel
theorem dX12_wrong_1 : decode cX12_wrong 1 = .ok (.iload_n 1, 1) := by decide +kernel
theorem dX12_wrong_2 : decode cX12_wrong 2 = .ok (.putfield 158, 3) := by decide +kernel
theorem dX12_wrong_5 : decode cX12_wrong 5 = .ok (.aload_n 0, 1) := by decide +kernel
theorem dX12_wrong_6 : decode cX12_wrong 6 = .ok (.aload_n 0, 1) := by decide +kernel
theorem dX12_wrong_7 : decode cX12_wrong 7 = .ok (.getfield 161, 3) := by decide +kernel
theorem dX12_wrong_10 : decode cX12_wrong 10 = .ok (.putfield 35, 3) := by decide +kernel
theorem dX12_wrong_13 : decode cX12_wrong 13 = .ok (.iconst 0, 1) := by decide +kernel
theorem dX12_wrong_14 : decode cX12_wrong 14 = .ok (.ireturn, 1) := by decide +kernel
theorem dX12_wordAt_0 : decode cX12_wordAt 0 = .ok (.iconst 0, 1) := by decide +kernel
theorem dX12_wordAt_1 : decode cX12_wordAt 1 = .ok (.istore_n 3, 1) := by decide +kernel
theorem dX12_wordAt_2 : decode cX12_wordAt 2 = .ok (.iconst 0, 1) := by decide +kernel
theorem dX12_wordAt_3 : decode cX12_wordAt 3 = .ok (.istore 4, 2) := by decide +kernel
theorem dX12_wordAt_5 : decode cX12_wordAt 5 = .ok (.iload 4, 2) := by decide +kernel
theorem dX12_wordAt_7 : decode cX12_wordAt 7 = .ok (.aload_n 0, 1) := by decide +kernel
theorem dX12_wordAt_8 : decode cX12_wordAt 8 = .ok (.getfield 32, 3) := by decide +kernel
theorem dX12_wordAt_11 : decode cX12_wordAt 11 = .ok (.arraylength, 1) := by decide +kernel
theorem dX12_wordAt_12 : decode cX12_wordAt 12 = .ok (.if_icmp .ge 114, 3) := by decide +kernel
theorem dX12_wordAt_15 : decode cX12_wordAt 15 = .ok (.iconst 0, 1) := by decide +kernel
theorem dX12_wordAt_16 : decode cX12_wordAt 16 = .ok (.istore 5, 2) := by decide +kernel
theorem dX12_wordAt_18 : decode cX12_wordAt 18 = .ok (.aload_n 0, 1) := by decide +kernel
theorem dX12_wordAt_19 : decode cX12_wordAt 19 = .ok (.getfield 32, 3) := by decide +kernel
theorem dX12_wordAt_22 : decode cX12_wordAt 22 = .ok (.iload 4, 2) := by decide +kernel
theorem dX12_wordAt_24 : decode cX12_wordAt 24 = .ok (.iload 5, 2) := by decide +kernel
theorem dX12_wordAt_26 : decode cX12_wordAt 26 = .ok (.iadd, 1) := by decide +kernel
theorem dX12_wordAt_27 : decode cX12_wordAt 27 = .ok (.iaload, 1) := by decide +kernel
theorem dX12_wordAt_28 : decode cX12_wordAt 28 = .ok (.bipush 32, 2) := by decide +kernel
theorem dX12_wordAt_30 : decode cX12_wordAt 30 = .ok (.if_icmp .eq 9, 3) := by decide +kernel
theorem dX12_wordAt_33 : decode cX12_wordAt 33 = .ok (.iinc 5 1, 3) := by decide +kernel
theorem dX12_wordAt_36 : decode cX12_wordAt 36 = .ok (.goto (-18), 3) := by decide +kernel
theorem dX12_wordAt_39 : decode cX12_wordAt 39 = .ok (.iload 5, 2) := by decide +kernel
theorem dX12_wordAt_41 : decode cX12_wordAt 41 = .ok (.iload_n 2, 1) := by decide +kernel
theorem dX12_wordAt_42 : decode cX12_wordAt 42 = .ok (.iload_n 1, 1) := by decide +kernel
theorem dX12_wordAt_43 : decode cX12_wordAt 43 = .ok (.isub, 1) := by decide +kernel
theorem dX12_wordAt_44 : decode cX12_wordAt 44 = .ok (.if_icmp .ne 7, 3) := by decide +kernel
theorem dX12_wordAt_47 : decode cX12_wordAt 47 = .ok (.iconst 1, 1) := by decide +kernel
theorem dX12_wordAt_48 : decode cX12_wordAt 48 = .ok (.goto 4, 3) := by decide +kernel
theorem dX12_wordAt_51 : decode cX12_wordAt 51 = .ok (.iconst 0, 1) := by decide +kernel
theorem dX12_wordAt_52 : decode cX12_wordAt 52 = .ok (.istore 6, 2) := by decide +kernel
theorem dX12_wordAt_54 : decode cX12_wordAt 54 = .ok (.iconst 0, 1) := by decide +kernel
theorem dX12_wordAt_55 : decode cX12_wordAt 55 = .ok (.istore 7, 2) := by decide +kernel
theorem dX12_wordAt_57 : decode cX12_wordAt 57 = .ok (.iload 7, 2) := by decide +kernel
theorem dX12_wordAt_59 : decode cX12_wordAt 59 = .ok (.iload 5, 2) := by decide +kernel
theorem dX12_wordAt_61 : decode cX12_wordAt 61 = .ok (.if_icmp .ge 43, 3) := by decide +kernel
theorem dX12_wordAt_64 : decode cX12_wordAt 64 = .ok (.iload 6, 2) := by decide +kernel
theorem dX12_wordAt_66 : decode cX12_wordAt 66 = .ok (.ifCond .eq 38, 3) := by decide +kernel
theorem dX12_wordAt_69 : decode cX12_wordAt 69 = .ok (.aload_n 0, 1) := by decide +kernel
theorem dX12_wordAt_70 : decode cX12_wordAt 70 = .ok (.getfield 32, 3) := by decide +kernel
theorem dX12_wordAt_73 : decode cX12_wordAt 73 = .ok (.iload 4, 2) := by decide +kernel
theorem dX12_wordAt_75 : decode cX12_wordAt 75 = .ok (.iload 7, 2) := by decide +kernel
theorem dX12_wordAt_77 : decode cX12_wordAt 77 = .ok (.iadd, 1) := by decide +kernel
theorem dX12_wordAt_78 : decode cX12_wordAt 78 = .ok (.iaload, 1) := by decide +kernel
theorem dX12_wordAt_79 : decode cX12_wordAt 79 = .ok (.aload_n 0, 1) := by decide +kernel
theorem dX12_wordAt_80 : decode cX12_wordAt 80 = .ok (.getfield 7, 3) := by decide +kernel
theorem dX12_wordAt_83 : decode cX12_wordAt 83 = .ok (.iload_n 1, 1) := by decide +kernel
theorem dX12_wordAt_84 : decode cX12_wordAt 84 = .ok (.iload 7, 2) := by decide +kernel
theorem dX12_wordAt_86 : decode cX12_wordAt 86 = .ok (.iadd, 1) := by decide +kernel
theorem dX12_wordAt_87 : decode cX12_wordAt 87 = .ok (.iaload, 1) := by decide +kernel
theorem dX12_wordAt_88 : decode cX12_wordAt 88 = .ok (.if_icmp .ne 7, 3) := by decide +kernel
theorem dX12_wordAt_91 : decode cX12_wordAt 91 = .ok (.iconst 1, 1) := by decide +kernel
theorem dX12_wordAt_92 : decode cX12_wordAt 92 = .ok (.goto 4, 3) := by decide +kernel
theorem dX12_wordAt_95 : decode cX12_wordAt 95 = .ok (.iconst 0, 1) := by decide +kernel
theorem dX12_wordAt_96 : decode cX12_wordAt 96 = .ok (.istore 6, 2) := by decide +kernel
theorem dX12_wordAt_98 : decode cX12_wordAt 98 = .ok (.iinc 7 1, 3) := by decide +kernel
theorem dX12_wordAt_101 : decode cX12_wordAt 101 = .ok (.goto (-44), 3) := by decide +kernel
theorem dX12_wordAt_104 : decode cX12_wordAt 104 = .ok (.iload 6, 2) := by decide +kernel
theorem dX12_wordAt_106 : decode cX12_wordAt 106 = .ok (.ifCond .eq 5, 3) := by decide +kernel
theorem dX12_wordAt_109 : decode cX12_wordAt 109 = .ok (.iload_n 3, 1) := by decide +kernel
theorem dX12_wordAt_110 : decode cX12_wordAt 110 = .ok (.ireturn, 1) := by decide +kernel
theorem dX12_wordAt_111 : decode cX12_wordAt 111 = .ok (.iload 4, 2) := by decide +kernel
theorem dX12_wordAt_113 : decode cX12_wordAt 113 = .ok (.iload 5, 2) := by decide +kernel
theorem dX12_wordAt_115 : decode cX12_wordAt 115 = .ok (.iconst 1, 1) := by decide +kernel
theorem dX12_wordAt_116 : decode cX12_wordAt 116 = .ok (.iadd, 1) := by decide +kernel
theorem dX12_wordAt_117 : decode cX12_wordAt 117 = .ok (.iadd, 1) := by decide +kernel
theorem dX12_wordAt_118 : decode cX12_wordAt 118 = .ok (.istore 4, 2) := by decide +kernel
theorem dX12_wordAt_120 : decode cX12_wordAt 120 = .ok (.iinc 3 1, 3) := by decide +kernel
theorem dX12_wordAt_123 : decode cX12_wordAt 123 = .ok (.goto (-118), 3) := by decide +kernel
theorem dX12_wordAt_126 : decode cX12_wordAt 126 = .ok (.iconst (-1), 1) := by decide +kernel
theorem dX12_wordAt_127 : decode cX12_wordAt 127 = .ok (.ireturn, 1) := by decide +kernel
theorem dX12_isSmall_0 : decode cX12_isSmall 0 = .ok (.iload_n 1, 1) := by decide +kernel
theorem dX12_isSmall_1 : decode cX12_isSmall 1 = .ok (.aload_n 0, 1) := by decide +kernel
theorem dX12_isSmall_2 : decode cX12_isSmall 2 = .ok (.getfield 164, 3) := by decide +kernel
theorem dX12_isSmall_5 : decode cX12_isSmall 5 = .ok (.if_icmp .ge 29, 3) := by decide +kernel
theorem dX12_isSmall_8 : decode cX12_isSmall 8 = .ok (.aload_n 0, 1) := by decide +kernel
theorem dX12_isSmall_9 : decode cX12_isSmall 9 = .ok (.getfield 7, 3) := by decide +kernel
theorem dX12_isSmall_12 : decode cX12_isSmall 12 = .ok (.iload_n 1, 1) := by decide +kernel
theorem dX12_isSmall_13 : decode cX12_isSmall 13 = .ok (.iaload, 1) := by decide +kernel
theorem dX12_isSmall_14 : decode cX12_isSmall 14 = .ok (.bipush 97, 2) := by decide +kernel
theorem dX12_isSmall_16 : decode cX12_isSmall 16 = .ok (.if_icmp .lt 18, 3) := by decide +kernel
theorem dX12_isSmall_19 : decode cX12_isSmall 19 = .ok (.aload_n 0, 1) := by decide +kernel
theorem dX12_isSmall_20 : decode cX12_isSmall 20 = .ok (.getfield 7, 3) := by decide +kernel
theorem dX12_isSmall_23 : decode cX12_isSmall 23 = .ok (.iload_n 1, 1) := by decide +kernel
theorem dX12_isSmall_24 : decode cX12_isSmall 24 = .ok (.iaload, 1) := by decide +kernel
theorem dX12_isSmall_25 : decode cX12_isSmall 25 = .ok (.bipush 122, 2) := by decide +kernel
theorem dX12_isSmall_27 : decode cX12_isSmall 27 = .ok (.if_icmp .gt 7, 3) := by decide +kernel
theorem dX12_isSmall_30 : decode cX12_isSmall 30 = .ok (.iconst 1, 1) := by decide +kernel
theorem dX12_isSmall_31 : decode cX12_isSmall 31 = .ok (.goto 4, 3) := by decide +kernel
theorem dX12_isSmall_34 : decode cX12_isSmall 34 = .ok (.iconst 0, 1) := by decide +kernel
theorem dX12_isSmall_35 : decode cX12_isSmall 35 = .ok (.ireturn, 1) := by decide +kernel
theorem dX12_isDigit_0 : decode cX12_isDigit 0 = .ok (.iload_n 1, 1) := by decide +kernel
theorem dX12_isDigit_1 : decode cX12_isDigit 1 = .ok (.aload_n 0, 1) := by decide +kernel
theorem dX12_isDigit_2 : decode cX12_isDigit 2 = .ok (.getfield 164, 3) := by decide +kernel
theorem dX12_isDigit_5 : decode cX12_isDigit 5 = .ok (.if_icmp .ge 29, 3) := by decide +kernel
theorem dX12_isDigit_8 : decode cX12_isDigit 8 = .ok (.aload_n 0, 1) := by decide +kernel
theorem dX12_isDigit_9 : decode cX12_isDigit 9 = .ok (.getfield 7, 3) := by decide +kernel
theorem dX12_isDigit_12 : decode cX12_isDigit 12 = .ok (.iload_n 1, 1) := by decide +kernel
theorem dX12_isDigit_13 : decode cX12_isDigit 13 = .ok (.iaload, 1) := by decide +kernel
theorem dX12_isDigit_14 : decode cX12_isDigit 14 = .ok (.bipush 48, 2) := by decide +kernel
theorem dX12_isDigit_16 : decode cX12_isDigit 16 = .ok (.if_icmp .lt 18, 3) := by decide +kernel
theorem dX12_isDigit_19 : decode cX12_isDigit 19 = .ok (.aload_n 0, 1) := by decide +kernel
theorem dX12_isDigit_20 : decode cX12_isDigit 20 = .ok (.getfield 7, 3) := by decide +kernel
theorem dX12_isDigit_23 : decode cX12_isDigit 23 = .ok (.iload_n 1, 1) := by decide +kernel
theorem dX12_isDigit_24 : decode cX12_isDigit 24 = .ok (.iaload, 1) := by decide +kernel
theorem dX12_isDigit_25 : decode cX12_isDigit 25 = .ok (.bipush 57, 2) := by decide +kernel
theorem dX12_isDigit_27 : decode cX12_isDigit 27 = .ok (.if_icmp .gt 7, 3) := by decide +kernel
theorem dX12_isDigit_30 : decode cX12_isDigit 30 = .ok (.iconst 1, 1) := by decide +kernel
theorem dX12_isDigit_31 : decode cX12_isDigit 31 = .ok (.goto 4, 3) := by decide +kernel
theorem dX12_isDigit_34 : decode cX12_isDigit 34 = .ok (.iconst 0, 1) := by decide +kernel
theorem dX12_isDigit_35 : decode cX12_isDigit 35 = .ok (.ireturn, 1) := by decide +kernel
theorem dX12_take_0 : decode cX12_take 0 = .ok (.aload_n 0, 1) := by decide +kernel
theorem dX12_take_1 : decode cX12_take 1 = .ok (.getfield 167, 3) := by decide +kernel
theorem dX12_take_4 : decode cX12_take 4 = .ok (.aload_n 0, 1) := by decide +kernel
theorem dX12_take_5 : decode cX12_take 5 = .ok (.getfield 164, 3) := by decide +kernel
theorem dX12_take_8 : decode cX12_take 8 = .ok (.if_icmp .ge 44, 3) := by decide +kernel
theorem dX12_take_11 : decode cX12_take 11 = .ok (.aload_n 0, 1) := by decide +kernel
theorem dX12_take_12 : decode cX12_take 12 = .ok (.getfield 7, 3) := by decide +kernel
theorem dX12_take_15 : decode cX12_take 15 = .ok (.aload_n 0, 1) := by decide +kernel
theorem dX12_take_16 : decode cX12_take 16 = .ok (.getfield 167, 3) := by decide +kernel
theorem dX12_take_19 : decode cX12_take 19 = .ok (.iaload, 1) := by decide +kernel
theorem dX12_take_20 : decode cX12_take 20 = .ok (.bipush 10, 2) := by decide +kernel
theorem dX12_take_22 : decode cX12_take 22 = .ok (.if_icmp .eq 17, 3) := by decide +kernel
theorem dX12_take_25 : decode cX12_take 25 = .ok (.aload_n 0, 1) := by decide +kernel
theorem dX12_take_26 : decode cX12_take 26 = .ok (.getfield 7, 3) := by decide +kernel
theorem dX12_take_29 : decode cX12_take 29 = .ok (.aload_n 0, 1) := by decide +kernel
theorem dX12_take_30 : decode cX12_take 30 = .ok (.getfield 167, 3) := by decide +kernel
theorem dX12_take_33 : decode cX12_take 33 = .ok (.iaload, 1) := by decide +kernel
theorem dX12_take_34 : decode cX12_take 34 = .ok (.bipush 32, 2) := by decide +kernel
theorem dX12_take_36 : decode cX12_take 36 = .ok (.if_icmp .ne 16, 3) := by decide +kernel
theorem dX12_take_39 : decode cX12_take 39 = .ok (.aload_n 0, 1) := by decide +kernel
theorem dX12_take_40 : decode cX12_take 40 = .ok (.dup, 1) := by decide +kernel
theorem dX12_take_41 : decode cX12_take 41 = .ok (.getfield 167, 3) := by decide +kernel
theorem dX12_take_44 : decode cX12_take 44 = .ok (.iconst 1, 1) := by decide +kernel
theorem dX12_take_45 : decode cX12_take 45 = .ok (.iadd, 1) := by decide +kernel
theorem dX12_take_46 : decode cX12_take 46 = .ok (.putfield 167, 3) := by decide +kernel
theorem dX12_take_49 : decode cX12_take 49 = .ok (.goto (-49), 3) := by decide +kernel
theorem dX12_take_52 : decode cX12_take 52 = .ok (.aload_n 0, 1) := by decide +kernel
theorem dX12_take_53 : decode cX12_take 53 = .ok (.aload_n 0, 1) := by decide +kernel
theorem dX12_take_54 : decode cX12_take 54 = .ok (.getfield 167, 3) := by decide +kernel
theorem dX12_take_57 : decode cX12_take 57 = .ok (.putfield 161, 3) := by decide +kernel
theorem dX12_take_60 : decode cX12_take 60 = .ok (.aload_n 0, 1) := by decide +kernel
theorem dX12_take_61 : decode cX12_take 61 = .ok (.getfield 167, 3) := by decide +kernel
theorem dX12_take_64 : decode cX12_take 64 = .ok (.aload_n 0, 1) := by decide +kernel
theorem dX12_take_65 : decode cX12_take 65 = .ok (.getfield 164, 3) := by decide +kernel
theorem dX12_take_68 : decode cX12_take 68 = .ok (.if_icmp .ne 11, 3) := by decide +kernel
theorem dX12_take_71 : decode cX12_take 71 = .ok (.aload_n 0, 1) := by decide +kernel
theorem dX12_take_72 : decode cX12_take 72 = .ok (.iconst 0, 1) := by decide +kernel
theorem dX12_take_73 : decode cX12_take 73 = .ok (.putfield 170, 3) := by decide +kernel
theorem dX12_take_76 : decode cX12_take 76 = .ok (.goto 163, 3) := by decide +kernel
theorem dX12_take_79 : decode cX12_take 79 = .ok (.aload_n 0, 1) := by decide +kernel
theorem dX12_take_80 : decode cX12_take 80 = .ok (.aload_n 0, 1) := by decide +kernel
theorem dX12_take_81 : decode cX12_take 81 = .ok (.getfield 167, 3) := by decide +kernel
theorem dX12_take_84 : decode cX12_take 84 = .ok (.invokevirtual 173, 3) := by decide +kernel
theorem dX12_take_87 : decode cX12_take 87 = .ok (.ifCond .eq 62, 3) := by decide +kernel
theorem dX12_take_90 : decode cX12_take 90 = .ok (.aload_n 0, 1) := by decide +kernel
theorem dX12_take_91 : decode cX12_take 91 = .ok (.aload_n 0, 1) := by decide +kernel
theorem dX12_take_92 : decode cX12_take 92 = .ok (.getfield 167, 3) := by decide +kernel
theorem dX12_take_95 : decode cX12_take 95 = .ok (.invokevirtual 173, 3) := by decide +kernel
theorem dX12_take_98 : decode cX12_take 98 = .ok (.ifCond .eq 16, 3) := by decide +kernel
theorem dX12_take_101 : decode cX12_take 101 = .ok (.aload_n 0, 1) := by decide +kernel
theorem dX12_take_102 : decode cX12_take 102 = .ok (.dup, 1) := by decide +kernel
theorem dX12_take_103 : decode cX12_take 103 = .ok (.getfield 167, 3) := by decide +kernel
theorem dX12_take_106 : decode cX12_take 106 = .ok (.iconst 1, 1) := by decide +kernel
theorem dX12_take_107 : decode cX12_take 107 = .ok (.iadd, 1) := by decide +kernel
theorem dX12_take_108 : decode cX12_take 108 = .ok (.putfield 167, 3) := by decide +kernel
theorem dX12_take_111 : decode cX12_take 111 = .ok (.goto (-21), 3) := by decide +kernel
theorem dX12_take_114 : decode cX12_take 114 = .ok (.aload_n 0, 1) := by decide +kernel
theorem dX12_take_115 : decode cX12_take 115 = .ok (.aload_n 0, 1) := by decide +kernel
theorem dX12_take_116 : decode cX12_take 116 = .ok (.aload_n 0, 1) := by decide +kernel
theorem dX12_take_117 : decode cX12_take 117 = .ok (.getfield 161, 3) := by decide +kernel
theorem dX12_take_120 : decode cX12_take 120 = .ok (.aload_n 0, 1) := by decide +kernel
theorem dX12_take_121 : decode cX12_take 121 = .ok (.getfield 167, 3) := by decide +kernel
theorem dX12_take_124 : decode cX12_take 124 = .ok (.invokevirtual 176, 3) := by decide +kernel
theorem dX12_take_127 : decode cX12_take 127 = .ok (.putfield 180, 3) := by decide +kernel
theorem dX12_take_130 : decode cX12_take 130 = .ok (.aload_n 0, 1) := by decide +kernel
theorem dX12_take_131 : decode cX12_take 131 = .ok (.aload_n 0, 1) := by decide +kernel
theorem dX12_take_132 : decode cX12_take 132 = .ok (.getfield 180, 3) := by decide +kernel
theorem dX12_take_135 : decode cX12_take 135 = .ok (.ifCond .lt 7, 3) := by decide +kernel
theorem dX12_take_138 : decode cX12_take 138 = .ok (.iconst 1, 1) := by decide +kernel
theorem dX12_take_139 : decode cX12_take 139 = .ok (.goto 4, 3) := by decide +kernel
theorem dX12_take_142 : decode cX12_take 142 = .ok (.iconst 5, 1) := by decide +kernel
theorem dX12_take_143 : decode cX12_take 143 = .ok (.putfield 170, 3) := by decide +kernel
theorem dX12_take_146 : decode cX12_take 146 = .ok (.goto 93, 3) := by decide +kernel
theorem dX12_take_149 : decode cX12_take 149 = .ok (.aload_n 0, 1) := by decide +kernel
theorem dX12_take_150 : decode cX12_take 150 = .ok (.aload_n 0, 1) := by decide +kernel
theorem dX12_take_151 : decode cX12_take 151 = .ok (.getfield 167, 3) := by decide +kernel
theorem dX12_take_154 : decode cX12_take 154 = .ok (.invokevirtual 183, 3) := by decide +kernel
theorem dX12_take_157 : decode cX12_take 157 = .ok (.ifCond .eq 78, 3) := by decide +kernel
theorem dX12_take_160 : decode cX12_take 160 = .ok (.aload_n 0, 1) := by decide +kernel
theorem dX12_take_161 : decode cX12_take 161 = .ok (.iconst 2, 1) := by decide +kernel
theorem dX12_take_162 : decode cX12_take 162 = .ok (.putfield 170, 3) := by decide +kernel
theorem dX12_take_165 : decode cX12_take 165 = .ok (.aload_n 0, 1) := by decide +kernel
theorem dX12_take_166 : decode cX12_take 166 = .ok (.iconst 0, 1) := by decide +kernel
theorem dX12_take_167 : decode cX12_take 167 = .ok (.putfield 180, 3) := by decide +kernel
theorem dX12_take_170 : decode cX12_take 170 = .ok (.aload_n 0, 1) := by decide +kernel
theorem dX12_take_171 : decode cX12_take 171 = .ok (.aload_n 0, 1) := by decide +kernel
theorem dX12_take_172 : decode cX12_take 172 = .ok (.getfield 167, 3) := by decide +kernel
theorem dX12_take_175 : decode cX12_take 175 = .ok (.invokevirtual 183, 3) := by decide +kernel
theorem dX12_take_178 : decode cX12_take 178 = .ok (.ifCond .eq 61, 3) := by decide +kernel
theorem dX12_take_181 : decode cX12_take 181 = .ok (.aload_n 0, 1) := by decide +kernel
theorem dX12_take_182 : decode cX12_take 182 = .ok (.aload_n 0, 1) := by decide +kernel
theorem dX12_take_183 : decode cX12_take 183 = .ok (.getfield 180, 3) := by decide +kernel
theorem dX12_take_186 : decode cX12_take 186 = .ok (.sipush 999, 3) := by decide +kernel
theorem dX12_take_189 : decode cX12_take 189 = .ok (.if_icmp .le 10, 3) := by decide +kernel
theorem dX12_take_192 : decode cX12_take 192 = .ok (.aload_n 0, 1) := by decide +kernel
theorem dX12_take_193 : decode cX12_take 193 = .ok (.getfield 180, 3) := by decide +kernel
theorem dX12_take_196 : decode cX12_take 196 = .ok (.goto 23, 3) := by decide +kernel
theorem dX12_take_199 : decode cX12_take 199 = .ok (.bipush 10, 2) := by decide +kernel
theorem dX12_take_201 : decode cX12_take 201 = .ok (.aload_n 0, 1) := by decide +kernel
theorem dX12_take_202 : decode cX12_take 202 = .ok (.getfield 180, 3) := by decide +kernel
theorem dX12_take_205 : decode cX12_take 205 = .ok (.imul, 1) := by decide +kernel
theorem dX12_take_206 : decode cX12_take 206 = .ok (.aload_n 0, 1) := by decide +kernel
theorem dX12_take_207 : decode cX12_take 207 = .ok (.getfield 7, 3) := by decide +kernel
theorem dX12_take_210 : decode cX12_take 210 = .ok (.aload_n 0, 1) := by decide +kernel
theorem dX12_take_211 : decode cX12_take 211 = .ok (.getfield 167, 3) := by decide +kernel
theorem dX12_take_214 : decode cX12_take 214 = .ok (.iaload, 1) := by decide +kernel
theorem dX12_take_215 : decode cX12_take 215 = .ok (.iadd, 1) := by decide +kernel
theorem dX12_take_216 : decode cX12_take 216 = .ok (.bipush 48, 2) := by decide +kernel
theorem dX12_take_218 : decode cX12_take 218 = .ok (.isub, 1) := by decide +kernel
theorem dX12_take_219 : decode cX12_take 219 = .ok (.putfield 180, 3) := by decide +kernel
theorem dX12_take_222 : decode cX12_take 222 = .ok (.aload_n 0, 1) := by decide +kernel
theorem dX12_take_223 : decode cX12_take 223 = .ok (.dup, 1) := by decide +kernel
theorem dX12_take_224 : decode cX12_take 224 = .ok (.getfield 167, 3) := by decide +kernel
theorem dX12_take_227 : decode cX12_take 227 = .ok (.iconst 1, 1) := by decide +kernel
theorem dX12_take_228 : decode cX12_take 228 = .ok (.iadd, 1) := by decide +kernel
theorem dX12_take_229 : decode cX12_take 229 = .ok (.putfield 167, 3) := by decide +kernel
theorem dX12_take_232 : decode cX12_take 232 = .ok (.goto (-62), 3) := by decide +kernel
theorem dX12_take_235 : decode cX12_take 235 = .ok (.aload_n 0, 1) := by decide +kernel
theorem dX12_take_236 : decode cX12_take 236 = .ok (.invokevirtual 186, 3) := by decide +kernel
theorem dX12_take_239 : decode cX12_take 239 = .ok (.return_, 1) := by decide +kernel
theorem dX12_takeSign_0 : decode cX12_takeSign 0 = .ok (.aload_n 0, 1) := by decide +kernel
theorem dX12_takeSign_1 : decode cX12_takeSign 1 = .ok (.aload_n 0, 1) := by decide +kernel
theorem dX12_takeSign_2 : decode cX12_takeSign 2 = .ok (.getfield 7, 3) := by decide +kernel
theorem dX12_takeSign_5 : decode cX12_takeSign 5 = .ok (.aload_n 0, 1) := by decide +kernel
theorem dX12_takeSign_6 : decode cX12_takeSign 6 = .ok (.getfield 167, 3) := by decide +kernel
theorem dX12_takeSign_9 : decode cX12_takeSign 9 = .ok (.iaload, 1) := by decide +kernel
theorem dX12_takeSign_10 : decode cX12_takeSign 10 = .ok (.putfield 180, 3) := by decide +kernel
theorem dX12_takeSign_13 : decode cX12_takeSign 13 = .ok (.aload_n 0, 1) := by decide +kernel
theorem dX12_takeSign_14 : decode cX12_takeSign 14 = .ok (.dup, 1) := by decide +kernel
theorem dX12_takeSign_15 : decode cX12_takeSign 15 = .ok (.getfield 167, 3) := by decide +kernel
theorem dX12_takeSign_18 : decode cX12_takeSign 18 = .ok (.iconst 1, 1) := by decide +kernel
theorem dX12_takeSign_19 : decode cX12_takeSign 19 = .ok (.iadd, 1) := by decide +kernel
theorem dX12_takeSign_20 : decode cX12_takeSign 20 = .ok (.putfield 167, 3) := by decide +kernel
theorem dX12_takeSign_23 : decode cX12_takeSign 23 = .ok (.aload_n 0, 1) := by decide +kernel
theorem dX12_takeSign_24 : decode cX12_takeSign 24 = .ok (.getfield 180, 3) := by decide +kernel
theorem dX12_takeSign_27 : decode cX12_takeSign 27 = .ok (.bipush 60, 2) := by decide +kernel
theorem dX12_takeSign_29 : decode cX12_takeSign 29 = .ok (.if_icmp .eq 21, 3) := by decide +kernel
theorem dX12_takeSign_32 : decode cX12_takeSign 32 = .ok (.aload_n 0, 1) := by decide +kernel
theorem dX12_takeSign_33 : decode cX12_takeSign 33 = .ok (.getfield 180, 3) := by decide +kernel
theorem dX12_takeSign_36 : decode cX12_takeSign 36 = .ok (.bipush 62, 2) := by decide +kernel
theorem dX12_takeSign_38 : decode cX12_takeSign 38 = .ok (.if_icmp .eq 12, 3) := by decide +kernel
theorem dX12_takeSign_41 : decode cX12_takeSign 41 = .ok (.aload_n 0, 1) := by decide +kernel
theorem dX12_takeSign_42 : decode cX12_takeSign 42 = .ok (.getfield 180, 3) := by decide +kernel
theorem dX12_takeSign_45 : decode cX12_takeSign 45 = .ok (.bipush 61, 2) := by decide +kernel
theorem dX12_takeSign_47 : decode cX12_takeSign 47 = .ok (.if_icmp .ne 151, 3) := by decide +kernel
theorem dX12_takeSign_50 : decode cX12_takeSign 50 = .ok (.aload_n 0, 1) := by decide +kernel
theorem dX12_takeSign_51 : decode cX12_takeSign 51 = .ok (.getfield 167, 3) := by decide +kernel
theorem dX12_takeSign_54 : decode cX12_takeSign 54 = .ok (.aload_n 0, 1) := by decide +kernel
theorem dX12_takeSign_55 : decode cX12_takeSign 55 = .ok (.getfield 164, 3) := by decide +kernel
theorem dX12_takeSign_58 : decode cX12_takeSign 58 = .ok (.if_icmp .ge 15, 3) := by decide +kernel
theorem dX12_takeSign_61 : decode cX12_takeSign 61 = .ok (.aload_n 0, 1) := by decide +kernel
theorem dX12_takeSign_62 : decode cX12_takeSign 62 = .ok (.getfield 7, 3) := by decide +kernel
theorem dX12_takeSign_65 : decode cX12_takeSign 65 = .ok (.aload_n 0, 1) := by decide +kernel
theorem dX12_takeSign_66 : decode cX12_takeSign 66 = .ok (.getfield 167, 3) := by decide +kernel
theorem dX12_takeSign_69 : decode cX12_takeSign 69 = .ok (.iaload, 1) := by decide +kernel
theorem dX12_takeSign_70 : decode cX12_takeSign 70 = .ok (.goto 4, 3) := by decide +kernel
theorem dX12_takeSign_73 : decode cX12_takeSign 73 = .ok (.iconst 0, 1) := by decide +kernel
theorem dX12_takeSign_74 : decode cX12_takeSign 74 = .ok (.istore_n 1, 1) := by decide +kernel
theorem dX12_takeSign_75 : decode cX12_takeSign 75 = .ok (.aload_n 0, 1) := by decide +kernel
theorem dX12_takeSign_76 : decode cX12_takeSign 76 = .ok (.getfield 180, 3) := by decide +kernel
theorem dX12_takeSign_79 : decode cX12_takeSign 79 = .ok (.bipush 61, 2) := by decide +kernel
theorem dX12_takeSign_81 : decode cX12_takeSign 81 = .ok (.if_icmp .eq 13, 3) := by decide +kernel
theorem dX12_takeSign_84 : decode cX12_takeSign 84 = .ok (.iload_n 1, 1) := by decide +kernel
theorem dX12_takeSign_85 : decode cX12_takeSign 85 = .ok (.bipush 61, 2) := by decide +kernel
theorem dX12_takeSign_87 : decode cX12_takeSign 87 = .ok (.if_icmp .ne 7, 3) := by decide +kernel
theorem dX12_takeSign_90 : decode cX12_takeSign 90 = .ok (.iconst 1, 1) := by decide +kernel
theorem dX12_takeSign_91 : decode cX12_takeSign 91 = .ok (.goto 4, 3) := by decide +kernel
theorem dX12_takeSign_94 : decode cX12_takeSign 94 = .ok (.iconst 0, 1) := by decide +kernel
theorem dX12_takeSign_95 : decode cX12_takeSign 95 = .ok (.istore_n 2, 1) := by decide +kernel
theorem dX12_takeSign_96 : decode cX12_takeSign 96 = .ok (.aload_n 0, 1) := by decide +kernel
theorem dX12_takeSign_97 : decode cX12_takeSign 97 = .ok (.getfield 180, 3) := by decide +kernel
theorem dX12_takeSign_100 : decode cX12_takeSign 100 = .ok (.bipush 60, 2) := by decide +kernel
theorem dX12_takeSign_102 : decode cX12_takeSign 102 = .ok (.if_icmp .ne 13, 3) := by decide +kernel
theorem dX12_takeSign_105 : decode cX12_takeSign 105 = .ok (.iload_n 1, 1) := by decide +kernel
theorem dX12_takeSign_106 : decode cX12_takeSign 106 = .ok (.bipush 62, 2) := by decide +kernel
theorem dX12_takeSign_108 : decode cX12_takeSign 108 = .ok (.if_icmp .ne 7, 3) := by decide +kernel
theorem dX12_takeSign_111 : decode cX12_takeSign 111 = .ok (.iconst 1, 1) := by decide +kernel
theorem dX12_takeSign_112 : decode cX12_takeSign 112 = .ok (.goto 4, 3) := by decide +kernel
theorem dX12_takeSign_115 : decode cX12_takeSign 115 = .ok (.iconst 0, 1) := by decide +kernel
theorem dX12_takeSign_116 : decode cX12_takeSign 116 = .ok (.istore_n 3, 1) := by decide +kernel
theorem dX12_takeSign_117 : decode cX12_takeSign 117 = .ok (.iload_n 2, 1) := by decide +kernel
theorem dX12_takeSign_118 : decode cX12_takeSign 118 = .ok (.ifCond .ne 7, 3) := by decide +kernel
theorem dX12_takeSign_121 : decode cX12_takeSign 121 = .ok (.iload_n 3, 1) := by decide +kernel
theorem dX12_takeSign_122 : decode cX12_takeSign 122 = .ok (.ifCond .eq 13, 3) := by decide +kernel
theorem dX12_takeSign_125 : decode cX12_takeSign 125 = .ok (.aload_n 0, 1) := by decide +kernel
theorem dX12_takeSign_126 : decode cX12_takeSign 126 = .ok (.dup, 1) := by decide +kernel
theorem dX12_takeSign_127 : decode cX12_takeSign 127 = .ok (.getfield 167, 3) := by decide +kernel
theorem dX12_takeSign_130 : decode cX12_takeSign 130 = .ok (.iconst 1, 1) := by decide +kernel
theorem dX12_takeSign_131 : decode cX12_takeSign 131 = .ok (.iadd, 1) := by decide +kernel
theorem dX12_takeSign_132 : decode cX12_takeSign 132 = .ok (.putfield 167, 3) := by decide +kernel
theorem dX12_takeSign_135 : decode cX12_takeSign 135 = .ok (.aload_n 0, 1) := by decide +kernel
theorem dX12_takeSign_136 : decode cX12_takeSign 136 = .ok (.iconst 4, 1) := by decide +kernel
theorem dX12_takeSign_137 : decode cX12_takeSign 137 = .ok (.putfield 170, 3) := by decide +kernel
theorem dX12_takeSign_140 : decode cX12_takeSign 140 = .ok (.aload_n 0, 1) := by decide +kernel
theorem dX12_takeSign_141 : decode cX12_takeSign 141 = .ok (.aload_n 0, 1) := by decide +kernel
theorem dX12_takeSign_142 : decode cX12_takeSign 142 = .ok (.getfield 180, 3) := by decide +kernel
theorem dX12_takeSign_145 : decode cX12_takeSign 145 = .ok (.bipush 61, 2) := by decide +kernel
theorem dX12_takeSign_147 : decode cX12_takeSign 147 = .ok (.if_icmp .ne 7, 3) := by decide +kernel
theorem dX12_takeSign_150 : decode cX12_takeSign 150 = .ok (.iconst 2, 1) := by decide +kernel
theorem dX12_takeSign_151 : decode cX12_takeSign 151 = .ok (.goto 41, 3) := by decide +kernel
theorem dX12_takeSign_154 : decode cX12_takeSign 154 = .ok (.aload_n 0, 1) := by decide +kernel
theorem dX12_takeSign_155 : decode cX12_takeSign 155 = .ok (.getfield 180, 3) := by decide +kernel
theorem dX12_takeSign_158 : decode cX12_takeSign 158 = .ok (.bipush 60, 2) := by decide +kernel
theorem dX12_takeSign_160 : decode cX12_takeSign 160 = .ok (.if_icmp .ne 23, 3) := by decide +kernel
theorem dX12_takeSign_163 : decode cX12_takeSign 163 = .ok (.iload_n 2, 1) := by decide +kernel
theorem dX12_takeSign_164 : decode cX12_takeSign 164 = .ok (.ifCond .eq 7, 3) := by decide +kernel
theorem dX12_takeSign_167 : decode cX12_takeSign 167 = .ok (.iconst 1, 1) := by decide +kernel
theorem dX12_takeSign_168 : decode cX12_takeSign 168 = .ok (.goto 24, 3) := by decide +kernel
theorem dX12_takeSign_171 : decode cX12_takeSign 171 = .ok (.iload_n 3, 1) := by decide +kernel
theorem dX12_takeSign_172 : decode cX12_takeSign 172 = .ok (.ifCond .eq 7, 3) := by decide +kernel
theorem dX12_takeSign_175 : decode cX12_takeSign 175 = .ok (.iconst 3, 1) := by decide +kernel
theorem dX12_takeSign_176 : decode cX12_takeSign 176 = .ok (.goto 16, 3) := by decide +kernel
theorem dX12_takeSign_179 : decode cX12_takeSign 179 = .ok (.iconst 0, 1) := by decide +kernel
theorem dX12_takeSign_180 : decode cX12_takeSign 180 = .ok (.goto 12, 3) := by decide +kernel
theorem dX12_takeSign_183 : decode cX12_takeSign 183 = .ok (.iload_n 2, 1) := by decide +kernel
theorem dX12_takeSign_184 : decode cX12_takeSign 184 = .ok (.ifCond .eq 7, 3) := by decide +kernel
theorem dX12_takeSign_187 : decode cX12_takeSign 187 = .ok (.iconst 4, 1) := by decide +kernel
theorem dX12_takeSign_188 : decode cX12_takeSign 188 = .ok (.goto 4, 3) := by decide +kernel
theorem dX12_takeSign_191 : decode cX12_takeSign 191 = .ok (.iconst 5, 1) := by decide +kernel
theorem dX12_takeSign_192 : decode cX12_takeSign 192 = .ok (.putfield 180, 3) := by decide +kernel
theorem dX12_takeSign_195 : decode cX12_takeSign 195 = .ok (.goto 85, 3) := by decide +kernel
theorem dX12_takeSign_198 : decode cX12_takeSign 198 = .ok (.aload_n 0, 1) := by decide +kernel
theorem dX12_takeSign_199 : decode cX12_takeSign 199 = .ok (.getfield 180, 3) := by decide +kernel
theorem dX12_takeSign_202 : decode cX12_takeSign 202 = .ok (.bipush 59, 2) := by decide +kernel
theorem dX12_takeSign_204 : decode cX12_takeSign 204 = .ok (.if_icmp .eq 57, 3) := by decide +kernel
theorem dX12_takeSign_207 : decode cX12_takeSign 207 = .ok (.aload_n 0, 1) := by decide +kernel
theorem dX12_takeSign_208 : decode cX12_takeSign 208 = .ok (.getfield 180, 3) := by decide +kernel
theorem dX12_takeSign_211 : decode cX12_takeSign 211 = .ok (.bipush 40, 2) := by decide +kernel
theorem dX12_takeSign_213 : decode cX12_takeSign 213 = .ok (.if_icmp .eq 48, 3) := by decide +kernel
theorem dX12_takeSign_216 : decode cX12_takeSign 216 = .ok (.aload_n 0, 1) := by decide +kernel
theorem dX12_takeSign_217 : decode cX12_takeSign 217 = .ok (.getfield 180, 3) := by decide +kernel
theorem dX12_takeSign_220 : decode cX12_takeSign 220 = .ok (.bipush 41, 2) := by decide +kernel
theorem dX12_takeSign_222 : decode cX12_takeSign 222 = .ok (.if_icmp .eq 39, 3) := by decide +kernel
theorem dX12_takeSign_225 : decode cX12_takeSign 225 = .ok (.aload_n 0, 1) := by decide +kernel
theorem dX12_takeSign_226 : decode cX12_takeSign 226 = .ok (.getfield 180, 3) := by decide +kernel
theorem dX12_takeSign_229 : decode cX12_takeSign 229 = .ok (.bipush 43, 2) := by decide +kernel
theorem dX12_takeSign_231 : decode cX12_takeSign 231 = .ok (.if_icmp .eq 30, 3) := by decide +kernel
theorem dX12_takeSign_234 : decode cX12_takeSign 234 = .ok (.aload_n 0, 1) := by decide +kernel
theorem dX12_takeSign_235 : decode cX12_takeSign 235 = .ok (.getfield 180, 3) := by decide +kernel
theorem dX12_takeSign_238 : decode cX12_takeSign 238 = .ok (.bipush 45, 2) := by decide +kernel
theorem dX12_takeSign_240 : decode cX12_takeSign 240 = .ok (.if_icmp .eq 21, 3) := by decide +kernel
theorem dX12_takeSign_243 : decode cX12_takeSign 243 = .ok (.aload_n 0, 1) := by decide +kernel
theorem dX12_takeSign_244 : decode cX12_takeSign 244 = .ok (.getfield 180, 3) := by decide +kernel
theorem dX12_takeSign_247 : decode cX12_takeSign 247 = .ok (.bipush 42, 2) := by decide +kernel
theorem dX12_takeSign_249 : decode cX12_takeSign 249 = .ok (.if_icmp .eq 12, 3) := by decide +kernel
theorem dX12_takeSign_252 : decode cX12_takeSign 252 = .ok (.aload_n 0, 1) := by decide +kernel
theorem dX12_takeSign_253 : decode cX12_takeSign 253 = .ok (.getfield 180, 3) := by decide +kernel
theorem dX12_takeSign_256 : decode cX12_takeSign 256 = .ok (.bipush 47, 2) := by decide +kernel
theorem dX12_takeSign_258 : decode cX12_takeSign 258 = .ok (.if_icmp .ne 7, 3) := by decide +kernel
theorem dX12_takeSign_261 : decode cX12_takeSign 261 = .ok (.iconst 1, 1) := by decide +kernel
theorem dX12_takeSign_262 : decode cX12_takeSign 262 = .ok (.goto 4, 3) := by decide +kernel
theorem dX12_takeSign_265 : decode cX12_takeSign 265 = .ok (.iconst 0, 1) := by decide +kernel
theorem dX12_takeSign_266 : decode cX12_takeSign 266 = .ok (.istore_n 1, 1) := by decide +kernel
theorem dX12_takeSign_267 : decode cX12_takeSign 267 = .ok (.aload_n 0, 1) := by decide +kernel
theorem dX12_takeSign_268 : decode cX12_takeSign 268 = .ok (.iload_n 1, 1) := by decide +kernel
theorem dX12_takeSign_269 : decode cX12_takeSign 269 = .ok (.ifCond .eq 7, 3) := by decide +kernel
theorem dX12_takeSign_272 : decode cX12_takeSign 272 = .ok (.iconst 3, 1) := by decide +kernel
theorem dX12_takeSign_273 : decode cX12_takeSign 273 = .ok (.goto 4, 3) := by decide +kernel
theorem dX12_takeSign_276 : decode cX12_takeSign 276 = .ok (.iconst 5, 1) := by decide +kernel
theorem dX12_takeSign_277 : decode cX12_takeSign 277 = .ok (.putfield 170, 3) := by decide +kernel
theorem dX12_takeSign_280 : decode cX12_takeSign 280 = .ok (.return_, 1) := by decide +kernel
theorem dX12_isKey_0 : decode cX12_isKey 0 = .ok (.aload_n 0, 1) := by decide +kernel
theorem dX12_isKey_1 : decode cX12_isKey 1 = .ok (.getfield 170, 3) := by decide +kernel
theorem dX12_isKey_4 : decode cX12_isKey 4 = .ok (.iconst 1, 1) := by decide +kernel
theorem dX12_isKey_5 : decode cX12_isKey 5 = .ok (.if_icmp .ne 15, 3) := by decide +kernel
theorem dX12_isKey_8 : decode cX12_isKey 8 = .ok (.aload_n 0, 1) := by decide +kernel
theorem dX12_isKey_9 : decode cX12_isKey 9 = .ok (.getfield 180, 3) := by decide +kernel
theorem dX12_isKey_12 : decode cX12_isKey 12 = .ok (.iload_n 1, 1) := by decide +kernel
theorem dX12_isKey_13 : decode cX12_isKey 13 = .ok (.if_icmp .ne 7, 3) := by decide +kernel
theorem dX12_isKey_16 : decode cX12_isKey 16 = .ok (.iconst 1, 1) := by decide +kernel
theorem dX12_isKey_17 : decode cX12_isKey 17 = .ok (.goto 4, 3) := by decide +kernel
theorem dX12_isKey_20 : decode cX12_isKey 20 = .ok (.iconst 0, 1) := by decide +kernel
theorem dX12_isKey_21 : decode cX12_isKey 21 = .ok (.ireturn, 1) := by decide +kernel
theorem dX12_isSign_0 : decode cX12_isSign 0 = .ok (.aload_n 0, 1) := by decide +kernel
theorem dX12_isSign_1 : decode cX12_isSign 1 = .ok (.getfield 170, 3) := by decide +kernel
theorem dX12_isSign_4 : decode cX12_isSign 4 = .ok (.iconst 3, 1) := by decide +kernel
theorem dX12_isSign_5 : decode cX12_isSign 5 = .ok (.if_icmp .ne 15, 3) := by decide +kernel
theorem dX12_isSign_8 : decode cX12_isSign 8 = .ok (.aload_n 0, 1) := by decide +kernel
theorem dX12_isSign_9 : decode cX12_isSign 9 = .ok (.getfield 180, 3) := by decide +kernel
theorem dX12_isSign_12 : decode cX12_isSign 12 = .ok (.iload_n 1, 1) := by decide +kernel
theorem dX12_isSign_13 : decode cX12_isSign 13 = .ok (.if_icmp .ne 7, 3) := by decide +kernel
theorem dX12_isSign_16 : decode cX12_isSign 16 = .ok (.iconst 1, 1) := by decide +kernel
theorem dX12_isSign_17 : decode cX12_isSign 17 = .ok (.goto 4, 3) := by decide +kernel
theorem dX12_isSign_20 : decode cX12_isSign 20 = .ok (.iconst 0, 1) := by decide +kernel
theorem dX12_isSign_21 : decode cX12_isSign 21 = .ok (.ireturn, 1) := by decide +kernel
theorem dX12_numberRead_0 : decode cX12_numberRead 0 = .ok (.aload_n 0, 1) := by decide +kernel
theorem dX12_numberRead_1 : decode cX12_numberRead 1 = .ok (.getfield 170, 3) := by decide +kernel
theorem dX12_numberRead_4 : decode cX12_numberRead 4 = .ok (.iconst 2, 1) := by decide +kernel
theorem dX12_numberRead_5 : decode cX12_numberRead 5 = .ok (.if_icmp .eq 9, 3) := by decide +kernel
theorem dX12_numberRead_8 : decode cX12_numberRead 8 = .ok (.aload_n 0, 1) := by decide +kernel
theorem dX12_numberRead_9 : decode cX12_numberRead 9 = .ok (.iconst 1, 1) := by decide +kernel
theorem dX12_numberRead_10 : decode cX12_numberRead 10 = .ok (.invokevirtual 189, 3) := by decide +kernel
theorem dX12_numberRead_13 : decode cX12_numberRead 13 = .ok (.ireturn, 1) := by decide +kernel
theorem dX12_numberRead_14 : decode cX12_numberRead 14 = .ok (.aload_n 0, 1) := by decide +kernel
theorem dX12_numberRead_15 : decode cX12_numberRead 15 = .ok (.getfield 180, 3) := by decide +kernel
theorem dX12_numberRead_18 : decode cX12_numberRead 18 = .ok (.iload_n 1, 1) := by decide +kernel
theorem dX12_numberRead_19 : decode cX12_numberRead 19 = .ok (.if_icmp .lt 11, 3) := by decide +kernel
theorem dX12_numberRead_22 : decode cX12_numberRead 22 = .ok (.aload_n 0, 1) := by decide +kernel
theorem dX12_numberRead_23 : decode cX12_numberRead 23 = .ok (.getfield 180, 3) := by decide +kernel
theorem dX12_numberRead_26 : decode cX12_numberRead 26 = .ok (.iload_n 2, 1) := by decide +kernel
theorem dX12_numberRead_27 : decode cX12_numberRead 27 = .ok (.if_icmp .le 11, 3) := by decide +kernel
theorem dX12_numberRead_30 : decode cX12_numberRead 30 = .ok (.aload_n 0, 1) := by decide +kernel
theorem dX12_numberRead_31 : decode cX12_numberRead 31 = .ok (.iconst 2, 1) := by decide +kernel
theorem dX12_numberRead_32 : decode cX12_numberRead 32 = .ok (.invokevirtual 189, 3) := by decide +kernel
theorem dX12_numberRead_35 : decode cX12_numberRead 35 = .ok (.ifCond .eq 7, 3) := by decide +kernel
theorem dX12_numberRead_38 : decode cX12_numberRead 38 = .ok (.iconst 1, 1) := by decide +kernel
theorem dX12_numberRead_39 : decode cX12_numberRead 39 = .ok (.goto 4, 3) := by decide +kernel
theorem dX12_numberRead_42 : decode cX12_numberRead 42 = .ok (.iconst 0, 1) := by decide +kernel
theorem dX12_numberRead_43 : decode cX12_numberRead 43 = .ok (.ireturn, 1) := by decide +kernel
theorem dX12_rank_0 : decode cX12_rank 0 = .ok (.iload_n 0, 1) := by decide +kernel
theorem dX12_rank_1 : decode cX12_rank 1 = .ok (.bipush 13, 2) := by decide +kernel
theorem dX12_rank_3 : decode cX12_rank 3 = .ok (.if_icmp .lt 8, 3) := by decide +kernel
theorem dX12_rank_6 : decode cX12_rank 6 = .ok (.bipush 6, 2) := by decide +kernel
theorem dX12_rank_8 : decode cX12_rank 8 = .ok (.goto 50, 3) := by decide +kernel
theorem dX12_rank_11 : decode cX12_rank 11 = .ok (.iload_n 0, 1) := by decide +kernel
theorem dX12_rank_12 : decode cX12_rank 12 = .ok (.bipush 11, 2) := by decide +kernel
theorem dX12_rank_14 : decode cX12_rank 14 = .ok (.if_icmp .lt 7, 3) := by decide +kernel
theorem dX12_rank_17 : decode cX12_rank 17 = .ok (.iconst 5, 1) := by decide +kernel
theorem dX12_rank_18 : decode cX12_rank 18 = .ok (.goto 40, 3) := by decide +kernel
theorem dX12_rank_21 : decode cX12_rank 21 = .ok (.iload_n 0, 1) := by decide +kernel
theorem dX12_rank_22 : decode cX12_rank 22 = .ok (.iconst 5, 1) := by decide +kernel
theorem dX12_rank_23 : decode cX12_rank 23 = .ok (.if_icmp .lt 7, 3) := by decide +kernel
theorem dX12_rank_26 : decode cX12_rank 26 = .ok (.iconst 4, 1) := by decide +kernel
theorem dX12_rank_27 : decode cX12_rank 27 = .ok (.goto 31, 3) := by decide +kernel
theorem dX12_rank_30 : decode cX12_rank 30 = .ok (.iload_n 0, 1) := by decide +kernel
theorem dX12_rank_31 : decode cX12_rank 31 = .ok (.iconst 2, 1) := by decide +kernel
theorem dX12_rank_32 : decode cX12_rank 32 = .ok (.if_icmp .ne 7, 3) := by decide +kernel
theorem dX12_rank_35 : decode cX12_rank 35 = .ok (.iconst 3, 1) := by decide +kernel
theorem dX12_rank_36 : decode cX12_rank 36 = .ok (.goto 22, 3) := by decide +kernel
theorem dX12_rank_39 : decode cX12_rank 39 = .ok (.iload_n 0, 1) := by decide +kernel
theorem dX12_rank_40 : decode cX12_rank 40 = .ok (.iconst 3, 1) := by decide +kernel
theorem dX12_rank_41 : decode cX12_rank 41 = .ok (.if_icmp .ne 7, 3) := by decide +kernel
theorem dX12_rank_44 : decode cX12_rank 44 = .ok (.iconst 2, 1) := by decide +kernel
theorem dX12_rank_45 : decode cX12_rank 45 = .ok (.goto 13, 3) := by decide +kernel
theorem dX12_rank_48 : decode cX12_rank 48 = .ok (.iload_n 0, 1) := by decide +kernel
theorem dX12_rank_49 : decode cX12_rank 49 = .ok (.iconst 4, 1) := by decide +kernel
theorem dX12_rank_50 : decode cX12_rank 50 = .ok (.if_icmp .ne 7, 3) := by decide +kernel
theorem dX12_rank_53 : decode cX12_rank 53 = .ok (.iconst 1, 1) := by decide +kernel
theorem dX12_rank_54 : decode cX12_rank 54 = .ok (.goto 4, 3) := by decide +kernel
theorem dX12_rank_57 : decode cX12_rank 57 = .ok (.iconst 0, 1) := by decide +kernel
theorem dX12_rank_58 : decode cX12_rank 58 = .ok (.ireturn, 1) := by decide +kernel
theorem dX12_grown_0 : decode cX12_grown 0 = .ok (.aload_n 0, 1) := by decide +kernel
theorem dX12_grown_1 : decode cX12_grown 1 = .ok (.getfield 38, 3) := by decide +kernel
theorem dX12_grown_4 : decode cX12_grown 4 = .ok (.bipush 64, 2) := by decide +kernel
theorem dX12_grown_6 : decode cX12_grown 6 = .ok (.aload_n 0, 1) := by decide +kernel
theorem dX12_grown_7 : decode cX12_grown 7 = .ok (.getfield 192, 3) := by decide +kernel
theorem dX12_grown_10 : decode cX12_grown 10 = .ok (.iadd, 1) := by decide +kernel
theorem dX12_grown_11 : decode cX12_grown 11 = .ok (.iload_n 1, 1) := by decide +kernel
theorem dX12_grown_12 : decode cX12_grown 12 = .ok (.iastore, 1) := by decide +kernel
theorem dX12_grown_13 : decode cX12_grown 13 = .ok (.aload_n 0, 1) := by decide +kernel
theorem dX12_grown_14 : decode cX12_grown 14 = .ok (.getfield 41, 3) := by decide +kernel
theorem dX12_grown_17 : decode cX12_grown 17 = .ok (.bipush 64, 2) := by decide +kernel
theorem dX12_grown_19 : decode cX12_grown 19 = .ok (.aload_n 0, 1) := by decide +kernel
theorem dX12_grown_20 : decode cX12_grown 20 = .ok (.getfield 192, 3) := by decide +kernel
theorem dX12_grown_23 : decode cX12_grown 23 = .ok (.iadd, 1) := by decide +kernel
theorem dX12_grown_24 : decode cX12_grown 24 = .ok (.iload_n 2, 1) := by decide +kernel
theorem dX12_grown_25 : decode cX12_grown 25 = .ok (.iastore, 1) := by decide +kernel
theorem dX12_grown_26 : decode cX12_grown 26 = .ok (.aload_n 0, 1) := by decide +kernel
theorem dX12_grown_27 : decode cX12_grown 27 = .ok (.getfield 44, 3) := by decide +kernel
theorem dX12_grown_30 : decode cX12_grown 30 = .ok (.bipush 64, 2) := by decide +kernel
theorem dX12_grown_32 : decode cX12_grown 32 = .ok (.aload_n 0, 1) := by decide +kernel
theorem dX12_grown_33 : decode cX12_grown 33 = .ok (.getfield 192, 3) := by decide +kernel
theorem dX12_grown_36 : decode cX12_grown 36 = .ok (.iadd, 1) := by decide +kernel
theorem dX12_grown_37 : decode cX12_grown 37 = .ok (.iload_n 3, 1) := by decide +kernel
theorem dX12_grown_38 : decode cX12_grown 38 = .ok (.iastore, 1) := by decide +kernel
theorem dX12_grown_39 : decode cX12_grown 39 = .ok (.aload_n 0, 1) := by decide +kernel
theorem dX12_grown_40 : decode cX12_grown 40 = .ok (.getfield 65, 3) := by decide +kernel
theorem dX12_grown_43 : decode cX12_grown 43 = .ok (.aload_n 0, 1) := by decide +kernel
theorem dX12_grown_44 : decode cX12_grown 44 = .ok (.getfield 195, 3) := by decide +kernel
theorem dX12_grown_47 : decode cX12_grown 47 = .ok (.aload_n 0, 1) := by decide +kernel
theorem dX12_grown_48 : decode cX12_grown 48 = .ok (.getfield 192, 3) := by decide +kernel
theorem dX12_grown_51 : decode cX12_grown 51 = .ok (.iastore, 1) := by decide +kernel
theorem dX12_grown_52 : decode cX12_grown 52 = .ok (.aload_n 0, 1) := by decide +kernel
theorem dX12_grown_53 : decode cX12_grown 53 = .ok (.dup, 1) := by decide +kernel
theorem dX12_grown_54 : decode cX12_grown 54 = .ok (.getfield 195, 3) := by decide +kernel
theorem dX12_grown_57 : decode cX12_grown 57 = .ok (.iconst 1, 1) := by decide +kernel
theorem dX12_grown_58 : decode cX12_grown 58 = .ok (.iadd, 1) := by decide +kernel
theorem dX12_grown_59 : decode cX12_grown 59 = .ok (.putfield 195, 3) := by decide +kernel
theorem dX12_grown_62 : decode cX12_grown 62 = .ok (.aload_n 0, 1) := by decide +kernel
theorem dX12_grown_63 : decode cX12_grown 63 = .ok (.dup, 1) := by decide +kernel
theorem dX12_grown_64 : decode cX12_grown 64 = .ok (.getfield 192, 3) := by decide +kernel
theorem dX12_grown_67 : decode cX12_grown 67 = .ok (.iconst 1, 1) := by decide +kernel
theorem dX12_grown_68 : decode cX12_grown 68 = .ok (.iadd, 1) := by decide +kernel
theorem dX12_grown_69 : decode cX12_grown 69 = .ok (.putfield 192, 3) := by decide +kernel
theorem dX12_grown_72 : decode cX12_grown 72 = .ok (.return_, 1) := by decide +kernel
theorem dX12_dropHeld_0 : decode cX12_dropHeld 0 = .ok (.aload_n 0, 1) := by decide +kernel
theorem dX12_dropHeld_1 : decode cX12_dropHeld 1 = .ok (.dup, 1) := by decide +kernel
theorem dX12_dropHeld_2 : decode cX12_dropHeld 2 = .ok (.getfield 195, 3) := by decide +kernel
theorem dX12_dropHeld_5 : decode cX12_dropHeld 5 = .ok (.iconst 1, 1) := by decide +kernel
theorem dX12_dropHeld_6 : decode cX12_dropHeld 6 = .ok (.isub, 1) := by decide +kernel
theorem dX12_dropHeld_7 : decode cX12_dropHeld 7 = .ok (.putfield 195, 3) := by decide +kernel
theorem dX12_dropHeld_10 : decode cX12_dropHeld 10 = .ok (.aload_n 0, 1) := by decide +kernel
theorem dX12_dropHeld_11 : decode cX12_dropHeld 11 = .ok (.getfield 65, 3) := by decide +kernel
theorem dX12_dropHeld_14 : decode cX12_dropHeld 14 = .ok (.aload_n 0, 1) := by decide +kernel
theorem dX12_dropHeld_15 : decode cX12_dropHeld 15 = .ok (.getfield 195, 3) := by decide +kernel
theorem dX12_dropHeld_18 : decode cX12_dropHeld 18 = .ok (.iaload, 1) := by decide +kernel
theorem dX12_dropHeld_19 : decode cX12_dropHeld 19 = .ok (.ireturn, 1) := by decide +kernel
theorem dX12_bind_0 : decode cX12_bind 0 = .ok (.aload_n 0, 1) := by decide +kernel
theorem dX12_bind_1 : decode cX12_bind 1 = .ok (.getfield 198, 3) := by decide +kernel
theorem dX12_bind_4 : decode cX12_bind 4 = .ok (.ifCond .le 72, 3) := by decide +kernel
theorem dX12_bind_7 : decode cX12_bind 7 = .ok (.aload_n 0, 1) := by decide +kernel
theorem dX12_bind_8 : decode cX12_bind 8 = .ok (.getfield 62, 3) := by decide +kernel
theorem dX12_bind_11 : decode cX12_bind 11 = .ok (.aload_n 0, 1) := by decide +kernel
theorem dX12_bind_12 : decode cX12_bind 12 = .ok (.getfield 198, 3) := by decide +kernel
theorem dX12_bind_15 : decode cX12_bind 15 = .ok (.iconst 1, 1) := by decide +kernel
theorem dX12_bind_16 : decode cX12_bind 16 = .ok (.isub, 1) := by decide +kernel
theorem dX12_bind_17 : decode cX12_bind 17 = .ok (.iaload, 1) := by decide +kernel
theorem dX12_bind_18 : decode cX12_bind 18 = .ok (.invokestatic 201, 3) := by decide +kernel
theorem dX12_bind_21 : decode cX12_bind 21 = .ok (.iload_n 1, 1) := by decide +kernel
theorem dX12_bind_22 : decode cX12_bind 22 = .ok (.if_icmp .lt 54, 3) := by decide +kernel
theorem dX12_bind_25 : decode cX12_bind 25 = .ok (.aload_n 0, 1) := by decide +kernel
theorem dX12_bind_26 : decode cX12_bind 26 = .ok (.dup, 1) := by decide +kernel
theorem dX12_bind_27 : decode cX12_bind 27 = .ok (.getfield 198, 3) := by decide +kernel
theorem dX12_bind_30 : decode cX12_bind 30 = .ok (.iconst 1, 1) := by decide +kernel
theorem dX12_bind_31 : decode cX12_bind 31 = .ok (.isub, 1) := by decide +kernel
theorem dX12_bind_32 : decode cX12_bind 32 = .ok (.putfield 198, 3) := by decide +kernel
theorem dX12_bind_35 : decode cX12_bind 35 = .ok (.aload_n 0, 1) := by decide +kernel
theorem dX12_bind_36 : decode cX12_bind 36 = .ok (.getfield 62, 3) := by decide +kernel
theorem dX12_bind_39 : decode cX12_bind 39 = .ok (.aload_n 0, 1) := by decide +kernel
theorem dX12_bind_40 : decode cX12_bind 40 = .ok (.getfield 198, 3) := by decide +kernel
theorem dX12_bind_43 : decode cX12_bind 43 = .ok (.iaload, 1) := by decide +kernel
theorem dX12_bind_44 : decode cX12_bind 44 = .ok (.istore_n 2, 1) := by decide +kernel
theorem dX12_bind_45 : decode cX12_bind 45 = .ok (.iload_n 2, 1) := by decide +kernel
theorem dX12_bind_46 : decode cX12_bind 46 = .ok (.iconst 2, 1) := by decide +kernel
theorem dX12_bind_47 : decode cX12_bind 47 = .ok (.if_icmp .ne 7, 3) := by decide +kernel
theorem dX12_bind_50 : decode cX12_bind 50 = .ok (.iconst (-1), 1) := by decide +kernel
theorem dX12_bind_51 : decode cX12_bind 51 = .ok (.goto 7, 3) := by decide +kernel
theorem dX12_bind_54 : decode cX12_bind 54 = .ok (.aload_n 0, 1) := by decide +kernel
theorem dX12_bind_55 : decode cX12_bind 55 = .ok (.invokevirtual 204, 3) := by decide +kernel
theorem dX12_bind_58 : decode cX12_bind 58 = .ok (.istore_n 3, 1) := by decide +kernel
theorem dX12_bind_59 : decode cX12_bind 59 = .ok (.aload_n 0, 1) := by decide +kernel
theorem dX12_bind_60 : decode cX12_bind 60 = .ok (.invokevirtual 204, 3) := by decide +kernel
theorem dX12_bind_63 : decode cX12_bind 63 = .ok (.istore 4, 2) := by decide +kernel
theorem dX12_bind_65 : decode cX12_bind 65 = .ok (.aload_n 0, 1) := by decide +kernel
theorem dX12_bind_66 : decode cX12_bind 66 = .ok (.iload_n 2, 1) := by decide +kernel
theorem dX12_bind_67 : decode cX12_bind 67 = .ok (.iload 4, 2) := by decide +kernel
theorem dX12_bind_69 : decode cX12_bind 69 = .ok (.iload_n 3, 1) := by decide +kernel
theorem dX12_bind_70 : decode cX12_bind 70 = .ok (.invokevirtual 208, 3) := by decide +kernel
theorem dX12_bind_73 : decode cX12_bind 73 = .ok (.goto (-73), 3) := by decide +kernel
theorem dX12_bind_76 : decode cX12_bind 76 = .ok (.return_, 1) := by decide +kernel
theorem dX12_isCounted_0 : decode cX12_isCounted 0 = .ok (.aload_n 0, 1) := by decide +kernel
theorem dX12_isCounted_1 : decode cX12_isCounted 1 = .ok (.getfield 212, 3) := by decide +kernel
theorem dX12_isCounted_4 : decode cX12_isCounted 4 = .ok (.bipush 64, 2) := by decide +kernel
theorem dX12_isCounted_6 : decode cX12_isCounted 6 = .ok (.if_icmp .ne 9, 3) := by decide +kernel
theorem dX12_isCounted_9 : decode cX12_isCounted 9 = .ok (.aload_n 0, 1) := by decide +kernel
theorem dX12_isCounted_10 : decode cX12_isCounted 10 = .ok (.iconst 2, 1) := by decide +kernel
theorem dX12_isCounted_11 : decode cX12_isCounted 11 = .ok (.invokevirtual 189, 3) := by decide +kernel
theorem dX12_isCounted_14 : decode cX12_isCounted 14 = .ok (.ireturn, 1) := by decide +kernel
theorem dX12_isCounted_15 : decode cX12_isCounted 15 = .ok (.aload_n 0, 1) := by decide +kernel
theorem dX12_isCounted_16 : decode cX12_isCounted 16 = .ok (.dup, 1) := by decide +kernel
theorem dX12_isCounted_17 : decode cX12_isCounted 17 = .ok (.getfield 212, 3) := by decide +kernel
theorem dX12_isCounted_20 : decode cX12_isCounted 20 = .ok (.iconst 1, 1) := by decide +kernel
theorem dX12_isCounted_21 : decode cX12_isCounted 21 = .ok (.iadd, 1) := by decide +kernel
theorem dX12_isCounted_22 : decode cX12_isCounted 22 = .ok (.putfield 212, 3) := by decide +kernel
theorem dX12_isCounted_25 : decode cX12_isCounted 25 = .ok (.iconst 1, 1) := by decide +kernel
theorem dX12_isCounted_26 : decode cX12_isCounted 26 = .ok (.ireturn, 1) := by decide +kernel
theorem dX12_waitsFor_0 : decode cX12_waitsFor 0 = .ok (.aload_n 0, 1) := by decide +kernel
theorem dX12_waitsFor_1 : decode cX12_waitsFor 1 = .ok (.getfield 62, 3) := by decide +kernel
theorem dX12_waitsFor_4 : decode cX12_waitsFor 4 = .ok (.aload_n 0, 1) := by decide +kernel
theorem dX12_waitsFor_5 : decode cX12_waitsFor 5 = .ok (.getfield 198, 3) := by decide +kernel
theorem dX12_waitsFor_8 : decode cX12_waitsFor 8 = .ok (.iload_n 1, 1) := by decide +kernel
theorem dX12_waitsFor_9 : decode cX12_waitsFor 9 = .ok (.iastore, 1) := by decide +kernel
theorem dX12_waitsFor_10 : decode cX12_waitsFor 10 = .ok (.aload_n 0, 1) := by decide +kernel
theorem dX12_waitsFor_11 : decode cX12_waitsFor 11 = .ok (.dup, 1) := by decide +kernel
theorem dX12_waitsFor_12 : decode cX12_waitsFor 12 = .ok (.getfield 198, 3) := by decide +kernel
theorem dX12_waitsFor_15 : decode cX12_waitsFor 15 = .ok (.iconst 1, 1) := by decide +kernel
theorem dX12_waitsFor_16 : decode cX12_waitsFor 16 = .ok (.iadd, 1) := by decide +kernel
theorem dX12_waitsFor_17 : decode cX12_waitsFor 17 = .ok (.putfield 198, 3) := by decide +kernel
theorem dX12_waitsFor_20 : decode cX12_waitsFor 20 = .ok (.return_, 1) := by decide +kernel
theorem dX12_leafRead_0 : decode cX12_leafRead 0 = .ok (.aload_n 0, 1) := by decide +kernel
theorem dX12_leafRead_1 : decode cX12_leafRead 1 = .ok (.bipush 40, 2) := by decide +kernel
theorem dX12_leafRead_3 : decode cX12_leafRead 3 = .ok (.invokevirtual 215, 3) := by decide +kernel
theorem dX12_leafRead_6 : decode cX12_leafRead 6 = .ok (.ifCond .eq 44, 3) := by decide +kernel
theorem dX12_leafRead_9 : decode cX12_leafRead 9 = .ok (.aload_n 0, 1) := by decide +kernel
theorem dX12_leafRead_10 : decode cX12_leafRead 10 = .ok (.getfield 218, 3) := by decide +kernel
theorem dX12_leafRead_13 : decode cX12_leafRead 13 = .ok (.bipush 8, 2) := by decide +kernel
theorem dX12_leafRead_15 : decode cX12_leafRead 15 = .ok (.if_icmp .ne 9, 3) := by decide +kernel
theorem dX12_leafRead_18 : decode cX12_leafRead 18 = .ok (.aload_n 0, 1) := by decide +kernel
theorem dX12_leafRead_19 : decode cX12_leafRead 19 = .ok (.iconst 2, 1) := by decide +kernel
theorem dX12_leafRead_20 : decode cX12_leafRead 20 = .ok (.invokevirtual 189, 3) := by decide +kernel
theorem dX12_leafRead_23 : decode cX12_leafRead 23 = .ok (.ireturn, 1) := by decide +kernel
theorem dX12_leafRead_24 : decode cX12_leafRead 24 = .ok (.aload_n 0, 1) := by decide +kernel
theorem dX12_leafRead_25 : decode cX12_leafRead 25 = .ok (.dup, 1) := by decide +kernel
theorem dX12_leafRead_26 : decode cX12_leafRead 26 = .ok (.getfield 218, 3) := by decide +kernel
theorem dX12_leafRead_29 : decode cX12_leafRead 29 = .ok (.iconst 1, 1) := by decide +kernel
theorem dX12_leafRead_30 : decode cX12_leafRead 30 = .ok (.iadd, 1) := by decide +kernel
theorem dX12_leafRead_31 : decode cX12_leafRead 31 = .ok (.putfield 218, 3) := by decide +kernel
theorem dX12_leafRead_34 : decode cX12_leafRead 34 = .ok (.aload_n 0, 1) := by decide +kernel
theorem dX12_leafRead_35 : decode cX12_leafRead 35 = .ok (.iconst 0, 1) := by decide +kernel
theorem dX12_leafRead_36 : decode cX12_leafRead 36 = .ok (.invokevirtual 221, 3) := by decide +kernel
theorem dX12_leafRead_39 : decode cX12_leafRead 39 = .ok (.aload_n 0, 1) := by decide +kernel
theorem dX12_leafRead_40 : decode cX12_leafRead 40 = .ok (.iconst 1, 1) := by decide +kernel
theorem dX12_leafRead_41 : decode cX12_leafRead 41 = .ok (.putfield 225, 3) := by decide +kernel
theorem dX12_leafRead_44 : decode cX12_leafRead 44 = .ok (.aload_n 0, 1) := by decide +kernel
theorem dX12_leafRead_45 : decode cX12_leafRead 45 = .ok (.invokevirtual 228, 3) := by decide +kernel
theorem dX12_leafRead_48 : decode cX12_leafRead 48 = .ok (.iconst 1, 1) := by decide +kernel
theorem dX12_leafRead_49 : decode cX12_leafRead 49 = .ok (.ireturn, 1) := by decide +kernel
theorem dX12_leafRead_50 : decode cX12_leafRead 50 = .ok (.aload_n 0, 1) := by decide +kernel
theorem dX12_leafRead_51 : decode cX12_leafRead 51 = .ok (.iconst 5, 1) := by decide +kernel
theorem dX12_leafRead_52 : decode cX12_leafRead 52 = .ok (.invokevirtual 231, 3) := by decide +kernel
theorem dX12_leafRead_55 : decode cX12_leafRead 55 = .ok (.ifCond .eq 30, 3) := by decide +kernel
theorem dX12_leafRead_58 : decode cX12_leafRead 58 = .ok (.aload_n 0, 1) := by decide +kernel
theorem dX12_leafRead_59 : decode cX12_leafRead 59 = .ok (.getfield 225, 3) := by decide +kernel
theorem dX12_leafRead_62 : decode cX12_leafRead 62 = .ok (.ifCond .eq 23, 3) := by decide +kernel
theorem dX12_leafRead_65 : decode cX12_leafRead 65 = .ok (.aload_n 0, 1) := by decide +kernel
theorem dX12_leafRead_66 : decode cX12_leafRead 66 = .ok (.invokevirtual 234, 3) := by decide +kernel
theorem dX12_leafRead_69 : decode cX12_leafRead 69 = .ok (.ifCond .ne 5, 3) := by decide +kernel
theorem dX12_leafRead_72 : decode cX12_leafRead 72 = .ok (.iconst 0, 1) := by decide +kernel
theorem dX12_leafRead_73 : decode cX12_leafRead 73 = .ok (.ireturn, 1) := by decide +kernel
theorem dX12_leafRead_74 : decode cX12_leafRead 74 = .ok (.aload_n 0, 1) := by decide +kernel
theorem dX12_leafRead_75 : decode cX12_leafRead 75 = .ok (.iconst 2, 1) := by decide +kernel
theorem dX12_leafRead_76 : decode cX12_leafRead 76 = .ok (.invokevirtual 221, 3) := by decide +kernel
theorem dX12_leafRead_79 : decode cX12_leafRead 79 = .ok (.aload_n 0, 1) := by decide +kernel
theorem dX12_leafRead_80 : decode cX12_leafRead 80 = .ok (.invokevirtual 228, 3) := by decide +kernel
theorem dX12_leafRead_83 : decode cX12_leafRead 83 = .ok (.iconst 1, 1) := by decide +kernel
theorem dX12_leafRead_84 : decode cX12_leafRead 84 = .ok (.ireturn, 1) := by decide +kernel
theorem dX12_leafRead_85 : decode cX12_leafRead 85 = .ok (.aload_n 0, 1) := by decide +kernel
theorem dX12_leafRead_86 : decode cX12_leafRead 86 = .ok (.getfield 170, 3) := by decide +kernel
theorem dX12_leafRead_89 : decode cX12_leafRead 89 = .ok (.iconst 1, 1) := by decide +kernel
theorem dX12_leafRead_90 : decode cX12_leafRead 90 = .ok (.if_icmp .ne 16, 3) := by decide +kernel
theorem dX12_leafRead_93 : decode cX12_leafRead 93 = .ok (.aload_n 0, 1) := by decide +kernel
theorem dX12_leafRead_94 : decode cX12_leafRead 94 = .ok (.getfield 180, 3) := by decide +kernel
theorem dX12_leafRead_97 : decode cX12_leafRead 97 = .ok (.bipush 6, 2) := by decide +kernel
theorem dX12_leafRead_99 : decode cX12_leafRead 99 = .ok (.if_icmp .lt 7, 3) := by decide +kernel
theorem dX12_leafRead_102 : decode cX12_leafRead 102 = .ok (.iconst 1, 1) := by decide +kernel
theorem dX12_leafRead_103 : decode cX12_leafRead 103 = .ok (.goto 4, 3) := by decide +kernel
theorem dX12_leafRead_106 : decode cX12_leafRead 106 = .ok (.iconst 0, 1) := by decide +kernel
theorem dX12_leafRead_107 : decode cX12_leafRead 107 = .ok (.istore_n 1, 1) := by decide +kernel
theorem dX12_leafRead_108 : decode cX12_leafRead 108 = .ok (.iload_n 1, 1) := by decide +kernel
theorem dX12_leafRead_109 : decode cX12_leafRead 109 = .ok (.ifCond .ne 16, 3) := by decide +kernel
theorem dX12_leafRead_112 : decode cX12_leafRead 112 = .ok (.aload_n 0, 1) := by decide +kernel
theorem dX12_leafRead_113 : decode cX12_leafRead 113 = .ok (.iconst 0, 1) := by decide +kernel
theorem dX12_leafRead_114 : decode cX12_leafRead 114 = .ok (.sipush 999, 3) := by decide +kernel
theorem dX12_leafRead_117 : decode cX12_leafRead 117 = .ok (.invokevirtual 238, 3) := by decide +kernel
theorem dX12_leafRead_120 : decode cX12_leafRead 120 = .ok (.ifCond .ne 5, 3) := by decide +kernel
theorem dX12_leafRead_123 : decode cX12_leafRead 123 = .ok (.iconst 0, 1) := by decide +kernel
theorem dX12_leafRead_124 : decode cX12_leafRead 124 = .ok (.ireturn, 1) := by decide +kernel
theorem dX12_leafRead_125 : decode cX12_leafRead 125 = .ok (.aload_n 0, 1) := by decide +kernel
theorem dX12_leafRead_126 : decode cX12_leafRead 126 = .ok (.invokevirtual 234, 3) := by decide +kernel
theorem dX12_leafRead_129 : decode cX12_leafRead 129 = .ok (.ifCond .ne 5, 3) := by decide +kernel
theorem dX12_leafRead_132 : decode cX12_leafRead 132 = .ok (.iconst 0, 1) := by decide +kernel
theorem dX12_leafRead_133 : decode cX12_leafRead 133 = .ok (.ireturn, 1) := by decide +kernel
theorem dX12_leafRead_134 : decode cX12_leafRead 134 = .ok (.aload_n 0, 1) := by decide +kernel
theorem dX12_leafRead_135 : decode cX12_leafRead 135 = .ok (.iload_n 1, 1) := by decide +kernel
theorem dX12_leafRead_136 : decode cX12_leafRead 136 = .ok (.ifCond .eq 7, 3) := by decide +kernel
theorem dX12_leafRead_139 : decode cX12_leafRead 139 = .ok (.iconst 1, 1) := by decide +kernel
theorem dX12_leafRead_140 : decode cX12_leafRead 140 = .ok (.goto 4, 3) := by decide +kernel
theorem dX12_leafRead_143 : decode cX12_leafRead 143 = .ok (.iconst 0, 1) := by decide +kernel
theorem dX12_leafRead_144 : decode cX12_leafRead 144 = .ok (.iload_n 1, 1) := by decide +kernel
theorem dX12_leafRead_145 : decode cX12_leafRead 145 = .ok (.ifCond .eq 13, 3) := by decide +kernel
theorem dX12_leafRead_148 : decode cX12_leafRead 148 = .ok (.aload_n 0, 1) := by decide +kernel
theorem dX12_leafRead_149 : decode cX12_leafRead 149 = .ok (.getfield 180, 3) := by decide +kernel
theorem dX12_leafRead_152 : decode cX12_leafRead 152 = .ok (.bipush 6, 2) := by decide +kernel
theorem dX12_leafRead_154 : decode cX12_leafRead 154 = .ok (.isub, 1) := by decide +kernel
theorem dX12_leafRead_155 : decode cX12_leafRead 155 = .ok (.goto 7, 3) := by decide +kernel
theorem dX12_leafRead_158 : decode cX12_leafRead 158 = .ok (.aload_n 0, 1) := by decide +kernel
theorem dX12_leafRead_159 : decode cX12_leafRead 159 = .ok (.getfield 180, 3) := by decide +kernel
theorem dX12_leafRead_162 : decode cX12_leafRead 162 = .ok (.iconst 0, 1) := by decide +kernel
theorem dX12_leafRead_163 : decode cX12_leafRead 163 = .ok (.invokevirtual 208, 3) := by decide +kernel
theorem dX12_leafRead_166 : decode cX12_leafRead 166 = .ok (.aload_n 0, 1) := by decide +kernel
theorem dX12_leafRead_167 : decode cX12_leafRead 167 = .ok (.iconst 0, 1) := by decide +kernel
theorem dX12_leafRead_168 : decode cX12_leafRead 168 = .ok (.putfield 242, 3) := by decide +kernel
theorem dX12_leafRead_171 : decode cX12_leafRead 171 = .ok (.aload_n 0, 1) := by decide +kernel
theorem dX12_leafRead_172 : decode cX12_leafRead 172 = .ok (.invokevirtual 228, 3) := by decide +kernel
theorem dX12_leafRead_175 : decode cX12_leafRead 175 = .ok (.iconst 1, 1) := by decide +kernel
theorem dX12_leafRead_176 : decode cX12_leafRead 176 = .ok (.ireturn, 1) := by decide +kernel
theorem dX12_signMet_0 : decode cX12_signMet 0 = .ok (.aload_n 0, 1) := by decide +kernel
theorem dX12_signMet_1 : decode cX12_signMet 1 = .ok (.iconst 3, 1) := by decide +kernel
theorem dX12_signMet_2 : decode cX12_signMet 2 = .ok (.invokevirtual 231, 3) := by decide +kernel
theorem dX12_signMet_5 : decode cX12_signMet 5 = .ok (.ifCond .eq 7, 3) := by decide +kernel
theorem dX12_signMet_8 : decode cX12_signMet 8 = .ok (.iconst 3, 1) := by decide +kernel
theorem dX12_signMet_9 : decode cX12_signMet 9 = .ok (.goto 89, 3) := by decide +kernel
theorem dX12_signMet_12 : decode cX12_signMet 12 = .ok (.aload_n 0, 1) := by decide +kernel
theorem dX12_signMet_13 : decode cX12_signMet 13 = .ok (.iconst 4, 1) := by decide +kernel
theorem dX12_signMet_14 : decode cX12_signMet 14 = .ok (.invokevirtual 231, 3) := by decide +kernel
theorem dX12_signMet_17 : decode cX12_signMet 17 = .ok (.ifCond .eq 7, 3) := by decide +kernel
theorem dX12_signMet_20 : decode cX12_signMet 20 = .ok (.iconst 4, 1) := by decide +kernel
theorem dX12_signMet_21 : decode cX12_signMet 21 = .ok (.goto 77, 3) := by decide +kernel
theorem dX12_signMet_24 : decode cX12_signMet 24 = .ok (.aload_n 0, 1) := by decide +kernel
theorem dX12_signMet_25 : decode cX12_signMet 25 = .ok (.getfield 170, 3) := by decide +kernel
theorem dX12_signMet_28 : decode cX12_signMet 28 = .ok (.iconst 4, 1) := by decide +kernel
theorem dX12_signMet_29 : decode cX12_signMet 29 = .ok (.if_icmp .ne 12, 3) := by decide +kernel
theorem dX12_signMet_32 : decode cX12_signMet 32 = .ok (.iconst 5, 1) := by decide +kernel
theorem dX12_signMet_33 : decode cX12_signMet 33 = .ok (.aload_n 0, 1) := by decide +kernel
theorem dX12_signMet_34 : decode cX12_signMet 34 = .ok (.getfield 180, 3) := by decide +kernel
theorem dX12_signMet_37 : decode cX12_signMet 37 = .ok (.iadd, 1) := by decide +kernel
theorem dX12_signMet_38 : decode cX12_signMet 38 = .ok (.goto 60, 3) := by decide +kernel
theorem dX12_signMet_41 : decode cX12_signMet 41 = .ok (.aload_n 0, 1) := by decide +kernel
theorem dX12_signMet_42 : decode cX12_signMet 42 = .ok (.bipush 43, 2) := by decide +kernel
theorem dX12_signMet_44 : decode cX12_signMet 44 = .ok (.invokevirtual 215, 3) := by decide +kernel
theorem dX12_signMet_47 : decode cX12_signMet 47 = .ok (.ifCond .eq 8, 3) := by decide +kernel
theorem dX12_signMet_50 : decode cX12_signMet 50 = .ok (.bipush 11, 2) := by decide +kernel
theorem dX12_signMet_52 : decode cX12_signMet 52 = .ok (.goto 46, 3) := by decide +kernel
theorem dX12_signMet_55 : decode cX12_signMet 55 = .ok (.aload_n 0, 1) := by decide +kernel
theorem dX12_signMet_56 : decode cX12_signMet 56 = .ok (.bipush 45, 2) := by decide +kernel
theorem dX12_signMet_58 : decode cX12_signMet 58 = .ok (.invokevirtual 215, 3) := by decide +kernel
theorem dX12_signMet_61 : decode cX12_signMet 61 = .ok (.ifCond .eq 8, 3) := by decide +kernel
theorem dX12_signMet_64 : decode cX12_signMet 64 = .ok (.bipush 12, 2) := by decide +kernel
theorem dX12_signMet_66 : decode cX12_signMet 66 = .ok (.goto 32, 3) := by decide +kernel
theorem dX12_signMet_69 : decode cX12_signMet 69 = .ok (.aload_n 0, 1) := by decide +kernel
theorem dX12_signMet_70 : decode cX12_signMet 70 = .ok (.bipush 42, 2) := by decide +kernel
theorem dX12_signMet_72 : decode cX12_signMet 72 = .ok (.invokevirtual 215, 3) := by decide +kernel
theorem dX12_signMet_75 : decode cX12_signMet 75 = .ok (.ifCond .eq 8, 3) := by decide +kernel
theorem dX12_signMet_78 : decode cX12_signMet 78 = .ok (.bipush 13, 2) := by decide +kernel
theorem dX12_signMet_80 : decode cX12_signMet 80 = .ok (.goto 18, 3) := by decide +kernel
theorem dX12_signMet_83 : decode cX12_signMet 83 = .ok (.aload_n 0, 1) := by decide +kernel
theorem dX12_signMet_84 : decode cX12_signMet 84 = .ok (.bipush 47, 2) := by decide +kernel
theorem dX12_signMet_86 : decode cX12_signMet 86 = .ok (.invokevirtual 215, 3) := by decide +kernel
theorem dX12_signMet_89 : decode cX12_signMet 89 = .ok (.ifCond .eq 8, 3) := by decide +kernel
theorem dX12_signMet_92 : decode cX12_signMet 92 = .ok (.bipush 14, 2) := by decide +kernel
theorem dX12_signMet_94 : decode cX12_signMet 94 = .ok (.goto 4, 3) := by decide +kernel
theorem dX12_signMet_97 : decode cX12_signMet 97 = .ok (.iconst 0, 1) := by decide +kernel
theorem dX12_signMet_98 : decode cX12_signMet 98 = .ok (.ireturn, 1) := by decide +kernel
theorem dX12_signs_0 : decode cX12_signs 0 = .ok (.aload_n 0, 1) := by decide +kernel
theorem dX12_signs_1 : decode cX12_signs 1 = .ok (.bipush 41, 2) := by decide +kernel
theorem dX12_signs_3 : decode cX12_signs 3 = .ok (.invokevirtual 215, 3) := by decide +kernel
theorem dX12_signs_6 : decode cX12_signs 6 = .ok (.ifCond .eq 41, 3) := by decide +kernel
theorem dX12_signs_9 : decode cX12_signs 9 = .ok (.aload_n 0, 1) := by decide +kernel
theorem dX12_signs_10 : decode cX12_signs 10 = .ok (.getfield 218, 3) := by decide +kernel
theorem dX12_signs_13 : decode cX12_signs 13 = .ok (.ifCond .le 34, 3) := by decide +kernel
theorem dX12_signs_16 : decode cX12_signs 16 = .ok (.aload_n 0, 1) := by decide +kernel
theorem dX12_signs_17 : decode cX12_signs 17 = .ok (.iconst 1, 1) := by decide +kernel
theorem dX12_signs_18 : decode cX12_signs 18 = .ok (.invokevirtual 245, 3) := by decide +kernel
theorem dX12_signs_21 : decode cX12_signs 21 = .ok (.aload_n 0, 1) := by decide +kernel
theorem dX12_signs_22 : decode cX12_signs 22 = .ok (.dup, 1) := by decide +kernel
theorem dX12_signs_23 : decode cX12_signs 23 = .ok (.getfield 198, 3) := by decide +kernel
theorem dX12_signs_26 : decode cX12_signs 26 = .ok (.iconst 1, 1) := by decide +kernel
theorem dX12_signs_27 : decode cX12_signs 27 = .ok (.isub, 1) := by decide +kernel
theorem dX12_signs_28 : decode cX12_signs 28 = .ok (.putfield 198, 3) := by decide +kernel
theorem dX12_signs_31 : decode cX12_signs 31 = .ok (.aload_n 0, 1) := by decide +kernel
theorem dX12_signs_32 : decode cX12_signs 32 = .ok (.dup, 1) := by decide +kernel
theorem dX12_signs_33 : decode cX12_signs 33 = .ok (.getfield 218, 3) := by decide +kernel
theorem dX12_signs_36 : decode cX12_signs 36 = .ok (.iconst 1, 1) := by decide +kernel
theorem dX12_signs_37 : decode cX12_signs 37 = .ok (.isub, 1) := by decide +kernel
theorem dX12_signs_38 : decode cX12_signs 38 = .ok (.putfield 218, 3) := by decide +kernel
theorem dX12_signs_41 : decode cX12_signs 41 = .ok (.aload_n 0, 1) := by decide +kernel
theorem dX12_signs_42 : decode cX12_signs 42 = .ok (.invokevirtual 228, 3) := by decide +kernel
theorem dX12_signs_45 : decode cX12_signs 45 = .ok (.iconst 1, 1) := by decide +kernel
theorem dX12_signs_46 : decode cX12_signs 46 = .ok (.ireturn, 1) := by decide +kernel
theorem dX12_signs_47 : decode cX12_signs 47 = .ok (.aload_n 0, 1) := by decide +kernel
theorem dX12_signs_48 : decode cX12_signs 48 = .ok (.invokevirtual 248, 3) := by decide +kernel
theorem dX12_signs_51 : decode cX12_signs 51 = .ok (.istore_n 1, 1) := by decide +kernel
theorem dX12_signs_52 : decode cX12_signs 52 = .ok (.iload_n 1, 1) := by decide +kernel
theorem dX12_signs_53 : decode cX12_signs 53 = .ok (.ifCond .ne 9, 3) := by decide +kernel
theorem dX12_signs_56 : decode cX12_signs 56 = .ok (.aload_n 0, 1) := by decide +kernel
theorem dX12_signs_57 : decode cX12_signs 57 = .ok (.iconst 1, 1) := by decide +kernel
theorem dX12_signs_58 : decode cX12_signs 58 = .ok (.invokevirtual 189, 3) := by decide +kernel
theorem dX12_signs_61 : decode cX12_signs 61 = .ok (.ireturn, 1) := by decide +kernel
theorem dX12_signs_62 : decode cX12_signs 62 = .ok (.aload_n 0, 1) := by decide +kernel
theorem dX12_signs_63 : decode cX12_signs 63 = .ok (.iload_n 1, 1) := by decide +kernel
theorem dX12_signs_64 : decode cX12_signs 64 = .ok (.invokestatic 201, 3) := by decide +kernel
theorem dX12_signs_67 : decode cX12_signs 67 = .ok (.iconst 4, 1) := by decide +kernel
theorem dX12_signs_68 : decode cX12_signs 68 = .ok (.if_icmp .ne 7, 3) := by decide +kernel
theorem dX12_signs_71 : decode cX12_signs 71 = .ok (.iconst 5, 1) := by decide +kernel
theorem dX12_signs_72 : decode cX12_signs 72 = .ok (.goto 7, 3) := by decide +kernel
theorem dX12_signs_75 : decode cX12_signs 75 = .ok (.iload_n 1, 1) := by decide +kernel
theorem dX12_signs_76 : decode cX12_signs 76 = .ok (.invokestatic 201, 3) := by decide +kernel
theorem dX12_signs_79 : decode cX12_signs 79 = .ok (.invokevirtual 245, 3) := by decide +kernel
theorem dX12_signs_82 : decode cX12_signs 82 = .ok (.iload_n 1, 1) := by decide +kernel
theorem dX12_signs_83 : decode cX12_signs 83 = .ok (.invokestatic 201, 3) := by decide +kernel
theorem dX12_signs_86 : decode cX12_signs 86 = .ok (.iconst 4, 1) := by decide +kernel
theorem dX12_signs_87 : decode cX12_signs 87 = .ok (.if_icmp .ne 34, 3) := by decide +kernel
theorem dX12_signs_90 : decode cX12_signs 90 = .ok (.aload_n 0, 1) := by decide +kernel
theorem dX12_signs_91 : decode cX12_signs 91 = .ok (.getfield 198, 3) := by decide +kernel
theorem dX12_signs_94 : decode cX12_signs 94 = .ok (.ifCond .le 27, 3) := by decide +kernel
theorem dX12_signs_97 : decode cX12_signs 97 = .ok (.aload_n 0, 1) := by decide +kernel
theorem dX12_signs_98 : decode cX12_signs 98 = .ok (.getfield 62, 3) := by decide +kernel
theorem dX12_signs_101 : decode cX12_signs 101 = .ok (.aload_n 0, 1) := by decide +kernel
theorem dX12_signs_102 : decode cX12_signs 102 = .ok (.getfield 198, 3) := by decide +kernel
theorem dX12_signs_105 : decode cX12_signs 105 = .ok (.iconst 1, 1) := by decide +kernel
theorem dX12_signs_106 : decode cX12_signs 106 = .ok (.isub, 1) := by decide +kernel
theorem dX12_signs_107 : decode cX12_signs 107 = .ok (.iaload, 1) := by decide +kernel
theorem dX12_signs_108 : decode cX12_signs 108 = .ok (.invokestatic 201, 3) := by decide +kernel
theorem dX12_signs_111 : decode cX12_signs 111 = .ok (.iconst 4, 1) := by decide +kernel
theorem dX12_signs_112 : decode cX12_signs 112 = .ok (.if_icmp .ne 9, 3) := by decide +kernel
theorem dX12_signs_115 : decode cX12_signs 115 = .ok (.aload_n 0, 1) := by decide +kernel
theorem dX12_signs_116 : decode cX12_signs 116 = .ok (.iconst 1, 1) := by decide +kernel
theorem dX12_signs_117 : decode cX12_signs 117 = .ok (.invokevirtual 189, 3) := by decide +kernel
theorem dX12_signs_120 : decode cX12_signs 120 = .ok (.ireturn, 1) := by decide +kernel
theorem dX12_signs_121 : decode cX12_signs 121 = .ok (.aload_n 0, 1) := by decide +kernel
theorem dX12_signs_122 : decode cX12_signs 122 = .ok (.invokevirtual 234, 3) := by decide +kernel
theorem dX12_signs_125 : decode cX12_signs 125 = .ok (.ifCond .ne 5, 3) := by decide +kernel
theorem dX12_signs_128 : decode cX12_signs 128 = .ok (.iconst 0, 1) := by decide +kernel
theorem dX12_signs_129 : decode cX12_signs 129 = .ok (.ireturn, 1) := by decide +kernel
theorem dX12_signs_130 : decode cX12_signs 130 = .ok (.aload_n 0, 1) := by decide +kernel
theorem dX12_signs_131 : decode cX12_signs 131 = .ok (.iload_n 1, 1) := by decide +kernel
theorem dX12_signs_132 : decode cX12_signs 132 = .ok (.invokevirtual 221, 3) := by decide +kernel
theorem dX12_signs_135 : decode cX12_signs 135 = .ok (.aload_n 0, 1) := by decide +kernel
theorem dX12_signs_136 : decode cX12_signs 136 = .ok (.iconst 1, 1) := by decide +kernel
theorem dX12_signs_137 : decode cX12_signs 137 = .ok (.putfield 242, 3) := by decide +kernel
theorem dX12_signs_140 : decode cX12_signs 140 = .ok (.aload_n 0, 1) := by decide +kernel
theorem dX12_signs_141 : decode cX12_signs 141 = .ok (.iload_n 1, 1) := by decide +kernel
theorem dX12_signs_142 : decode cX12_signs 142 = .ok (.invokestatic 201, 3) := by decide +kernel
theorem dX12_signs_145 : decode cX12_signs 145 = .ok (.iconst 3, 1) := by decide +kernel
theorem dX12_signs_146 : decode cX12_signs 146 = .ok (.if_icmp .ge 7, 3) := by decide +kernel
theorem dX12_signs_149 : decode cX12_signs 149 = .ok (.iconst 1, 1) := by decide +kernel
theorem dX12_signs_150 : decode cX12_signs 150 = .ok (.goto 4, 3) := by decide +kernel
theorem dX12_signs_153 : decode cX12_signs 153 = .ok (.iconst 0, 1) := by decide +kernel
theorem dX12_signs_154 : decode cX12_signs 154 = .ok (.putfield 225, 3) := by decide +kernel
theorem dX12_signs_157 : decode cX12_signs 157 = .ok (.aload_n 0, 1) := by decide +kernel
theorem dX12_signs_158 : decode cX12_signs 158 = .ok (.invokevirtual 228, 3) := by decide +kernel
theorem dX12_signs_161 : decode cX12_signs 161 = .ok (.iconst 1, 1) := by decide +kernel
theorem dX12_signs_162 : decode cX12_signs 162 = .ok (.ireturn, 1) := by decide +kernel
theorem dX12_sumRead_0 : decode cX12_sumRead 0 = .ok (.aload_n 0, 1) := by decide +kernel
theorem dX12_sumRead_1 : decode cX12_sumRead 1 = .ok (.iconst 0, 1) := by decide +kernel
theorem dX12_sumRead_2 : decode cX12_sumRead 2 = .ok (.putfield 198, 3) := by decide +kernel
theorem dX12_sumRead_5 : decode cX12_sumRead 5 = .ok (.aload_n 0, 1) := by decide +kernel
theorem dX12_sumRead_6 : decode cX12_sumRead 6 = .ok (.iconst 0, 1) := by decide +kernel
theorem dX12_sumRead_7 : decode cX12_sumRead 7 = .ok (.putfield 195, 3) := by decide +kernel
theorem dX12_sumRead_10 : decode cX12_sumRead 10 = .ok (.aload_n 0, 1) := by decide +kernel
theorem dX12_sumRead_11 : decode cX12_sumRead 11 = .ok (.iconst 0, 1) := by decide +kernel
theorem dX12_sumRead_12 : decode cX12_sumRead 12 = .ok (.putfield 218, 3) := by decide +kernel
theorem dX12_sumRead_15 : decode cX12_sumRead 15 = .ok (.aload_n 0, 1) := by decide +kernel
theorem dX12_sumRead_16 : decode cX12_sumRead 16 = .ok (.iconst 1, 1) := by decide +kernel
theorem dX12_sumRead_17 : decode cX12_sumRead 17 = .ok (.putfield 242, 3) := by decide +kernel
theorem dX12_sumRead_20 : decode cX12_sumRead 20 = .ok (.aload_n 0, 1) := by decide +kernel
theorem dX12_sumRead_21 : decode cX12_sumRead 21 = .ok (.iconst 1, 1) := by decide +kernel
theorem dX12_sumRead_22 : decode cX12_sumRead 22 = .ok (.putfield 225, 3) := by decide +kernel
theorem dX12_sumRead_25 : decode cX12_sumRead 25 = .ok (.aload_n 0, 1) := by decide +kernel
theorem dX12_sumRead_26 : decode cX12_sumRead 26 = .ok (.getfield 242, 3) := by decide +kernel
theorem dX12_sumRead_29 : decode cX12_sumRead 29 = .ok (.ifCond .ne 17, 3) := by decide +kernel
theorem dX12_sumRead_32 : decode cX12_sumRead 32 = .ok (.aload_n 0, 1) := by decide +kernel
theorem dX12_sumRead_33 : decode cX12_sumRead 33 = .ok (.getfield 218, 3) := by decide +kernel
theorem dX12_sumRead_36 : decode cX12_sumRead 36 = .ok (.ifCond .gt 10, 3) := by decide +kernel
theorem dX12_sumRead_39 : decode cX12_sumRead 39 = .ok (.aload_n 0, 1) := by decide +kernel
theorem dX12_sumRead_40 : decode cX12_sumRead 40 = .ok (.invokevirtual 248, 3) := by decide +kernel
theorem dX12_sumRead_43 : decode cX12_sumRead 43 = .ok (.ifCond .le 29, 3) := by decide +kernel
theorem dX12_sumRead_46 : decode cX12_sumRead 46 = .ok (.aload_n 0, 1) := by decide +kernel
theorem dX12_sumRead_47 : decode cX12_sumRead 47 = .ok (.getfield 242, 3) := by decide +kernel
theorem dX12_sumRead_50 : decode cX12_sumRead 50 = .ok (.ifCond .eq 13, 3) := by decide +kernel
theorem dX12_sumRead_53 : decode cX12_sumRead 53 = .ok (.aload_n 0, 1) := by decide +kernel
theorem dX12_sumRead_54 : decode cX12_sumRead 54 = .ok (.invokevirtual 251, 3) := by decide +kernel
theorem dX12_sumRead_57 : decode cX12_sumRead 57 = .ok (.ifCond .eq 13, 3) := by decide +kernel
theorem dX12_sumRead_60 : decode cX12_sumRead 60 = .ok (.goto (-35), 3) := by decide +kernel
theorem dX12_sumRead_63 : decode cX12_sumRead 63 = .ok (.aload_n 0, 1) := by decide +kernel
theorem dX12_sumRead_64 : decode cX12_sumRead 64 = .ok (.invokevirtual 254, 3) := by decide +kernel
theorem dX12_sumRead_67 : decode cX12_sumRead 67 = .ok (.ifCond .ne (-42), 3) := by decide +kernel
theorem dX12_sumRead_70 : decode cX12_sumRead 70 = .ok (.iconst 0, 1) := by decide +kernel
theorem dX12_sumRead_71 : decode cX12_sumRead 71 = .ok (.ireturn, 1) := by decide +kernel
theorem dX12_sumRead_72 : decode cX12_sumRead 72 = .ok (.aload_n 0, 1) := by decide +kernel
theorem dX12_sumRead_73 : decode cX12_sumRead 73 = .ok (.iconst 1, 1) := by decide +kernel
theorem dX12_sumRead_74 : decode cX12_sumRead 74 = .ok (.invokevirtual 245, 3) := by decide +kernel
theorem dX12_sumRead_77 : decode cX12_sumRead 77 = .ok (.iconst 1, 1) := by decide +kernel
theorem dX12_sumRead_78 : decode cX12_sumRead 78 = .ok (.ireturn, 1) := by decide +kernel
theorem dX12_lineRead_0 : decode cX12_lineRead 0 = .ok (.aload_n 0, 1) := by decide +kernel
theorem dX12_lineRead_1 : decode cX12_lineRead 1 = .ok (.iconst 0, 1) := by decide +kernel
theorem dX12_lineRead_2 : decode cX12_lineRead 2 = .ok (.invokevirtual 231, 3) := by decide +kernel
theorem dX12_lineRead_5 : decode cX12_lineRead 5 = .ok (.ifCond .ne 25, 3) := by decide +kernel
theorem dX12_lineRead_8 : decode cX12_lineRead 8 = .ok (.aload_n 0, 1) := by decide +kernel
theorem dX12_lineRead_9 : decode cX12_lineRead 9 = .ok (.iconst 1, 1) := by decide +kernel
theorem dX12_lineRead_10 : decode cX12_lineRead 10 = .ok (.invokevirtual 231, 3) := by decide +kernel
theorem dX12_lineRead_13 : decode cX12_lineRead 13 = .ok (.ifCond .ne 17, 3) := by decide +kernel
theorem dX12_lineRead_16 : decode cX12_lineRead 16 = .ok (.aload_n 0, 1) := by decide +kernel
theorem dX12_lineRead_17 : decode cX12_lineRead 17 = .ok (.iconst 2, 1) := by decide +kernel
theorem dX12_lineRead_18 : decode cX12_lineRead 18 = .ok (.invokevirtual 231, 3) := by decide +kernel
theorem dX12_lineRead_21 : decode cX12_lineRead 21 = .ok (.ifCond .ne 9, 3) := by decide +kernel
theorem dX12_lineRead_24 : decode cX12_lineRead 24 = .ok (.aload_n 0, 1) := by decide +kernel
theorem dX12_lineRead_25 : decode cX12_lineRead 25 = .ok (.iconst 1, 1) := by decide +kernel
theorem dX12_lineRead_26 : decode cX12_lineRead 26 = .ok (.invokevirtual 189, 3) := by decide +kernel
theorem dX12_lineRead_29 : decode cX12_lineRead 29 = .ok (.ireturn, 1) := by decide +kernel
theorem dX12_lineRead_30 : decode cX12_lineRead 30 = .ok (.aload_n 0, 1) := by decide +kernel
theorem dX12_lineRead_31 : decode cX12_lineRead 31 = .ok (.getfield 257, 3) := by decide +kernel
theorem dX12_lineRead_34 : decode cX12_lineRead 34 = .ok (.bipush 12, 2) := by decide +kernel
theorem dX12_lineRead_36 : decode cX12_lineRead 36 = .ok (.if_icmp .ne 9, 3) := by decide +kernel
theorem dX12_lineRead_39 : decode cX12_lineRead 39 = .ok (.aload_n 0, 1) := by decide +kernel
theorem dX12_lineRead_40 : decode cX12_lineRead 40 = .ok (.iconst 2, 1) := by decide +kernel
theorem dX12_lineRead_41 : decode cX12_lineRead 41 = .ok (.invokevirtual 189, 3) := by decide +kernel
theorem dX12_lineRead_44 : decode cX12_lineRead 44 = .ok (.ireturn, 1) := by decide +kernel
theorem dX12_lineRead_45 : decode cX12_lineRead 45 = .ok (.bipush 12, 2) := by decide +kernel
theorem dX12_lineRead_47 : decode cX12_lineRead 47 = .ok (.aload_n 0, 1) := by decide +kernel
theorem dX12_lineRead_48 : decode cX12_lineRead 48 = .ok (.getfield 257, 3) := by decide +kernel
theorem dX12_lineRead_51 : decode cX12_lineRead 51 = .ok (.iadd, 1) := by decide +kernel
theorem dX12_lineRead_52 : decode cX12_lineRead 52 = .ok (.istore_n 1, 1) := by decide +kernel
theorem dX12_lineRead_53 : decode cX12_lineRead 53 = .ok (.aload_n 0, 1) := by decide +kernel
theorem dX12_lineRead_54 : decode cX12_lineRead 54 = .ok (.getfield 47, 3) := by decide +kernel
theorem dX12_lineRead_57 : decode cX12_lineRead 57 = .ok (.iload_n 1, 1) := by decide +kernel
theorem dX12_lineRead_58 : decode cX12_lineRead 58 = .ok (.aload_n 0, 1) := by decide +kernel
theorem dX12_lineRead_59 : decode cX12_lineRead 59 = .ok (.getfield 192, 3) := by decide +kernel
theorem dX12_lineRead_62 : decode cX12_lineRead 62 = .ok (.iastore, 1) := by decide +kernel
theorem dX12_lineRead_63 : decode cX12_lineRead 63 = .ok (.aload_n 0, 1) := by decide +kernel
theorem dX12_lineRead_64 : decode cX12_lineRead 64 = .ok (.iconst 0, 1) := by decide +kernel
theorem dX12_lineRead_65 : decode cX12_lineRead 65 = .ok (.invokevirtual 231, 3) := by decide +kernel
theorem dX12_lineRead_68 : decode cX12_lineRead 68 = .ok (.ifCond .eq 16, 3) := by decide +kernel
theorem dX12_lineRead_71 : decode cX12_lineRead 71 = .ok (.aload_n 0, 1) := by decide +kernel
theorem dX12_lineRead_72 : decode cX12_lineRead 72 = .ok (.invokevirtual 228, 3) := by decide +kernel
theorem dX12_lineRead_75 : decode cX12_lineRead 75 = .ok (.aload_n 0, 1) := by decide +kernel
theorem dX12_lineRead_76 : decode cX12_lineRead 76 = .ok (.invokevirtual 260, 3) := by decide +kernel
theorem dX12_lineRead_79 : decode cX12_lineRead 79 = .ok (.ifCond .ne 5, 3) := by decide +kernel
theorem dX12_lineRead_82 : decode cX12_lineRead 82 = .ok (.iconst 0, 1) := by decide +kernel
theorem dX12_lineRead_83 : decode cX12_lineRead 83 = .ok (.ireturn, 1) := by decide +kernel
theorem dX12_lineRead_84 : decode cX12_lineRead 84 = .ok (.aload_n 0, 1) := by decide +kernel
theorem dX12_lineRead_85 : decode cX12_lineRead 85 = .ok (.getfield 50, 3) := by decide +kernel
theorem dX12_lineRead_88 : decode cX12_lineRead 88 = .ok (.iload_n 1, 1) := by decide +kernel
theorem dX12_lineRead_89 : decode cX12_lineRead 89 = .ok (.aload_n 0, 1) := by decide +kernel
theorem dX12_lineRead_90 : decode cX12_lineRead 90 = .ok (.getfield 192, 3) := by decide +kernel
theorem dX12_lineRead_93 : decode cX12_lineRead 93 = .ok (.iastore, 1) := by decide +kernel
theorem dX12_lineRead_94 : decode cX12_lineRead 94 = .ok (.aload_n 0, 1) := by decide +kernel
theorem dX12_lineRead_95 : decode cX12_lineRead 95 = .ok (.iconst 1, 1) := by decide +kernel
theorem dX12_lineRead_96 : decode cX12_lineRead 96 = .ok (.invokevirtual 231, 3) := by decide +kernel
theorem dX12_lineRead_99 : decode cX12_lineRead 99 = .ok (.ifCond .ne 17, 3) := by decide +kernel
theorem dX12_lineRead_102 : decode cX12_lineRead 102 = .ok (.aload_n 0, 1) := by decide +kernel
theorem dX12_lineRead_103 : decode cX12_lineRead 103 = .ok (.iconst 2, 1) := by decide +kernel
theorem dX12_lineRead_104 : decode cX12_lineRead 104 = .ok (.invokevirtual 231, 3) := by decide +kernel
theorem dX12_lineRead_107 : decode cX12_lineRead 107 = .ok (.ifCond .ne 9, 3) := by decide +kernel
theorem dX12_lineRead_110 : decode cX12_lineRead 110 = .ok (.aload_n 0, 1) := by decide +kernel
theorem dX12_lineRead_111 : decode cX12_lineRead 111 = .ok (.iconst 1, 1) := by decide +kernel
theorem dX12_lineRead_112 : decode cX12_lineRead 112 = .ok (.invokevirtual 189, 3) := by decide +kernel
theorem dX12_lineRead_115 : decode cX12_lineRead 115 = .ok (.ireturn, 1) := by decide +kernel
theorem dX12_lineRead_116 : decode cX12_lineRead 116 = .ok (.aload_n 0, 1) := by decide +kernel
theorem dX12_lineRead_117 : decode cX12_lineRead 117 = .ok (.getfield 59, 3) := by decide +kernel
theorem dX12_lineRead_120 : decode cX12_lineRead 120 = .ok (.iload_n 1, 1) := by decide +kernel
theorem dX12_lineRead_121 : decode cX12_lineRead 121 = .ok (.iconst (-1), 1) := by decide +kernel
theorem dX12_lineRead_122 : decode cX12_lineRead 122 = .ok (.iastore, 1) := by decide +kernel
theorem dX12_lineRead_123 : decode cX12_lineRead 123 = .ok (.aload_n 0, 1) := by decide +kernel
theorem dX12_lineRead_124 : decode cX12_lineRead 124 = .ok (.iconst 1, 1) := by decide +kernel
theorem dX12_lineRead_125 : decode cX12_lineRead 125 = .ok (.invokevirtual 231, 3) := by decide +kernel
theorem dX12_lineRead_128 : decode cX12_lineRead 128 = .ok (.istore_n 2, 1) := by decide +kernel
theorem dX12_lineRead_129 : decode cX12_lineRead 129 = .ok (.aload_n 0, 1) := by decide +kernel
theorem dX12_lineRead_130 : decode cX12_lineRead 130 = .ok (.invokevirtual 228, 3) := by decide +kernel
theorem dX12_lineRead_133 : decode cX12_lineRead 133 = .ok (.iload_n 2, 1) := by decide +kernel
theorem dX12_lineRead_134 : decode cX12_lineRead 134 = .ok (.ifCond .eq 28, 3) := by decide +kernel
theorem dX12_lineRead_137 : decode cX12_lineRead 137 = .ok (.aload_n 0, 1) := by decide +kernel
theorem dX12_lineRead_138 : decode cX12_lineRead 138 = .ok (.iconst 0, 1) := by decide +kernel
theorem dX12_lineRead_139 : decode cX12_lineRead 139 = .ok (.iconst 2, 1) := by decide +kernel
theorem dX12_lineRead_140 : decode cX12_lineRead 140 = .ok (.invokevirtual 238, 3) := by decide +kernel
theorem dX12_lineRead_143 : decode cX12_lineRead 143 = .ok (.ifCond .ne 5, 3) := by decide +kernel
theorem dX12_lineRead_146 : decode cX12_lineRead 146 = .ok (.iconst 0, 1) := by decide +kernel
theorem dX12_lineRead_147 : decode cX12_lineRead 147 = .ok (.ireturn, 1) := by decide +kernel
theorem dX12_lineRead_148 : decode cX12_lineRead 148 = .ok (.aload_n 0, 1) := by decide +kernel
theorem dX12_lineRead_149 : decode cX12_lineRead 149 = .ok (.getfield 59, 3) := by decide +kernel
theorem dX12_lineRead_152 : decode cX12_lineRead 152 = .ok (.iload_n 1, 1) := by decide +kernel
theorem dX12_lineRead_153 : decode cX12_lineRead 153 = .ok (.aload_n 0, 1) := by decide +kernel
theorem dX12_lineRead_154 : decode cX12_lineRead 154 = .ok (.getfield 180, 3) := by decide +kernel
theorem dX12_lineRead_157 : decode cX12_lineRead 157 = .ok (.iastore, 1) := by decide +kernel
theorem dX12_lineRead_158 : decode cX12_lineRead 158 = .ok (.aload_n 0, 1) := by decide +kernel
theorem dX12_lineRead_159 : decode cX12_lineRead 159 = .ok (.invokevirtual 228, 3) := by decide +kernel
theorem dX12_lineRead_162 : decode cX12_lineRead 162 = .ok (.aload_n 0, 1) := by decide +kernel
theorem dX12_lineRead_163 : decode cX12_lineRead 163 = .ok (.getfield 53, 3) := by decide +kernel
theorem dX12_lineRead_166 : decode cX12_lineRead 166 = .ok (.iload_n 1, 1) := by decide +kernel
theorem dX12_lineRead_167 : decode cX12_lineRead 167 = .ok (.aload_n 0, 1) := by decide +kernel
theorem dX12_lineRead_168 : decode cX12_lineRead 168 = .ok (.getfield 192, 3) := by decide +kernel
theorem dX12_lineRead_171 : decode cX12_lineRead 171 = .ok (.iastore, 1) := by decide +kernel
theorem dX12_lineRead_172 : decode cX12_lineRead 172 = .ok (.aload_n 0, 1) := by decide +kernel
theorem dX12_lineRead_173 : decode cX12_lineRead 173 = .ok (.invokevirtual 260, 3) := by decide +kernel
theorem dX12_lineRead_176 : decode cX12_lineRead 176 = .ok (.ifCond .ne 5, 3) := by decide +kernel
theorem dX12_lineRead_179 : decode cX12_lineRead 179 = .ok (.iconst 0, 1) := by decide +kernel
theorem dX12_lineRead_180 : decode cX12_lineRead 180 = .ok (.ireturn, 1) := by decide +kernel
theorem dX12_lineRead_181 : decode cX12_lineRead 181 = .ok (.aload_n 0, 1) := by decide +kernel
theorem dX12_lineRead_182 : decode cX12_lineRead 182 = .ok (.getfield 56, 3) := by decide +kernel
theorem dX12_lineRead_185 : decode cX12_lineRead 185 = .ok (.iload_n 1, 1) := by decide +kernel
theorem dX12_lineRead_186 : decode cX12_lineRead 186 = .ok (.aload_n 0, 1) := by decide +kernel
theorem dX12_lineRead_187 : decode cX12_lineRead 187 = .ok (.getfield 192, 3) := by decide +kernel
theorem dX12_lineRead_190 : decode cX12_lineRead 190 = .ok (.iastore, 1) := by decide +kernel
theorem dX12_lineRead_191 : decode cX12_lineRead 191 = .ok (.aload_n 0, 1) := by decide +kernel
theorem dX12_lineRead_192 : decode cX12_lineRead 192 = .ok (.bipush 59, 2) := by decide +kernel
theorem dX12_lineRead_194 : decode cX12_lineRead 194 = .ok (.invokevirtual 215, 3) := by decide +kernel
theorem dX12_lineRead_197 : decode cX12_lineRead 197 = .ok (.ifCond .ne 9, 3) := by decide +kernel
theorem dX12_lineRead_200 : decode cX12_lineRead 200 = .ok (.aload_n 0, 1) := by decide +kernel
theorem dX12_lineRead_201 : decode cX12_lineRead 201 = .ok (.iconst 1, 1) := by decide +kernel
theorem dX12_lineRead_202 : decode cX12_lineRead 202 = .ok (.invokevirtual 189, 3) := by decide +kernel
theorem dX12_lineRead_205 : decode cX12_lineRead 205 = .ok (.ireturn, 1) := by decide +kernel
theorem dX12_lineRead_206 : decode cX12_lineRead 206 = .ok (.aload_n 0, 1) := by decide +kernel
theorem dX12_lineRead_207 : decode cX12_lineRead 207 = .ok (.dup, 1) := by decide +kernel
theorem dX12_lineRead_208 : decode cX12_lineRead 208 = .ok (.getfield 257, 3) := by decide +kernel
theorem dX12_lineRead_211 : decode cX12_lineRead 211 = .ok (.iconst 1, 1) := by decide +kernel
theorem dX12_lineRead_212 : decode cX12_lineRead 212 = .ok (.iadd, 1) := by decide +kernel
theorem dX12_lineRead_213 : decode cX12_lineRead 213 = .ok (.putfield 257, 3) := by decide +kernel
theorem dX12_lineRead_216 : decode cX12_lineRead 216 = .ok (.aload_n 0, 1) := by decide +kernel
theorem dX12_lineRead_217 : decode cX12_lineRead 217 = .ok (.invokevirtual 228, 3) := by decide +kernel
theorem dX12_lineRead_220 : decode cX12_lineRead 220 = .ok (.iconst 1, 1) := by decide +kernel
theorem dX12_lineRead_221 : decode cX12_lineRead 221 = .ok (.ireturn, 1) := by decide +kernel
theorem dX12_plan_0 : decode cX12_plan 0 = .ok (.aload_n 0, 1) := by decide +kernel
theorem dX12_plan_1 : decode cX12_plan 1 = .ok (.iconst 0, 1) := by decide +kernel
theorem dX12_plan_2 : decode cX12_plan 2 = .ok (.putfield 127, 3) := by decide +kernel
theorem dX12_plan_5 : decode cX12_plan 5 = .ok (.iload_n 1, 1) := by decide +kernel
theorem dX12_plan_6 : decode cX12_plan 6 = .ok (.ifCond .lt 11, 3) := by decide +kernel
theorem dX12_plan_9 : decode cX12_plan 9 = .ok (.iload_n 1, 1) := by decide +kernel
theorem dX12_plan_10 : decode cX12_plan 10 = .ok (.aload_n 0, 1) := by decide +kernel
theorem dX12_plan_11 : decode cX12_plan 11 = .ok (.getfield 130, 3) := by decide +kernel
theorem dX12_plan_14 : decode cX12_plan 14 = .ok (.if_icmp .le 6, 3) := by decide +kernel
theorem dX12_plan_17 : decode cX12_plan 17 = .ok (.bipush (-2), 2) := by decide +kernel
theorem dX12_plan_19 : decode cX12_plan 19 = .ok (.ireturn, 1) := by decide +kernel
theorem dX12_plan_20 : decode cX12_plan 20 = .ok (.aload_n 0, 1) := by decide +kernel
theorem dX12_plan_21 : decode cX12_plan 21 = .ok (.iload_n 1, 1) := by decide +kernel
theorem dX12_plan_22 : decode cX12_plan 22 = .ok (.putfield 164, 3) := by decide +kernel
theorem dX12_plan_25 : decode cX12_plan 25 = .ok (.aload_n 0, 1) := by decide +kernel
theorem dX12_plan_26 : decode cX12_plan 26 = .ok (.iconst 0, 1) := by decide +kernel
theorem dX12_plan_27 : decode cX12_plan 27 = .ok (.putfield 130, 3) := by decide +kernel
theorem dX12_plan_30 : decode cX12_plan 30 = .ok (.aload_n 0, 1) := by decide +kernel
theorem dX12_plan_31 : decode cX12_plan 31 = .ok (.iconst 0, 1) := by decide +kernel
theorem dX12_plan_32 : decode cX12_plan 32 = .ok (.putfield 158, 3) := by decide +kernel
theorem dX12_plan_35 : decode cX12_plan 35 = .ok (.aload_n 0, 1) := by decide +kernel
theorem dX12_plan_36 : decode cX12_plan 36 = .ok (.iconst (-1), 1) := by decide +kernel
theorem dX12_plan_37 : decode cX12_plan 37 = .ok (.putfield 35, 3) := by decide +kernel
theorem dX12_plan_40 : decode cX12_plan 40 = .ok (.aload_n 0, 1) := by decide +kernel
theorem dX12_plan_41 : decode cX12_plan 41 = .ok (.iconst 0, 1) := by decide +kernel
theorem dX12_plan_42 : decode cX12_plan 42 = .ok (.putfield 167, 3) := by decide +kernel
theorem dX12_plan_45 : decode cX12_plan 45 = .ok (.aload_n 0, 1) := by decide +kernel
theorem dX12_plan_46 : decode cX12_plan 46 = .ok (.iconst 0, 1) := by decide +kernel
theorem dX12_plan_47 : decode cX12_plan 47 = .ok (.putfield 257, 3) := by decide +kernel
theorem dX12_plan_50 : decode cX12_plan 50 = .ok (.aload_n 0, 1) := by decide +kernel
theorem dX12_plan_51 : decode cX12_plan 51 = .ok (.iconst 0, 1) := by decide +kernel
theorem dX12_plan_52 : decode cX12_plan 52 = .ok (.putfield 192, 3) := by decide +kernel
theorem dX12_plan_55 : decode cX12_plan 55 = .ok (.aload_n 0, 1) := by decide +kernel
theorem dX12_plan_56 : decode cX12_plan 56 = .ok (.iconst 0, 1) := by decide +kernel
theorem dX12_plan_57 : decode cX12_plan 57 = .ok (.putfield 212, 3) := by decide +kernel
theorem dX12_plan_60 : decode cX12_plan 60 = .ok (.aload_n 0, 1) := by decide +kernel
theorem dX12_plan_61 : decode cX12_plan 61 = .ok (.invokevirtual 228, 3) := by decide +kernel
theorem dX12_plan_64 : decode cX12_plan 64 = .ok (.aload_n 0, 1) := by decide +kernel
theorem dX12_plan_65 : decode cX12_plan 65 = .ok (.getfield 170, 3) := by decide +kernel
theorem dX12_plan_68 : decode cX12_plan 68 = .ok (.ifCond .eq 12, 3) := by decide +kernel
theorem dX12_plan_71 : decode cX12_plan 71 = .ok (.aload_n 0, 1) := by decide +kernel
theorem dX12_plan_72 : decode cX12_plan 72 = .ok (.invokevirtual 263, 3) := by decide +kernel
theorem dX12_plan_75 : decode cX12_plan 75 = .ok (.ifCond .ne (-11), 3) := by decide +kernel
theorem dX12_plan_78 : decode cX12_plan 78 = .ok (.iconst (-1), 1) := by decide +kernel
theorem dX12_plan_79 : decode cX12_plan 79 = .ok (.ireturn, 1) := by decide +kernel
theorem dX12_plan_80 : decode cX12_plan 80 = .ok (.aload_n 0, 1) := by decide +kernel
theorem dX12_plan_81 : decode cX12_plan 81 = .ok (.iconst 1, 1) := by decide +kernel
theorem dX12_plan_82 : decode cX12_plan 82 = .ok (.putfield 266, 3) := by decide +kernel
theorem dX12_plan_85 : decode cX12_plan 85 = .ok (.aload_n 0, 1) := by decide +kernel
theorem dX12_plan_86 : decode cX12_plan 86 = .ok (.aload_n 0, 1) := by decide +kernel
theorem dX12_plan_87 : decode cX12_plan 87 = .ok (.getfield 257, 3) := by decide +kernel
theorem dX12_plan_90 : decode cX12_plan 90 = .ok (.putfield 269, 3) := by decide +kernel
theorem dX12_plan_93 : decode cX12_plan 93 = .ok (.aload_n 0, 1) := by decide +kernel
theorem dX12_plan_94 : decode cX12_plan 94 = .ok (.aload_n 0, 1) := by decide +kernel
theorem dX12_plan_95 : decode cX12_plan 95 = .ok (.getfield 192, 3) := by decide +kernel
theorem dX12_plan_98 : decode cX12_plan 98 = .ok (.putfield 272, 3) := by decide +kernel
theorem dX12_plan_101 : decode cX12_plan 101 = .ok (.iconst 0, 1) := by decide +kernel
theorem dX12_plan_102 : decode cX12_plan 102 = .ok (.istore_n 2, 1) := by decide +kernel
theorem dX12_plan_103 : decode cX12_plan 103 = .ok (.iload_n 2, 1) := by decide +kernel
theorem dX12_plan_104 : decode cX12_plan 104 = .ok (.bipush 64, 2) := by decide +kernel
theorem dX12_plan_106 : decode cX12_plan 106 = .ok (.if_icmp .ge 54, 3) := by decide +kernel
theorem dX12_plan_109 : decode cX12_plan 109 = .ok (.aload_n 0, 1) := by decide +kernel
theorem dX12_plan_110 : decode cX12_plan 110 = .ok (.getfield 38, 3) := by decide +kernel
theorem dX12_plan_113 : decode cX12_plan 113 = .ok (.iload_n 2, 1) := by decide +kernel
theorem dX12_plan_114 : decode cX12_plan 114 = .ok (.aload_n 0, 1) := by decide +kernel
theorem dX12_plan_115 : decode cX12_plan 115 = .ok (.getfield 38, 3) := by decide +kernel
theorem dX12_plan_118 : decode cX12_plan 118 = .ok (.bipush 64, 2) := by decide +kernel
theorem dX12_plan_120 : decode cX12_plan 120 = .ok (.iload_n 2, 1) := by decide +kernel
theorem dX12_plan_121 : decode cX12_plan 121 = .ok (.iadd, 1) := by decide +kernel
theorem dX12_plan_122 : decode cX12_plan 122 = .ok (.iaload, 1) := by decide +kernel
theorem dX12_plan_123 : decode cX12_plan 123 = .ok (.iastore, 1) := by decide +kernel
theorem dX12_plan_124 : decode cX12_plan 124 = .ok (.aload_n 0, 1) := by decide +kernel
theorem dX12_plan_125 : decode cX12_plan 125 = .ok (.getfield 41, 3) := by decide +kernel
theorem dX12_plan_128 : decode cX12_plan 128 = .ok (.iload_n 2, 1) := by decide +kernel
theorem dX12_plan_129 : decode cX12_plan 129 = .ok (.aload_n 0, 1) := by decide +kernel
theorem dX12_plan_130 : decode cX12_plan 130 = .ok (.getfield 41, 3) := by decide +kernel
theorem dX12_plan_133 : decode cX12_plan 133 = .ok (.bipush 64, 2) := by decide +kernel
theorem dX12_plan_135 : decode cX12_plan 135 = .ok (.iload_n 2, 1) := by decide +kernel
theorem dX12_plan_136 : decode cX12_plan 136 = .ok (.iadd, 1) := by decide +kernel
theorem dX12_plan_137 : decode cX12_plan 137 = .ok (.iaload, 1) := by decide +kernel
theorem dX12_plan_138 : decode cX12_plan 138 = .ok (.iastore, 1) := by decide +kernel
theorem dX12_plan_139 : decode cX12_plan 139 = .ok (.aload_n 0, 1) := by decide +kernel
theorem dX12_plan_140 : decode cX12_plan 140 = .ok (.getfield 44, 3) := by decide +kernel
theorem dX12_plan_143 : decode cX12_plan 143 = .ok (.iload_n 2, 1) := by decide +kernel
theorem dX12_plan_144 : decode cX12_plan 144 = .ok (.aload_n 0, 1) := by decide +kernel
theorem dX12_plan_145 : decode cX12_plan 145 = .ok (.getfield 44, 3) := by decide +kernel
theorem dX12_plan_148 : decode cX12_plan 148 = .ok (.bipush 64, 2) := by decide +kernel
theorem dX12_plan_150 : decode cX12_plan 150 = .ok (.iload_n 2, 1) := by decide +kernel
theorem dX12_plan_151 : decode cX12_plan 151 = .ok (.iadd, 1) := by decide +kernel
theorem dX12_plan_152 : decode cX12_plan 152 = .ok (.iaload, 1) := by decide +kernel
theorem dX12_plan_153 : decode cX12_plan 153 = .ok (.iastore, 1) := by decide +kernel
theorem dX12_plan_154 : decode cX12_plan 154 = .ok (.iinc 2 1, 3) := by decide +kernel
theorem dX12_plan_157 : decode cX12_plan 157 = .ok (.goto (-54), 3) := by decide +kernel
theorem dX12_plan_160 : decode cX12_plan 160 = .ok (.iconst 0, 1) := by decide +kernel
theorem dX12_plan_161 : decode cX12_plan 161 = .ok (.istore_n 2, 1) := by decide +kernel
theorem dX12_plan_162 : decode cX12_plan 162 = .ok (.iload_n 2, 1) := by decide +kernel
theorem dX12_plan_163 : decode cX12_plan 163 = .ok (.bipush 12, 2) := by decide +kernel
theorem dX12_plan_165 : decode cX12_plan 165 = .ok (.if_icmp .ge 84, 3) := by decide +kernel
theorem dX12_plan_168 : decode cX12_plan 168 = .ok (.aload_n 0, 1) := by decide +kernel
theorem dX12_plan_169 : decode cX12_plan 169 = .ok (.getfield 47, 3) := by decide +kernel
theorem dX12_plan_172 : decode cX12_plan 172 = .ok (.iload_n 2, 1) := by decide +kernel
theorem dX12_plan_173 : decode cX12_plan 173 = .ok (.aload_n 0, 1) := by decide +kernel
theorem dX12_plan_174 : decode cX12_plan 174 = .ok (.getfield 47, 3) := by decide +kernel
theorem dX12_plan_177 : decode cX12_plan 177 = .ok (.bipush 12, 2) := by decide +kernel
theorem dX12_plan_179 : decode cX12_plan 179 = .ok (.iload_n 2, 1) := by decide +kernel
theorem dX12_plan_180 : decode cX12_plan 180 = .ok (.iadd, 1) := by decide +kernel
theorem dX12_plan_181 : decode cX12_plan 181 = .ok (.iaload, 1) := by decide +kernel
theorem dX12_plan_182 : decode cX12_plan 182 = .ok (.iastore, 1) := by decide +kernel
theorem dX12_plan_183 : decode cX12_plan 183 = .ok (.aload_n 0, 1) := by decide +kernel
theorem dX12_plan_184 : decode cX12_plan 184 = .ok (.getfield 50, 3) := by decide +kernel
theorem dX12_plan_187 : decode cX12_plan 187 = .ok (.iload_n 2, 1) := by decide +kernel
theorem dX12_plan_188 : decode cX12_plan 188 = .ok (.aload_n 0, 1) := by decide +kernel
theorem dX12_plan_189 : decode cX12_plan 189 = .ok (.getfield 50, 3) := by decide +kernel
theorem dX12_plan_192 : decode cX12_plan 192 = .ok (.bipush 12, 2) := by decide +kernel
theorem dX12_plan_194 : decode cX12_plan 194 = .ok (.iload_n 2, 1) := by decide +kernel
theorem dX12_plan_195 : decode cX12_plan 195 = .ok (.iadd, 1) := by decide +kernel
theorem dX12_plan_196 : decode cX12_plan 196 = .ok (.iaload, 1) := by decide +kernel
theorem dX12_plan_197 : decode cX12_plan 197 = .ok (.iastore, 1) := by decide +kernel
theorem dX12_plan_198 : decode cX12_plan 198 = .ok (.aload_n 0, 1) := by decide +kernel
theorem dX12_plan_199 : decode cX12_plan 199 = .ok (.getfield 53, 3) := by decide +kernel
theorem dX12_plan_202 : decode cX12_plan 202 = .ok (.iload_n 2, 1) := by decide +kernel
theorem dX12_plan_203 : decode cX12_plan 203 = .ok (.aload_n 0, 1) := by decide +kernel
theorem dX12_plan_204 : decode cX12_plan 204 = .ok (.getfield 53, 3) := by decide +kernel
theorem dX12_plan_207 : decode cX12_plan 207 = .ok (.bipush 12, 2) := by decide +kernel
theorem dX12_plan_209 : decode cX12_plan 209 = .ok (.iload_n 2, 1) := by decide +kernel
theorem dX12_plan_210 : decode cX12_plan 210 = .ok (.iadd, 1) := by decide +kernel
theorem dX12_plan_211 : decode cX12_plan 211 = .ok (.iaload, 1) := by decide +kernel
theorem dX12_plan_212 : decode cX12_plan 212 = .ok (.iastore, 1) := by decide +kernel
theorem dX12_plan_213 : decode cX12_plan 213 = .ok (.aload_n 0, 1) := by decide +kernel
theorem dX12_plan_214 : decode cX12_plan 214 = .ok (.getfield 56, 3) := by decide +kernel
theorem dX12_plan_217 : decode cX12_plan 217 = .ok (.iload_n 2, 1) := by decide +kernel
theorem dX12_plan_218 : decode cX12_plan 218 = .ok (.aload_n 0, 1) := by decide +kernel
theorem dX12_plan_219 : decode cX12_plan 219 = .ok (.getfield 56, 3) := by decide +kernel
theorem dX12_plan_222 : decode cX12_plan 222 = .ok (.bipush 12, 2) := by decide +kernel
theorem dX12_plan_224 : decode cX12_plan 224 = .ok (.iload_n 2, 1) := by decide +kernel
theorem dX12_plan_225 : decode cX12_plan 225 = .ok (.iadd, 1) := by decide +kernel
theorem dX12_plan_226 : decode cX12_plan 226 = .ok (.iaload, 1) := by decide +kernel
theorem dX12_plan_227 : decode cX12_plan 227 = .ok (.iastore, 1) := by decide +kernel
theorem dX12_plan_228 : decode cX12_plan 228 = .ok (.aload_n 0, 1) := by decide +kernel
theorem dX12_plan_229 : decode cX12_plan 229 = .ok (.getfield 59, 3) := by decide +kernel
theorem dX12_plan_232 : decode cX12_plan 232 = .ok (.iload_n 2, 1) := by decide +kernel
theorem dX12_plan_233 : decode cX12_plan 233 = .ok (.aload_n 0, 1) := by decide +kernel
theorem dX12_plan_234 : decode cX12_plan 234 = .ok (.getfield 59, 3) := by decide +kernel
theorem dX12_plan_237 : decode cX12_plan 237 = .ok (.bipush 12, 2) := by decide +kernel
theorem dX12_plan_239 : decode cX12_plan 239 = .ok (.iload_n 2, 1) := by decide +kernel
theorem dX12_plan_240 : decode cX12_plan 240 = .ok (.iadd, 1) := by decide +kernel
theorem dX12_plan_241 : decode cX12_plan 241 = .ok (.iaload, 1) := by decide +kernel
theorem dX12_plan_242 : decode cX12_plan 242 = .ok (.iastore, 1) := by decide +kernel
theorem dX12_plan_243 : decode cX12_plan 243 = .ok (.iinc 2 1, 3) := by decide +kernel
theorem dX12_plan_246 : decode cX12_plan 246 = .ok (.goto (-84), 3) := by decide +kernel
theorem dX12_plan_249 : decode cX12_plan 249 = .ok (.aload_n 0, 1) := by decide +kernel
theorem dX12_plan_250 : decode cX12_plan 250 = .ok (.getfield 269, 3) := by decide +kernel
theorem dX12_plan_253 : decode cX12_plan 253 = .ok (.ireturn, 1) := by decide +kernel
theorem dX12_fault_0 : decode cX12_fault 0 = .ok (.aload_n 0, 1) := by decide +kernel
theorem dX12_fault_1 : decode cX12_fault 1 = .ok (.iconst 0, 1) := by decide +kernel
theorem dX12_fault_2 : decode cX12_fault 2 = .ok (.putfield 127, 3) := by decide +kernel
theorem dX12_fault_5 : decode cX12_fault 5 = .ok (.iload_n 1, 1) := by decide +kernel
theorem dX12_fault_6 : decode cX12_fault 6 = .ok (.ifCond .ne 10, 3) := by decide +kernel
theorem dX12_fault_9 : decode cX12_fault 9 = .ok (.aload_n 0, 1) := by decide +kernel
theorem dX12_fault_10 : decode cX12_fault 10 = .ok (.getfield 158, 3) := by decide +kernel
theorem dX12_fault_13 : decode cX12_fault 13 = .ok (.goto 16, 3) := by decide +kernel
theorem dX12_fault_16 : decode cX12_fault 16 = .ok (.iload_n 1, 1) := by decide +kernel
theorem dX12_fault_17 : decode cX12_fault 17 = .ok (.iconst 1, 1) := by decide +kernel
theorem dX12_fault_18 : decode cX12_fault 18 = .ok (.if_icmp .ne 10, 3) := by decide +kernel
theorem dX12_fault_21 : decode cX12_fault 21 = .ok (.aload_n 0, 1) := by decide +kernel
theorem dX12_fault_22 : decode cX12_fault 22 = .ok (.getfield 35, 3) := by decide +kernel
theorem dX12_fault_25 : decode cX12_fault 25 = .ok (.goto 4, 3) := by decide +kernel
theorem dX12_fault_28 : decode cX12_fault 28 = .ok (.iconst (-1), 1) := by decide +kernel
theorem dX12_fault_29 : decode cX12_fault 29 = .ok (.ireturn, 1) := by decide +kernel
theorem dX12_bounded_0 : decode cX12_bounded 0 = .ok (.aload_n 0, 1) := by decide +kernel
theorem dX12_bounded_1 : decode cX12_bounded 1 = .ok (.aload_n 0, 1) := by decide +kernel
theorem dX12_bounded_2 : decode cX12_bounded 2 = .ok (.getfield 275, 3) := by decide +kernel
theorem dX12_bounded_5 : decode cX12_bounded 5 = .ok (.ifCond .ne 19, 3) := by decide +kernel
theorem dX12_bounded_8 : decode cX12_bounded 8 = .ok (.lload_n 1, 1) := by decide +kernel
theorem dX12_bounded_9 : decode cX12_bounded 9 = .ok (.ldc2_w 278, 3) := by decide +kernel
theorem dX12_bounded_12 : decode cX12_bounded 12 = .ok (.lcmp, 1) := by decide +kernel
theorem dX12_bounded_13 : decode cX12_bounded 13 = .ok (.ifCond .gt 11, 3) := by decide +kernel
theorem dX12_bounded_16 : decode cX12_bounded 16 = .ok (.lload_n 1, 1) := by decide +kernel
theorem dX12_bounded_17 : decode cX12_bounded 17 = .ok (.ldc2_w 280, 3) := by decide +kernel
theorem dX12_bounded_20 : decode cX12_bounded 20 = .ok (.lcmp, 1) := by decide +kernel
theorem dX12_bounded_21 : decode cX12_bounded 21 = .ok (.ifCond .ge 7, 3) := by decide +kernel
theorem dX12_bounded_24 : decode cX12_bounded 24 = .ok (.iconst 1, 1) := by decide +kernel
theorem dX12_bounded_25 : decode cX12_bounded 25 = .ok (.goto 4, 3) := by decide +kernel
theorem dX12_bounded_28 : decode cX12_bounded 28 = .ok (.iconst 0, 1) := by decide +kernel
theorem dX12_bounded_29 : decode cX12_bounded 29 = .ok (.putfield 275, 3) := by decide +kernel
theorem dX12_bounded_32 : decode cX12_bounded 32 = .ok (.aload_n 0, 1) := by decide +kernel
theorem dX12_bounded_33 : decode cX12_bounded 33 = .ok (.getfield 275, 3) := by decide +kernel
theorem dX12_bounded_36 : decode cX12_bounded 36 = .ok (.ifCond .eq 7, 3) := by decide +kernel
theorem dX12_bounded_39 : decode cX12_bounded 39 = .ok (.lconst 0, 1) := by decide +kernel
theorem dX12_bounded_40 : decode cX12_bounded 40 = .ok (.goto 4, 3) := by decide +kernel
theorem dX12_bounded_43 : decode cX12_bounded 43 = .ok (.lload_n 1, 1) := by decide +kernel
theorem dX12_bounded_44 : decode cX12_bounded 44 = .ok (.lreturn, 1) := by decide +kernel
theorem dX12_compares_0 : decode cX12_compares 0 = .ok (.iload_n 0, 1) := by decide +kernel
theorem dX12_compares_1 : decode cX12_compares 1 = .ok (.tableswitch 95 5 9 #[35, 47, 59, 71, 83], 35) := by decide +kernel
theorem dX12_compares_36 : decode cX12_compares 36 = .ok (.lload_n 1, 1) := by decide +kernel
theorem dX12_compares_37 : decode cX12_compares 37 = .ok (.lload_n 3, 1) := by decide +kernel
theorem dX12_compares_38 : decode cX12_compares 38 = .ok (.lcmp, 1) := by decide +kernel
theorem dX12_compares_39 : decode cX12_compares 39 = .ok (.ifCond .ge 7, 3) := by decide +kernel
theorem dX12_compares_42 : decode cX12_compares 42 = .ok (.iconst 1, 1) := by decide +kernel
theorem dX12_compares_43 : decode cX12_compares 43 = .ok (.goto 4, 3) := by decide +kernel
theorem dX12_compares_46 : decode cX12_compares 46 = .ok (.iconst 0, 1) := by decide +kernel
theorem dX12_compares_47 : decode cX12_compares 47 = .ok (.ireturn, 1) := by decide +kernel
theorem dX12_compares_48 : decode cX12_compares 48 = .ok (.lload_n 1, 1) := by decide +kernel
theorem dX12_compares_49 : decode cX12_compares 49 = .ok (.lload_n 3, 1) := by decide +kernel
theorem dX12_compares_50 : decode cX12_compares 50 = .ok (.lcmp, 1) := by decide +kernel
theorem dX12_compares_51 : decode cX12_compares 51 = .ok (.ifCond .gt 7, 3) := by decide +kernel
theorem dX12_compares_54 : decode cX12_compares 54 = .ok (.iconst 1, 1) := by decide +kernel
theorem dX12_compares_55 : decode cX12_compares 55 = .ok (.goto 4, 3) := by decide +kernel
theorem dX12_compares_58 : decode cX12_compares 58 = .ok (.iconst 0, 1) := by decide +kernel
theorem dX12_compares_59 : decode cX12_compares 59 = .ok (.ireturn, 1) := by decide +kernel
theorem dX12_compares_60 : decode cX12_compares 60 = .ok (.lload_n 1, 1) := by decide +kernel
theorem dX12_compares_61 : decode cX12_compares 61 = .ok (.lload_n 3, 1) := by decide +kernel
theorem dX12_compares_62 : decode cX12_compares 62 = .ok (.lcmp, 1) := by decide +kernel
theorem dX12_compares_63 : decode cX12_compares 63 = .ok (.ifCond .ne 7, 3) := by decide +kernel
theorem dX12_compares_66 : decode cX12_compares 66 = .ok (.iconst 1, 1) := by decide +kernel
theorem dX12_compares_67 : decode cX12_compares 67 = .ok (.goto 4, 3) := by decide +kernel
theorem dX12_compares_70 : decode cX12_compares 70 = .ok (.iconst 0, 1) := by decide +kernel
theorem dX12_compares_71 : decode cX12_compares 71 = .ok (.ireturn, 1) := by decide +kernel
theorem dX12_compares_72 : decode cX12_compares 72 = .ok (.lload_n 1, 1) := by decide +kernel
theorem dX12_compares_73 : decode cX12_compares 73 = .ok (.lload_n 3, 1) := by decide +kernel
theorem dX12_compares_74 : decode cX12_compares 74 = .ok (.lcmp, 1) := by decide +kernel
theorem dX12_compares_75 : decode cX12_compares 75 = .ok (.ifCond .eq 7, 3) := by decide +kernel
theorem dX12_compares_78 : decode cX12_compares 78 = .ok (.iconst 1, 1) := by decide +kernel
theorem dX12_compares_79 : decode cX12_compares 79 = .ok (.goto 4, 3) := by decide +kernel
theorem dX12_compares_82 : decode cX12_compares 82 = .ok (.iconst 0, 1) := by decide +kernel
theorem dX12_compares_83 : decode cX12_compares 83 = .ok (.ireturn, 1) := by decide +kernel
theorem dX12_compares_84 : decode cX12_compares 84 = .ok (.lload_n 1, 1) := by decide +kernel
theorem dX12_compares_85 : decode cX12_compares 85 = .ok (.lload_n 3, 1) := by decide +kernel
theorem dX12_compares_86 : decode cX12_compares 86 = .ok (.lcmp, 1) := by decide +kernel
theorem dX12_compares_87 : decode cX12_compares 87 = .ok (.ifCond .lt 7, 3) := by decide +kernel
theorem dX12_compares_90 : decode cX12_compares 90 = .ok (.iconst 1, 1) := by decide +kernel
theorem dX12_compares_91 : decode cX12_compares 91 = .ok (.goto 4, 3) := by decide +kernel
theorem dX12_compares_94 : decode cX12_compares 94 = .ok (.iconst 0, 1) := by decide +kernel
theorem dX12_compares_95 : decode cX12_compares 95 = .ok (.ireturn, 1) := by decide +kernel
theorem dX12_compares_96 : decode cX12_compares 96 = .ok (.lload_n 1, 1) := by decide +kernel
theorem dX12_compares_97 : decode cX12_compares 97 = .ok (.lload_n 3, 1) := by decide +kernel
theorem dX12_compares_98 : decode cX12_compares 98 = .ok (.lcmp, 1) := by decide +kernel
theorem dX12_compares_99 : decode cX12_compares 99 = .ok (.ifCond .le 7, 3) := by decide +kernel
theorem dX12_compares_102 : decode cX12_compares 102 = .ok (.iconst 1, 1) := by decide +kernel
theorem dX12_compares_103 : decode cX12_compares 103 = .ok (.goto 4, 3) := by decide +kernel
theorem dX12_compares_106 : decode cX12_compares 106 = .ok (.iconst 0, 1) := by decide +kernel
theorem dX12_compares_107 : decode cX12_compares 107 = .ok (.ireturn, 1) := by decide +kernel
theorem dX12_times_0 : decode cX12_times 0 = .ok (.lload_n 1, 1) := by decide +kernel
theorem dX12_times_1 : decode cX12_times 1 = .ok (.lconst 0, 1) := by decide +kernel
theorem dX12_times_2 : decode cX12_times 2 = .ok (.lcmp, 1) := by decide +kernel
theorem dX12_times_3 : decode cX12_times 3 = .ok (.ifCond .eq 45, 3) := by decide +kernel
theorem dX12_times_6 : decode cX12_times 6 = .ok (.lload_n 3, 1) := by decide +kernel
theorem dX12_times_7 : decode cX12_times 7 = .ok (.lconst 0, 1) := by decide +kernel
theorem dX12_times_8 : decode cX12_times 8 = .ok (.lcmp, 1) := by decide +kernel
theorem dX12_times_9 : decode cX12_times 9 = .ok (.ifCond .eq 39, 3) := by decide +kernel
theorem dX12_times_12 : decode cX12_times 12 = .ok (.lload_n 3, 1) := by decide +kernel
theorem dX12_times_13 : decode cX12_times 13 = .ok (.lconst 0, 1) := by decide +kernel
theorem dX12_times_14 : decode cX12_times 14 = .ok (.lcmp, 1) := by decide +kernel
theorem dX12_times_15 : decode cX12_times 15 = .ok (.ifCond .ge 8, 3) := by decide +kernel
theorem dX12_times_18 : decode cX12_times 18 = .ok (.lload_n 3, 1) := by decide +kernel
theorem dX12_times_19 : decode cX12_times 19 = .ok (.lneg, 1) := by decide +kernel
theorem dX12_times_20 : decode cX12_times 20 = .ok (.goto 4, 3) := by decide +kernel
theorem dX12_times_23 : decode cX12_times 23 = .ok (.lload_n 3, 1) := by decide +kernel
theorem dX12_times_24 : decode cX12_times 24 = .ok (.ldc2_w 278, 3) := by decide +kernel
theorem dX12_times_27 : decode cX12_times 27 = .ok (.lload_n 1, 1) := by decide +kernel
theorem dX12_times_28 : decode cX12_times 28 = .ok (.lconst 0, 1) := by decide +kernel
theorem dX12_times_29 : decode cX12_times 29 = .ok (.lcmp, 1) := by decide +kernel
theorem dX12_times_30 : decode cX12_times 30 = .ok (.ifCond .ge 8, 3) := by decide +kernel
theorem dX12_times_33 : decode cX12_times 33 = .ok (.lload_n 1, 1) := by decide +kernel
theorem dX12_times_34 : decode cX12_times 34 = .ok (.lneg, 1) := by decide +kernel
theorem dX12_times_35 : decode cX12_times 35 = .ok (.goto 4, 3) := by decide +kernel
theorem dX12_times_38 : decode cX12_times 38 = .ok (.lload_n 1, 1) := by decide +kernel
theorem dX12_times_39 : decode cX12_times 39 = .ok (.ldiv, 1) := by decide +kernel
theorem dX12_times_40 : decode cX12_times 40 = .ok (.lcmp, 1) := by decide +kernel
theorem dX12_times_41 : decode cX12_times 41 = .ok (.ifCond .le 7, 3) := by decide +kernel
theorem dX12_times_44 : decode cX12_times 44 = .ok (.iconst 1, 1) := by decide +kernel
theorem dX12_times_45 : decode cX12_times 45 = .ok (.goto 4, 3) := by decide +kernel
theorem dX12_times_48 : decode cX12_times 48 = .ok (.iconst 0, 1) := by decide +kernel
theorem dX12_times_49 : decode cX12_times 49 = .ok (.istore 5, 2) := by decide +kernel
theorem dX12_times_51 : decode cX12_times 51 = .ok (.aload_n 0, 1) := by decide +kernel
theorem dX12_times_52 : decode cX12_times 52 = .ok (.aload_n 0, 1) := by decide +kernel
theorem dX12_times_53 : decode cX12_times 53 = .ok (.getfield 275, 3) := by decide +kernel
theorem dX12_times_56 : decode cX12_times 56 = .ok (.ifCond .ne 8, 3) := by decide +kernel
theorem dX12_times_59 : decode cX12_times 59 = .ok (.iload 5, 2) := by decide +kernel
theorem dX12_times_61 : decode cX12_times 61 = .ok (.ifCond .eq 7, 3) := by decide +kernel
theorem dX12_times_64 : decode cX12_times 64 = .ok (.iconst 1, 1) := by decide +kernel
theorem dX12_times_65 : decode cX12_times 65 = .ok (.goto 4, 3) := by decide +kernel
theorem dX12_times_68 : decode cX12_times 68 = .ok (.iconst 0, 1) := by decide +kernel
theorem dX12_times_69 : decode cX12_times 69 = .ok (.putfield 275, 3) := by decide +kernel
theorem dX12_times_72 : decode cX12_times 72 = .ok (.aload_n 0, 1) := by decide +kernel
theorem dX12_times_73 : decode cX12_times 73 = .ok (.getfield 275, 3) := by decide +kernel
theorem dX12_times_76 : decode cX12_times 76 = .ok (.ifCond .eq 7, 3) := by decide +kernel
theorem dX12_times_79 : decode cX12_times 79 = .ok (.lconst 0, 1) := by decide +kernel
theorem dX12_times_80 : decode cX12_times 80 = .ok (.goto 6, 3) := by decide +kernel
theorem dX12_times_83 : decode cX12_times 83 = .ok (.lload_n 1, 1) := by decide +kernel
theorem dX12_times_84 : decode cX12_times 84 = .ok (.lload_n 3, 1) := by decide +kernel
theorem dX12_times_85 : decode cX12_times 85 = .ok (.lmul, 1) := by decide +kernel
theorem dX12_times_86 : decode cX12_times 86 = .ok (.lreturn, 1) := by decide +kernel
theorem dX12_worthOf_0 : decode cX12_worthOf 0 = .ok (.aload_n 0, 1) := by decide +kernel
theorem dX12_worthOf_1 : decode cX12_worthOf 1 = .ok (.getfield 38, 3) := by decide +kernel
theorem dX12_worthOf_4 : decode cX12_worthOf 4 = .ok (.iload_n 1, 1) := by decide +kernel
theorem dX12_worthOf_5 : decode cX12_worthOf 5 = .ok (.iaload, 1) := by decide +kernel
theorem dX12_worthOf_6 : decode cX12_worthOf 6 = .ok (.ifCond .ne 11, 3) := by decide +kernel
theorem dX12_worthOf_9 : decode cX12_worthOf 9 = .ok (.aload_n 0, 1) := by decide +kernel
theorem dX12_worthOf_10 : decode cX12_worthOf 10 = .ok (.getfield 41, 3) := by decide +kernel
theorem dX12_worthOf_13 : decode cX12_worthOf 13 = .ok (.iload_n 1, 1) := by decide +kernel
theorem dX12_worthOf_14 : decode cX12_worthOf 14 = .ok (.iaload, 1) := by decide +kernel
theorem dX12_worthOf_15 : decode cX12_worthOf 15 = .ok (.i2l, 1) := by decide +kernel
theorem dX12_worthOf_16 : decode cX12_worthOf 16 = .ok (.lreturn, 1) := by decide +kernel
theorem dX12_worthOf_17 : decode cX12_worthOf 17 = .ok (.aload_n 0, 1) := by decide +kernel
theorem dX12_worthOf_18 : decode cX12_worthOf 18 = .ok (.getfield 38, 3) := by decide +kernel
theorem dX12_worthOf_21 : decode cX12_worthOf 21 = .ok (.iload_n 1, 1) := by decide +kernel
theorem dX12_worthOf_22 : decode cX12_worthOf 22 = .ok (.iaload, 1) := by decide +kernel
theorem dX12_worthOf_23 : decode cX12_worthOf 23 = .ok (.iconst 1, 1) := by decide +kernel
theorem dX12_worthOf_24 : decode cX12_worthOf 24 = .ok (.if_icmp .ne 15, 3) := by decide +kernel
theorem dX12_worthOf_27 : decode cX12_worthOf 27 = .ok (.aload_n 0, 1) := by decide +kernel
theorem dX12_worthOf_28 : decode cX12_worthOf 28 = .ok (.getfield 68, 3) := by decide +kernel
theorem dX12_worthOf_31 : decode cX12_worthOf 31 = .ok (.aload_n 0, 1) := by decide +kernel
theorem dX12_worthOf_32 : decode cX12_worthOf 32 = .ok (.getfield 41, 3) := by decide +kernel
theorem dX12_worthOf_35 : decode cX12_worthOf 35 = .ok (.iload_n 1, 1) := by decide +kernel
theorem dX12_worthOf_36 : decode cX12_worthOf 36 = .ok (.iaload, 1) := by decide +kernel
theorem dX12_worthOf_37 : decode cX12_worthOf 37 = .ok (.laload, 1) := by decide +kernel
theorem dX12_worthOf_38 : decode cX12_worthOf 38 = .ok (.lreturn, 1) := by decide +kernel
theorem dX12_worthOf_39 : decode cX12_worthOf 39 = .ok (.aload_n 0, 1) := by decide +kernel
theorem dX12_worthOf_40 : decode cX12_worthOf 40 = .ok (.getfield 72, 3) := by decide +kernel
theorem dX12_worthOf_43 : decode cX12_worthOf 43 = .ok (.aload_n 0, 1) := by decide +kernel
theorem dX12_worthOf_44 : decode cX12_worthOf 44 = .ok (.getfield 41, 3) := by decide +kernel
theorem dX12_worthOf_47 : decode cX12_worthOf 47 = .ok (.iload_n 1, 1) := by decide +kernel
theorem dX12_worthOf_48 : decode cX12_worthOf 48 = .ok (.iaload, 1) := by decide +kernel
theorem dX12_worthOf_49 : decode cX12_worthOf 49 = .ok (.laload, 1) := by decide +kernel
theorem dX12_worthOf_50 : decode cX12_worthOf 50 = .ok (.lstore_n 2, 1) := by decide +kernel
theorem dX12_worthOf_51 : decode cX12_worthOf 51 = .ok (.aload_n 0, 1) := by decide +kernel
theorem dX12_worthOf_52 : decode cX12_worthOf 52 = .ok (.getfield 38, 3) := by decide +kernel
theorem dX12_worthOf_55 : decode cX12_worthOf 55 = .ok (.iload_n 1, 1) := by decide +kernel
theorem dX12_worthOf_56 : decode cX12_worthOf 56 = .ok (.iaload, 1) := by decide +kernel
theorem dX12_worthOf_57 : decode cX12_worthOf 57 = .ok (.iconst 2, 1) := by decide +kernel
theorem dX12_worthOf_58 : decode cX12_worthOf 58 = .ok (.if_icmp .ne 15, 3) := by decide +kernel
theorem dX12_worthOf_61 : decode cX12_worthOf 61 = .ok (.lload_n 2, 1) := by decide +kernel
theorem dX12_worthOf_62 : decode cX12_worthOf 62 = .ok (.lconst 0, 1) := by decide +kernel
theorem dX12_worthOf_63 : decode cX12_worthOf 63 = .ok (.lcmp, 1) := by decide +kernel
theorem dX12_worthOf_64 : decode cX12_worthOf 64 = .ok (.ifCond .ne 7, 3) := by decide +kernel
theorem dX12_worthOf_67 : decode cX12_worthOf 67 = .ok (.lconst 1, 1) := by decide +kernel
theorem dX12_worthOf_68 : decode cX12_worthOf 68 = .ok (.goto 4, 3) := by decide +kernel
theorem dX12_worthOf_71 : decode cX12_worthOf 71 = .ok (.lconst 0, 1) := by decide +kernel
theorem dX12_worthOf_72 : decode cX12_worthOf 72 = .ok (.lreturn, 1) := by decide +kernel
theorem dX12_worthOf_73 : decode cX12_worthOf 73 = .ok (.aload_n 0, 1) := by decide +kernel
theorem dX12_worthOf_74 : decode cX12_worthOf 74 = .ok (.getfield 72, 3) := by decide +kernel
theorem dX12_worthOf_77 : decode cX12_worthOf 77 = .ok (.aload_n 0, 1) := by decide +kernel
theorem dX12_worthOf_78 : decode cX12_worthOf 78 = .ok (.getfield 44, 3) := by decide +kernel
theorem dX12_worthOf_81 : decode cX12_worthOf 81 = .ok (.iload_n 1, 1) := by decide +kernel
theorem dX12_worthOf_82 : decode cX12_worthOf 82 = .ok (.iaload, 1) := by decide +kernel
theorem dX12_worthOf_83 : decode cX12_worthOf 83 = .ok (.laload, 1) := by decide +kernel
theorem dX12_worthOf_84 : decode cX12_worthOf 84 = .ok (.lstore 4, 2) := by decide +kernel
theorem dX12_worthOf_86 : decode cX12_worthOf 86 = .ok (.aload_n 0, 1) := by decide +kernel
theorem dX12_worthOf_87 : decode cX12_worthOf 87 = .ok (.getfield 38, 3) := by decide +kernel
theorem dX12_worthOf_90 : decode cX12_worthOf 90 = .ok (.iload_n 1, 1) := by decide +kernel
theorem dX12_worthOf_91 : decode cX12_worthOf 91 = .ok (.iaload, 1) := by decide +kernel
theorem dX12_worthOf_92 : decode cX12_worthOf 92 = .ok (.tableswitch 167 3 14 #[64, 83, 167, 167, 167, 167, 167, 167, 102, 111, 120, 128], 64) := by decide +kernel
theorem dX12_worthOf_156 : decode cX12_worthOf 156 = .ok (.lload_n 2, 1) := by decide +kernel
theorem dX12_worthOf_157 : decode cX12_worthOf 157 = .ok (.lconst 0, 1) := by decide +kernel
theorem dX12_worthOf_158 : decode cX12_worthOf 158 = .ok (.lcmp, 1) := by decide +kernel
theorem dX12_worthOf_159 : decode cX12_worthOf 159 = .ok (.ifCond .eq 14, 3) := by decide +kernel
theorem dX12_worthOf_162 : decode cX12_worthOf 162 = .ok (.lload 4, 2) := by decide +kernel
theorem dX12_worthOf_164 : decode cX12_worthOf 164 = .ok (.lconst 0, 1) := by decide +kernel
theorem dX12_worthOf_165 : decode cX12_worthOf 165 = .ok (.lcmp, 1) := by decide +kernel
theorem dX12_worthOf_166 : decode cX12_worthOf 166 = .ok (.ifCond .eq 7, 3) := by decide +kernel
theorem dX12_worthOf_169 : decode cX12_worthOf 169 = .ok (.lconst 1, 1) := by decide +kernel
theorem dX12_worthOf_170 : decode cX12_worthOf 170 = .ok (.goto 4, 3) := by decide +kernel
theorem dX12_worthOf_173 : decode cX12_worthOf 173 = .ok (.lconst 0, 1) := by decide +kernel
theorem dX12_worthOf_174 : decode cX12_worthOf 174 = .ok (.lreturn, 1) := by decide +kernel
theorem dX12_worthOf_175 : decode cX12_worthOf 175 = .ok (.lload_n 2, 1) := by decide +kernel
theorem dX12_worthOf_176 : decode cX12_worthOf 176 = .ok (.lconst 0, 1) := by decide +kernel
theorem dX12_worthOf_177 : decode cX12_worthOf 177 = .ok (.lcmp, 1) := by decide +kernel
theorem dX12_worthOf_178 : decode cX12_worthOf 178 = .ok (.ifCond .ne 10, 3) := by decide +kernel
theorem dX12_worthOf_181 : decode cX12_worthOf 181 = .ok (.lload 4, 2) := by decide +kernel
theorem dX12_worthOf_183 : decode cX12_worthOf 183 = .ok (.lconst 0, 1) := by decide +kernel
theorem dX12_worthOf_184 : decode cX12_worthOf 184 = .ok (.lcmp, 1) := by decide +kernel
theorem dX12_worthOf_185 : decode cX12_worthOf 185 = .ok (.ifCond .eq 7, 3) := by decide +kernel
theorem dX12_worthOf_188 : decode cX12_worthOf 188 = .ok (.lconst 1, 1) := by decide +kernel
theorem dX12_worthOf_189 : decode cX12_worthOf 189 = .ok (.goto 4, 3) := by decide +kernel
theorem dX12_worthOf_192 : decode cX12_worthOf 192 = .ok (.lconst 0, 1) := by decide +kernel
theorem dX12_worthOf_193 : decode cX12_worthOf 193 = .ok (.lreturn, 1) := by decide +kernel
theorem dX12_worthOf_194 : decode cX12_worthOf 194 = .ok (.aload_n 0, 1) := by decide +kernel
theorem dX12_worthOf_195 : decode cX12_worthOf 195 = .ok (.lload_n 2, 1) := by decide +kernel
theorem dX12_worthOf_196 : decode cX12_worthOf 196 = .ok (.lload 4, 2) := by decide +kernel
theorem dX12_worthOf_198 : decode cX12_worthOf 198 = .ok (.ladd, 1) := by decide +kernel
theorem dX12_worthOf_199 : decode cX12_worthOf 199 = .ok (.invokevirtual 282, 3) := by decide +kernel
theorem dX12_worthOf_202 : decode cX12_worthOf 202 = .ok (.lreturn, 1) := by decide +kernel
theorem dX12_worthOf_203 : decode cX12_worthOf 203 = .ok (.aload_n 0, 1) := by decide +kernel
theorem dX12_worthOf_204 : decode cX12_worthOf 204 = .ok (.lload_n 2, 1) := by decide +kernel
theorem dX12_worthOf_205 : decode cX12_worthOf 205 = .ok (.lload 4, 2) := by decide +kernel
theorem dX12_worthOf_207 : decode cX12_worthOf 207 = .ok (.lsub, 1) := by decide +kernel
theorem dX12_worthOf_208 : decode cX12_worthOf 208 = .ok (.invokevirtual 282, 3) := by decide +kernel
theorem dX12_worthOf_211 : decode cX12_worthOf 211 = .ok (.lreturn, 1) := by decide +kernel
theorem dX12_worthOf_212 : decode cX12_worthOf 212 = .ok (.aload_n 0, 1) := by decide +kernel
theorem dX12_worthOf_213 : decode cX12_worthOf 213 = .ok (.lload_n 2, 1) := by decide +kernel
theorem dX12_worthOf_214 : decode cX12_worthOf 214 = .ok (.lload 4, 2) := by decide +kernel
theorem dX12_worthOf_216 : decode cX12_worthOf 216 = .ok (.invokevirtual 286, 3) := by decide +kernel
theorem dX12_worthOf_219 : decode cX12_worthOf 219 = .ok (.lreturn, 1) := by decide +kernel
theorem dX12_worthOf_220 : decode cX12_worthOf 220 = .ok (.aload_n 0, 1) := by decide +kernel
theorem dX12_worthOf_221 : decode cX12_worthOf 221 = .ok (.aload_n 0, 1) := by decide +kernel
theorem dX12_worthOf_222 : decode cX12_worthOf 222 = .ok (.getfield 275, 3) := by decide +kernel
theorem dX12_worthOf_225 : decode cX12_worthOf 225 = .ok (.ifCond .ne 10, 3) := by decide +kernel
theorem dX12_worthOf_228 : decode cX12_worthOf 228 = .ok (.lload 4, 2) := by decide +kernel
theorem dX12_worthOf_230 : decode cX12_worthOf 230 = .ok (.lconst 0, 1) := by decide +kernel
theorem dX12_worthOf_231 : decode cX12_worthOf 231 = .ok (.lcmp, 1) := by decide +kernel
theorem dX12_worthOf_232 : decode cX12_worthOf 232 = .ok (.ifCond .ne 7, 3) := by decide +kernel
theorem dX12_worthOf_235 : decode cX12_worthOf 235 = .ok (.iconst 1, 1) := by decide +kernel
theorem dX12_worthOf_236 : decode cX12_worthOf 236 = .ok (.goto 4, 3) := by decide +kernel
theorem dX12_worthOf_239 : decode cX12_worthOf 239 = .ok (.iconst 0, 1) := by decide +kernel
theorem dX12_worthOf_240 : decode cX12_worthOf 240 = .ok (.putfield 275, 3) := by decide +kernel
theorem dX12_worthOf_243 : decode cX12_worthOf 243 = .ok (.aload_n 0, 1) := by decide +kernel
theorem dX12_worthOf_244 : decode cX12_worthOf 244 = .ok (.getfield 275, 3) := by decide +kernel
theorem dX12_worthOf_247 : decode cX12_worthOf 247 = .ok (.ifCond .eq 7, 3) := by decide +kernel
theorem dX12_worthOf_250 : decode cX12_worthOf 250 = .ok (.lconst 0, 1) := by decide +kernel
theorem dX12_worthOf_251 : decode cX12_worthOf 251 = .ok (.goto 7, 3) := by decide +kernel
theorem dX12_worthOf_254 : decode cX12_worthOf 254 = .ok (.lload_n 2, 1) := by decide +kernel
theorem dX12_worthOf_255 : decode cX12_worthOf 255 = .ok (.lload 4, 2) := by decide +kernel
theorem dX12_worthOf_257 : decode cX12_worthOf 257 = .ok (.ldiv, 1) := by decide +kernel
theorem dX12_worthOf_258 : decode cX12_worthOf 258 = .ok (.lreturn, 1) := by decide +kernel
theorem dX12_worthOf_259 : decode cX12_worthOf 259 = .ok (.aload_n 0, 1) := by decide +kernel
theorem dX12_worthOf_260 : decode cX12_worthOf 260 = .ok (.getfield 38, 3) := by decide +kernel
theorem dX12_worthOf_263 : decode cX12_worthOf 263 = .ok (.iload_n 1, 1) := by decide +kernel
theorem dX12_worthOf_264 : decode cX12_worthOf 264 = .ok (.iaload, 1) := by decide +kernel
theorem dX12_worthOf_265 : decode cX12_worthOf 265 = .ok (.lload_n 2, 1) := by decide +kernel
theorem dX12_worthOf_266 : decode cX12_worthOf 266 = .ok (.lload 4, 2) := by decide +kernel
theorem dX12_worthOf_268 : decode cX12_worthOf 268 = .ok (.invokestatic 290, 3) := by decide +kernel
theorem dX12_worthOf_271 : decode cX12_worthOf 271 = .ok (.ifCond .eq 7, 3) := by decide +kernel
theorem dX12_worthOf_274 : decode cX12_worthOf 274 = .ok (.lconst 1, 1) := by decide +kernel
theorem dX12_worthOf_275 : decode cX12_worthOf 275 = .ok (.goto 4, 3) := by decide +kernel
theorem dX12_worthOf_278 : decode cX12_worthOf 278 = .ok (.lconst 0, 1) := by decide +kernel
theorem dX12_worthOf_279 : decode cX12_worthOf 279 = .ok (.lreturn, 1) := by decide +kernel
theorem dX12_sumOf_0 : decode cX12_sumOf 0 = .ok (.aload_n 0, 1) := by decide +kernel
theorem dX12_sumOf_1 : decode cX12_sumOf 1 = .ok (.iconst 0, 1) := by decide +kernel
theorem dX12_sumOf_2 : decode cX12_sumOf 2 = .ok (.putfield 275, 3) := by decide +kernel
theorem dX12_sumOf_5 : decode cX12_sumOf 5 = .ok (.iload_n 1, 1) := by decide +kernel
theorem dX12_sumOf_6 : decode cX12_sumOf 6 = .ok (.istore_n 3, 1) := by decide +kernel
theorem dX12_sumOf_7 : decode cX12_sumOf 7 = .ok (.iload_n 3, 1) := by decide +kernel
theorem dX12_sumOf_8 : decode cX12_sumOf 8 = .ok (.iload_n 2, 1) := by decide +kernel
theorem dX12_sumOf_9 : decode cX12_sumOf 9 = .ok (.if_icmp .ge 20, 3) := by decide +kernel
theorem dX12_sumOf_12 : decode cX12_sumOf 12 = .ok (.aload_n 0, 1) := by decide +kernel
theorem dX12_sumOf_13 : decode cX12_sumOf 13 = .ok (.getfield 72, 3) := by decide +kernel
theorem dX12_sumOf_16 : decode cX12_sumOf 16 = .ok (.iload_n 3, 1) := by decide +kernel
theorem dX12_sumOf_17 : decode cX12_sumOf 17 = .ok (.aload_n 0, 1) := by decide +kernel
theorem dX12_sumOf_18 : decode cX12_sumOf 18 = .ok (.iload_n 3, 1) := by decide +kernel
theorem dX12_sumOf_19 : decode cX12_sumOf 19 = .ok (.invokevirtual 294, 3) := by decide +kernel
theorem dX12_sumOf_22 : decode cX12_sumOf 22 = .ok (.lastore, 1) := by decide +kernel
theorem dX12_sumOf_23 : decode cX12_sumOf 23 = .ok (.iinc 3 1, 3) := by decide +kernel
theorem dX12_sumOf_26 : decode cX12_sumOf 26 = .ok (.goto (-19), 3) := by decide +kernel
theorem dX12_sumOf_29 : decode cX12_sumOf 29 = .ok (.aload_n 0, 1) := by decide +kernel
theorem dX12_sumOf_30 : decode cX12_sumOf 30 = .ok (.getfield 72, 3) := by decide +kernel
theorem dX12_sumOf_33 : decode cX12_sumOf 33 = .ok (.iload_n 2, 1) := by decide +kernel
theorem dX12_sumOf_34 : decode cX12_sumOf 34 = .ok (.iconst 1, 1) := by decide +kernel
theorem dX12_sumOf_35 : decode cX12_sumOf 35 = .ok (.isub, 1) := by decide +kernel
theorem dX12_sumOf_36 : decode cX12_sumOf 36 = .ok (.laload, 1) := by decide +kernel
theorem dX12_sumOf_37 : decode cX12_sumOf 37 = .ok (.lreturn, 1) := by decide +kernel
theorem dX12_lineNow_0 : decode cX12_lineNow 0 = .ok (.iconst 0, 1) := by decide +kernel
theorem dX12_lineNow_1 : decode cX12_lineNow 1 = .ok (.istore_n 1, 1) := by decide +kernel
theorem dX12_lineNow_2 : decode cX12_lineNow 2 = .ok (.iload_n 1, 1) := by decide +kernel
theorem dX12_lineNow_3 : decode cX12_lineNow 3 = .ok (.aload_n 0, 1) := by decide +kernel
theorem dX12_lineNow_4 : decode cX12_lineNow 4 = .ok (.getfield 269, 3) := by decide +kernel
theorem dX12_lineNow_7 : decode cX12_lineNow 7 = .ok (.if_icmp .ge 58, 3) := by decide +kernel
theorem dX12_lineNow_10 : decode cX12_lineNow 10 = .ok (.aload_n 0, 1) := by decide +kernel
theorem dX12_lineNow_11 : decode cX12_lineNow 11 = .ok (.getfield 50, 3) := by decide +kernel
theorem dX12_lineNow_14 : decode cX12_lineNow 14 = .ok (.iload_n 1, 1) := by decide +kernel
theorem dX12_lineNow_15 : decode cX12_lineNow 15 = .ok (.iaload, 1) := by decide +kernel
theorem dX12_lineNow_16 : decode cX12_lineNow 16 = .ok (.aload_n 0, 1) := by decide +kernel
theorem dX12_lineNow_17 : decode cX12_lineNow 17 = .ok (.getfield 47, 3) := by decide +kernel
theorem dX12_lineNow_20 : decode cX12_lineNow 20 = .ok (.iload_n 1, 1) := by decide +kernel
theorem dX12_lineNow_21 : decode cX12_lineNow 21 = .ok (.iaload, 1) := by decide +kernel
theorem dX12_lineNow_22 : decode cX12_lineNow 22 = .ok (.if_icmp .ne 5, 3) := by decide +kernel
theorem dX12_lineNow_25 : decode cX12_lineNow 25 = .ok (.iload_n 1, 1) := by decide +kernel
theorem dX12_lineNow_26 : decode cX12_lineNow 26 = .ok (.ireturn, 1) := by decide +kernel
theorem dX12_lineNow_27 : decode cX12_lineNow 27 = .ok (.aload_n 0, 1) := by decide +kernel
theorem dX12_lineNow_28 : decode cX12_lineNow 28 = .ok (.aload_n 0, 1) := by decide +kernel
theorem dX12_lineNow_29 : decode cX12_lineNow 29 = .ok (.getfield 47, 3) := by decide +kernel
theorem dX12_lineNow_32 : decode cX12_lineNow 32 = .ok (.iload_n 1, 1) := by decide +kernel
theorem dX12_lineNow_33 : decode cX12_lineNow 33 = .ok (.iaload, 1) := by decide +kernel
theorem dX12_lineNow_34 : decode cX12_lineNow 34 = .ok (.aload_n 0, 1) := by decide +kernel
theorem dX12_lineNow_35 : decode cX12_lineNow 35 = .ok (.getfield 50, 3) := by decide +kernel
theorem dX12_lineNow_38 : decode cX12_lineNow 38 = .ok (.iload_n 1, 1) := by decide +kernel
theorem dX12_lineNow_39 : decode cX12_lineNow 39 = .ok (.iaload, 1) := by decide +kernel
theorem dX12_lineNow_40 : decode cX12_lineNow 40 = .ok (.invokevirtual 298, 3) := by decide +kernel
theorem dX12_lineNow_43 : decode cX12_lineNow 43 = .ok (.lstore_n 2, 1) := by decide +kernel
theorem dX12_lineNow_44 : decode cX12_lineNow 44 = .ok (.aload_n 0, 1) := by decide +kernel
theorem dX12_lineNow_45 : decode cX12_lineNow 45 = .ok (.getfield 275, 3) := by decide +kernel
theorem dX12_lineNow_48 : decode cX12_lineNow 48 = .ok (.ifCond .ne 11, 3) := by decide +kernel
theorem dX12_lineNow_51 : decode cX12_lineNow 51 = .ok (.lload_n 2, 1) := by decide +kernel
theorem dX12_lineNow_52 : decode cX12_lineNow 52 = .ok (.lconst 0, 1) := by decide +kernel
theorem dX12_lineNow_53 : decode cX12_lineNow 53 = .ok (.lcmp, 1) := by decide +kernel
theorem dX12_lineNow_54 : decode cX12_lineNow 54 = .ok (.ifCond .eq 5, 3) := by decide +kernel
theorem dX12_lineNow_57 : decode cX12_lineNow 57 = .ok (.iload_n 1, 1) := by decide +kernel
theorem dX12_lineNow_58 : decode cX12_lineNow 58 = .ok (.ireturn, 1) := by decide +kernel
theorem dX12_lineNow_59 : decode cX12_lineNow 59 = .ok (.iinc 1 1, 3) := by decide +kernel
theorem dX12_lineNow_62 : decode cX12_lineNow 62 = .ok (.goto (-60), 3) := by decide +kernel
theorem dX12_lineNow_65 : decode cX12_lineNow 65 = .ok (.iconst (-1), 1) := by decide +kernel
theorem dX12_lineNow_66 : decode cX12_lineNow 66 = .ok (.ireturn, 1) := by decide +kernel
theorem dX12_breaks_0 : decode cX12_breaks 0 = .ok (.lload_n 3, 1) := by decide +kernel
theorem dX12_breaks_1 : decode cX12_breaks 1 = .ok (.iload_n 1, 1) := by decide +kernel
theorem dX12_breaks_2 : decode cX12_breaks 2 = .ok (.aload_n 0, 1) := by decide +kernel
theorem dX12_breaks_3 : decode cX12_breaks 3 = .ok (.getfield 17, 3) := by decide +kernel
theorem dX12_breaks_6 : decode cX12_breaks 6 = .ok (.iload_n 2, 1) := by decide +kernel
theorem dX12_breaks_7 : decode cX12_breaks 7 = .ok (.iaload, 1) := by decide +kernel
theorem dX12_breaks_8 : decode cX12_breaks 8 = .ok (.iadd, 1) := by decide +kernel
theorem dX12_breaks_9 : decode cX12_breaks 9 = .ok (.i2l, 1) := by decide +kernel
theorem dX12_breaks_10 : decode cX12_breaks 10 = .ok (.lcmp, 1) := by decide +kernel
theorem dX12_breaks_11 : decode cX12_breaks 11 = .ok (.ifCond .le 7, 3) := by decide +kernel
theorem dX12_breaks_14 : decode cX12_breaks 14 = .ok (.iconst 1, 1) := by decide +kernel
theorem dX12_breaks_15 : decode cX12_breaks 15 = .ok (.goto 4, 3) := by decide +kernel
theorem dX12_breaks_18 : decode cX12_breaks 18 = .ok (.iconst 0, 1) := by decide +kernel
theorem dX12_breaks_19 : decode cX12_breaks 19 = .ok (.ireturn, 1) := by decide +kernel
theorem dX12_runs_0 : decode cX12_runs 0 = .ok (.aload_n 0, 1) := by decide +kernel
theorem dX12_runs_1 : decode cX12_runs 1 = .ok (.getfield 68, 3) := by decide +kernel
theorem dX12_runs_4 : decode cX12_runs 4 = .ok (.iconst 0, 1) := by decide +kernel
theorem dX12_runs_5 : decode cX12_runs 5 = .ok (.lconst 0, 1) := by decide +kernel
theorem dX12_runs_6 : decode cX12_runs 6 = .ok (.lastore, 1) := by decide +kernel
theorem dX12_runs_7 : decode cX12_runs 7 = .ok (.aload_n 0, 1) := by decide +kernel
theorem dX12_runs_8 : decode cX12_runs 8 = .ok (.getfield 68, 3) := by decide +kernel
theorem dX12_runs_11 : decode cX12_runs 11 = .ok (.iconst 1, 1) := by decide +kernel
theorem dX12_runs_12 : decode cX12_runs 12 = .ok (.aload_n 0, 1) := by decide +kernel
theorem dX12_runs_13 : decode cX12_runs 13 = .ok (.getfield 13, 3) := by decide +kernel
theorem dX12_runs_16 : decode cX12_runs 16 = .ok (.i2l, 1) := by decide +kernel
theorem dX12_runs_17 : decode cX12_runs 17 = .ok (.lastore, 1) := by decide +kernel
theorem dX12_runs_18 : decode cX12_runs 18 = .ok (.iconst 3, 1) := by decide +kernel
theorem dX12_runs_19 : decode cX12_runs 19 = .ok (.istore_n 2, 1) := by decide +kernel
theorem dX12_runs_20 : decode cX12_runs 20 = .ok (.iload_n 2, 1) := by decide +kernel
theorem dX12_runs_21 : decode cX12_runs 21 = .ok (.bipush 6, 2) := by decide +kernel
theorem dX12_runs_23 : decode cX12_runs 23 = .ok (.if_icmp .ge 16, 3) := by decide +kernel
theorem dX12_runs_26 : decode cX12_runs 26 = .ok (.aload_n 0, 1) := by decide +kernel
theorem dX12_runs_27 : decode cX12_runs 27 = .ok (.getfield 68, 3) := by decide +kernel
theorem dX12_runs_30 : decode cX12_runs 30 = .ok (.iload_n 2, 1) := by decide +kernel
theorem dX12_runs_31 : decode cX12_runs 31 = .ok (.lconst 0, 1) := by decide +kernel
theorem dX12_runs_32 : decode cX12_runs 32 = .ok (.lastore, 1) := by decide +kernel
theorem dX12_runs_33 : decode cX12_runs 33 = .ok (.iinc 2 1, 3) := by decide +kernel
theorem dX12_runs_36 : decode cX12_runs 36 = .ok (.goto (-16), 3) := by decide +kernel
theorem dX12_runs_39 : decode cX12_runs 39 = .ok (.iconst 0, 1) := by decide +kernel
theorem dX12_runs_40 : decode cX12_runs 40 = .ok (.istore_n 2, 1) := by decide +kernel
theorem dX12_runs_41 : decode cX12_runs 41 = .ok (.iload_n 2, 1) := by decide +kernel
theorem dX12_runs_42 : decode cX12_runs 42 = .ok (.iconst 3, 1) := by decide +kernel
theorem dX12_runs_43 : decode cX12_runs 43 = .ok (.if_icmp .ge 25, 3) := by decide +kernel
theorem dX12_runs_46 : decode cX12_runs 46 = .ok (.aload_n 0, 1) := by decide +kernel
theorem dX12_runs_47 : decode cX12_runs 47 = .ok (.getfield 68, 3) := by decide +kernel
theorem dX12_runs_50 : decode cX12_runs 50 = .ok (.bipush 6, 2) := by decide +kernel
theorem dX12_runs_52 : decode cX12_runs 52 = .ok (.iload_n 2, 1) := by decide +kernel
theorem dX12_runs_53 : decode cX12_runs 53 = .ok (.iadd, 1) := by decide +kernel
theorem dX12_runs_54 : decode cX12_runs 54 = .ok (.aload_n 0, 1) := by decide +kernel
theorem dX12_runs_55 : decode cX12_runs 55 = .ok (.getfield 20, 3) := by decide +kernel
theorem dX12_runs_58 : decode cX12_runs 58 = .ok (.iload_n 2, 1) := by decide +kernel
theorem dX12_runs_59 : decode cX12_runs 59 = .ok (.iaload, 1) := by decide +kernel
theorem dX12_runs_60 : decode cX12_runs 60 = .ok (.i2l, 1) := by decide +kernel
theorem dX12_runs_61 : decode cX12_runs 61 = .ok (.lastore, 1) := by decide +kernel
theorem dX12_runs_62 : decode cX12_runs 62 = .ok (.iinc 2 1, 3) := by decide +kernel
theorem dX12_runs_65 : decode cX12_runs 65 = .ok (.goto (-24), 3) := by decide +kernel
theorem dX12_runs_68 : decode cX12_runs 68 = .ok (.aload_n 0, 1) := by decide +kernel
theorem dX12_runs_69 : decode cX12_runs 69 = .ok (.iconst 0, 1) := by decide +kernel
theorem dX12_runs_70 : decode cX12_runs 70 = .ok (.putfield 302, 3) := by decide +kernel
theorem dX12_runs_73 : decode cX12_runs 73 = .ok (.aload_n 0, 1) := by decide +kernel
theorem dX12_runs_74 : decode cX12_runs 74 = .ok (.iconst 0, 1) := by decide +kernel
theorem dX12_runs_75 : decode cX12_runs 75 = .ok (.putfield 305, 3) := by decide +kernel
theorem dX12_runs_78 : decode cX12_runs 78 = .ok (.aload_n 0, 1) := by decide +kernel
theorem dX12_runs_79 : decode cX12_runs 79 = .ok (.lconst 0, 1) := by decide +kernel
theorem dX12_runs_80 : decode cX12_runs 80 = .ok (.putfield 308, 3) := by decide +kernel
theorem dX12_runs_83 : decode cX12_runs 83 = .ok (.aload_n 0, 1) := by decide +kernel
theorem dX12_runs_84 : decode cX12_runs 84 = .ok (.ldc2_w 312, 3) := by decide +kernel
theorem dX12_runs_87 : decode cX12_runs 87 = .ok (.putfield 314, 3) := by decide +kernel
theorem dX12_runs_90 : decode cX12_runs 90 = .ok (.aload_n 0, 1) := by decide +kernel
theorem dX12_runs_91 : decode cX12_runs 91 = .ok (.iconst 3, 1) := by decide +kernel
theorem dX12_runs_92 : decode cX12_runs 92 = .ok (.putfield 317, 3) := by decide +kernel
theorem dX12_runs_95 : decode cX12_runs 95 = .ok (.aload_n 0, 1) := by decide +kernel
theorem dX12_runs_96 : decode cX12_runs 96 = .ok (.getfield 68, 3) := by decide +kernel
theorem dX12_runs_99 : decode cX12_runs 99 = .ok (.iconst 0, 1) := by decide +kernel
theorem dX12_runs_100 : decode cX12_runs 100 = .ok (.laload, 1) := by decide +kernel
theorem dX12_runs_101 : decode cX12_runs 101 = .ok (.aload_n 0, 1) := by decide +kernel
theorem dX12_runs_102 : decode cX12_runs 102 = .ok (.getfield 68, 3) := by decide +kernel
theorem dX12_runs_105 : decode cX12_runs 105 = .ok (.iconst 1, 1) := by decide +kernel
theorem dX12_runs_106 : decode cX12_runs 106 = .ok (.laload, 1) := by decide +kernel
theorem dX12_runs_107 : decode cX12_runs 107 = .ok (.lcmp, 1) := by decide +kernel
theorem dX12_runs_108 : decode cX12_runs 108 = .ok (.ifCond .ge 146, 3) := by decide +kernel
theorem dX12_runs_111 : decode cX12_runs 111 = .ok (.aload_n 0, 1) := by decide +kernel
theorem dX12_runs_112 : decode cX12_runs 112 = .ok (.getfield 68, 3) := by decide +kernel
theorem dX12_runs_115 : decode cX12_runs 115 = .ok (.iconst 2, 1) := by decide +kernel
theorem dX12_runs_116 : decode cX12_runs 116 = .ok (.aload_n 0, 1) := by decide +kernel
theorem dX12_runs_117 : decode cX12_runs 117 = .ok (.getfield 68, 3) := by decide +kernel
theorem dX12_runs_120 : decode cX12_runs 120 = .ok (.iconst 1, 1) := by decide +kernel
theorem dX12_runs_121 : decode cX12_runs 121 = .ok (.laload, 1) := by decide +kernel
theorem dX12_runs_122 : decode cX12_runs 122 = .ok (.aload_n 0, 1) := by decide +kernel
theorem dX12_runs_123 : decode cX12_runs 123 = .ok (.getfield 68, 3) := by decide +kernel
theorem dX12_runs_126 : decode cX12_runs 126 = .ok (.iconst 0, 1) := by decide +kernel
theorem dX12_runs_127 : decode cX12_runs 127 = .ok (.laload, 1) := by decide +kernel
theorem dX12_runs_128 : decode cX12_runs 128 = .ok (.lsub, 1) := by decide +kernel
theorem dX12_runs_129 : decode cX12_runs 129 = .ok (.lastore, 1) := by decide +kernel
theorem dX12_runs_130 : decode cX12_runs 130 = .ok (.aload_n 0, 1) := by decide +kernel
theorem dX12_runs_131 : decode cX12_runs 131 = .ok (.invokevirtual 320, 3) := by decide +kernel
theorem dX12_runs_134 : decode cX12_runs 134 = .ok (.istore_n 2, 1) := by decide +kernel
theorem dX12_runs_135 : decode cX12_runs 135 = .ok (.iload_n 2, 1) := by decide +kernel
theorem dX12_runs_136 : decode cX12_runs 136 = .ok (.ifCond .ge 4, 3) := by decide +kernel
theorem dX12_runs_139 : decode cX12_runs 139 = .ok (.return_, 1) := by decide +kernel
theorem dX12_runs_140 : decode cX12_runs 140 = .ok (.aload_n 0, 1) := by decide +kernel
theorem dX12_runs_141 : decode cX12_runs 141 = .ok (.aload_n 0, 1) := by decide +kernel
theorem dX12_runs_142 : decode cX12_runs 142 = .ok (.getfield 53, 3) := by decide +kernel
theorem dX12_runs_145 : decode cX12_runs 145 = .ok (.iload_n 2, 1) := by decide +kernel
theorem dX12_runs_146 : decode cX12_runs 146 = .ok (.iaload, 1) := by decide +kernel
theorem dX12_runs_147 : decode cX12_runs 147 = .ok (.aload_n 0, 1) := by decide +kernel
theorem dX12_runs_148 : decode cX12_runs 148 = .ok (.getfield 56, 3) := by decide +kernel
theorem dX12_runs_151 : decode cX12_runs 151 = .ok (.iload_n 2, 1) := by decide +kernel
theorem dX12_runs_152 : decode cX12_runs 152 = .ok (.iaload, 1) := by decide +kernel
theorem dX12_runs_153 : decode cX12_runs 153 = .ok (.invokevirtual 298, 3) := by decide +kernel
theorem dX12_runs_156 : decode cX12_runs 156 = .ok (.lstore_n 3, 1) := by decide +kernel
theorem dX12_runs_157 : decode cX12_runs 157 = .ok (.aload_n 0, 1) := by decide +kernel
theorem dX12_runs_158 : decode cX12_runs 158 = .ok (.getfield 275, 3) := by decide +kernel
theorem dX12_runs_161 : decode cX12_runs 161 = .ok (.ifCond .eq 4, 3) := by decide +kernel
theorem dX12_runs_164 : decode cX12_runs 164 = .ok (.return_, 1) := by decide +kernel
theorem dX12_runs_165 : decode cX12_runs 165 = .ok (.aload_n 0, 1) := by decide +kernel
theorem dX12_runs_166 : decode cX12_runs 166 = .ok (.getfield 59, 3) := by decide +kernel
theorem dX12_runs_169 : decode cX12_runs 169 = .ok (.iload_n 2, 1) := by decide +kernel
theorem dX12_runs_170 : decode cX12_runs 170 = .ok (.iaload, 1) := by decide +kernel
theorem dX12_runs_171 : decode cX12_runs 171 = .ok (.istore 5, 2) := by decide +kernel
theorem dX12_runs_173 : decode cX12_runs 173 = .ok (.iload 5, 2) := by decide +kernel
theorem dX12_runs_175 : decode cX12_runs 175 = .ok (.ifCond .ge 25, 3) := by decide +kernel
theorem dX12_runs_178 : decode cX12_runs 178 = .ok (.aload_n 0, 1) := by decide +kernel
theorem dX12_runs_179 : decode cX12_runs 179 = .ok (.lload_n 3, 1) := by decide +kernel
theorem dX12_runs_180 : decode cX12_runs 180 = .ok (.putfield 314, 3) := by decide +kernel
theorem dX12_runs_183 : decode cX12_runs 183 = .ok (.aload_n 0, 1) := by decide +kernel
theorem dX12_runs_184 : decode cX12_runs 184 = .ok (.lload_n 3, 1) := by decide +kernel
theorem dX12_runs_185 : decode cX12_runs 185 = .ok (.iload_n 1, 1) := by decide +kernel
theorem dX12_runs_186 : decode cX12_runs 186 = .ok (.i2l, 1) := by decide +kernel
theorem dX12_runs_187 : decode cX12_runs 187 = .ok (.lcmp, 1) := by decide +kernel
theorem dX12_runs_188 : decode cX12_runs 188 = .ok (.ifCond .ne 7, 3) := by decide +kernel
theorem dX12_runs_191 : decode cX12_runs 191 = .ok (.iconst 1, 1) := by decide +kernel
theorem dX12_runs_192 : decode cX12_runs 192 = .ok (.goto 4, 3) := by decide +kernel
theorem dX12_runs_195 : decode cX12_runs 195 = .ok (.iconst 2, 1) := by decide +kernel
theorem dX12_runs_196 : decode cX12_runs 196 = .ok (.putfield 317, 3) := by decide +kernel
theorem dX12_runs_199 : decode cX12_runs 199 = .ok (.return_, 1) := by decide +kernel
theorem dX12_runs_200 : decode cX12_runs 200 = .ok (.lload_n 3, 1) := by decide +kernel
theorem dX12_runs_201 : decode cX12_runs 201 = .ok (.lconst 1, 1) := by decide +kernel
theorem dX12_runs_202 : decode cX12_runs 202 = .ok (.lcmp, 1) := by decide +kernel
theorem dX12_runs_203 : decode cX12_runs 203 = .ok (.ifCond .lt 38, 3) := by decide +kernel
theorem dX12_runs_206 : decode cX12_runs 206 = .ok (.lload_n 3, 1) := by decide +kernel
theorem dX12_runs_207 : decode cX12_runs 207 = .ok (.aload_n 0, 1) := by decide +kernel
theorem dX12_runs_208 : decode cX12_runs 208 = .ok (.getfield 13, 3) := by decide +kernel
theorem dX12_runs_211 : decode cX12_runs 211 = .ok (.i2l, 1) := by decide +kernel
theorem dX12_runs_212 : decode cX12_runs 212 = .ok (.lcmp, 1) := by decide +kernel
theorem dX12_runs_213 : decode cX12_runs 213 = .ok (.ifCond .gt 28, 3) := by decide +kernel
theorem dX12_runs_216 : decode cX12_runs 216 = .ok (.aload_n 0, 1) := by decide +kernel
theorem dX12_runs_217 : decode cX12_runs 217 = .ok (.getfield 68, 3) := by decide +kernel
theorem dX12_runs_220 : decode cX12_runs 220 = .ok (.bipush 6, 2) := by decide +kernel
theorem dX12_runs_222 : decode cX12_runs 222 = .ok (.iload 5, 2) := by decide +kernel
theorem dX12_runs_224 : decode cX12_runs 224 = .ok (.iadd, 1) := by decide +kernel
theorem dX12_runs_225 : decode cX12_runs 225 = .ok (.laload, 1) := by decide +kernel
theorem dX12_runs_226 : decode cX12_runs 226 = .ok (.lconst 0, 1) := by decide +kernel
theorem dX12_runs_227 : decode cX12_runs 227 = .ok (.lcmp, 1) := by decide +kernel
theorem dX12_runs_228 : decode cX12_runs 228 = .ok (.ifCond .eq 13, 3) := by decide +kernel
theorem dX12_runs_231 : decode cX12_runs 231 = .ok (.aload_n 0, 1) := by decide +kernel
theorem dX12_runs_232 : decode cX12_runs 232 = .ok (.getfield 302, 3) := by decide +kernel
theorem dX12_runs_235 : decode cX12_runs 235 = .ok (.sipush 200, 3) := by decide +kernel
theorem dX12_runs_238 : decode cX12_runs 238 = .ok (.if_icmp .ne 4, 3) := by decide +kernel
theorem dX12_runs_241 : decode cX12_runs 241 = .ok (.return_, 1) := by decide +kernel
theorem dX12_runs_242 : decode cX12_runs 242 = .ok (.aload_n 0, 1) := by decide +kernel
theorem dX12_runs_243 : decode cX12_runs 243 = .ok (.iload_n 1, 1) := by decide +kernel
theorem dX12_runs_244 : decode cX12_runs 244 = .ok (.iload 5, 2) := by decide +kernel
theorem dX12_runs_246 : decode cX12_runs 246 = .ok (.lload_n 3, 1) := by decide +kernel
theorem dX12_runs_247 : decode cX12_runs 247 = .ok (.l2i, 1) := by decide +kernel
theorem dX12_runs_248 : decode cX12_runs 248 = .ok (.invokevirtual 323, 3) := by decide +kernel
theorem dX12_runs_251 : decode cX12_runs 251 = .ok (.goto (-156), 3) := by decide +kernel
theorem dX12_runs_254 : decode cX12_runs 254 = .ok (.aload_n 0, 1) := by decide +kernel
theorem dX12_runs_255 : decode cX12_runs 255 = .ok (.iload_n 1, 1) := by decide +kernel
theorem dX12_runs_256 : decode cX12_runs 256 = .ok (.i2l, 1) := by decide +kernel
theorem dX12_runs_257 : decode cX12_runs 257 = .ok (.putfield 314, 3) := by decide +kernel
theorem dX12_runs_260 : decode cX12_runs 260 = .ok (.aload_n 0, 1) := by decide +kernel
theorem dX12_runs_261 : decode cX12_runs 261 = .ok (.iconst 0, 1) := by decide +kernel
theorem dX12_runs_262 : decode cX12_runs 262 = .ok (.putfield 317, 3) := by decide +kernel
theorem dX12_runs_265 : decode cX12_runs 265 = .ok (.return_, 1) := by decide +kernel
theorem dX12_lets_0 : decode cX12_lets 0 = .ok (.aload_n 0, 1) := by decide +kernel
theorem dX12_lets_1 : decode cX12_lets 1 = .ok (.iload_n 1, 1) := by decide +kernel
theorem dX12_lets_2 : decode cX12_lets 2 = .ok (.iload_n 2, 1) := by decide +kernel
theorem dX12_lets_3 : decode cX12_lets 3 = .ok (.iload_n 3, 1) := by decide +kernel
theorem dX12_lets_4 : decode cX12_lets 4 = .ok (.i2l, 1) := by decide +kernel
theorem dX12_lets_5 : decode cX12_lets 5 = .ok (.invokevirtual 326, 3) := by decide +kernel
theorem dX12_lets_8 : decode cX12_lets 8 = .ok (.istore 4, 2) := by decide +kernel
theorem dX12_lets_10 : decode cX12_lets 10 = .ok (.aload_n 0, 1) := by decide +kernel
theorem dX12_lets_11 : decode cX12_lets 11 = .ok (.getfield 75, 3) := by decide +kernel
theorem dX12_lets_14 : decode cX12_lets 14 = .ok (.aload_n 0, 1) := by decide +kernel
theorem dX12_lets_15 : decode cX12_lets 15 = .ok (.getfield 302, 3) := by decide +kernel
theorem dX12_lets_18 : decode cX12_lets 18 = .ok (.iload_n 2, 1) := by decide +kernel
theorem dX12_lets_19 : decode cX12_lets 19 = .ok (.iastore, 1) := by decide +kernel
theorem dX12_lets_20 : decode cX12_lets 20 = .ok (.aload_n 0, 1) := by decide +kernel
theorem dX12_lets_21 : decode cX12_lets 21 = .ok (.getfield 78, 3) := by decide +kernel
theorem dX12_lets_24 : decode cX12_lets 24 = .ok (.aload_n 0, 1) := by decide +kernel
theorem dX12_lets_25 : decode cX12_lets 25 = .ok (.getfield 302, 3) := by decide +kernel
theorem dX12_lets_28 : decode cX12_lets 28 = .ok (.iload_n 3, 1) := by decide +kernel
theorem dX12_lets_29 : decode cX12_lets 29 = .ok (.iastore, 1) := by decide +kernel
theorem dX12_lets_30 : decode cX12_lets 30 = .ok (.aload_n 0, 1) := by decide +kernel
theorem dX12_lets_31 : decode cX12_lets 31 = .ok (.getfield 81, 3) := by decide +kernel
theorem dX12_lets_34 : decode cX12_lets 34 = .ok (.aload_n 0, 1) := by decide +kernel
theorem dX12_lets_35 : decode cX12_lets 35 = .ok (.getfield 302, 3) := by decide +kernel
theorem dX12_lets_38 : decode cX12_lets 38 = .ok (.iload 4, 2) := by decide +kernel
theorem dX12_lets_40 : decode cX12_lets 40 = .ok (.ifCond .eq 7, 3) := by decide +kernel
theorem dX12_lets_43 : decode cX12_lets 43 = .ok (.iconst 1, 1) := by decide +kernel
theorem dX12_lets_44 : decode cX12_lets 44 = .ok (.goto 4, 3) := by decide +kernel
theorem dX12_lets_47 : decode cX12_lets 47 = .ok (.iconst 0, 1) := by decide +kernel
theorem dX12_lets_48 : decode cX12_lets 48 = .ok (.iastore, 1) := by decide +kernel
theorem dX12_lets_49 : decode cX12_lets 49 = .ok (.aload_n 0, 1) := by decide +kernel
theorem dX12_lets_50 : decode cX12_lets 50 = .ok (.dup, 1) := by decide +kernel
theorem dX12_lets_51 : decode cX12_lets 51 = .ok (.getfield 302, 3) := by decide +kernel
theorem dX12_lets_54 : decode cX12_lets 54 = .ok (.iconst 1, 1) := by decide +kernel
theorem dX12_lets_55 : decode cX12_lets 55 = .ok (.iadd, 1) := by decide +kernel
theorem dX12_lets_56 : decode cX12_lets 56 = .ok (.putfield 302, 3) := by decide +kernel
theorem dX12_lets_59 : decode cX12_lets 59 = .ok (.aload_n 0, 1) := by decide +kernel
theorem dX12_lets_60 : decode cX12_lets 60 = .ok (.dup, 1) := by decide +kernel
theorem dX12_lets_61 : decode cX12_lets 61 = .ok (.getfield 308, 3) := by decide +kernel
theorem dX12_lets_64 : decode cX12_lets 64 = .ok (.aload_n 0, 1) := by decide +kernel
theorem dX12_lets_65 : decode cX12_lets 65 = .ok (.getfield 29, 3) := by decide +kernel
theorem dX12_lets_68 : decode cX12_lets 68 = .ok (.aload_n 0, 1) := by decide +kernel
theorem dX12_lets_69 : decode cX12_lets 69 = .ok (.getfield 148, 3) := by decide +kernel
theorem dX12_lets_72 : decode cX12_lets 72 = .ok (.iload_n 3, 1) := by decide +kernel
theorem dX12_lets_73 : decode cX12_lets 73 = .ok (.imul, 1) := by decide +kernel
theorem dX12_lets_74 : decode cX12_lets 74 = .ok (.iadd, 1) := by decide +kernel
theorem dX12_lets_75 : decode cX12_lets 75 = .ok (.iload 4, 2) := by decide +kernel
theorem dX12_lets_77 : decode cX12_lets 77 = .ok (.ifCond .eq 12, 3) := by decide +kernel
theorem dX12_lets_80 : decode cX12_lets 80 = .ok (.aload_n 0, 1) := by decide +kernel
theorem dX12_lets_81 : decode cX12_lets 81 = .ok (.getfield 23, 3) := by decide +kernel
theorem dX12_lets_84 : decode cX12_lets 84 = .ok (.iload_n 2, 1) := by decide +kernel
theorem dX12_lets_85 : decode cX12_lets 85 = .ok (.iaload, 1) := by decide +kernel
theorem dX12_lets_86 : decode cX12_lets 86 = .ok (.goto 4, 3) := by decide +kernel
theorem dX12_lets_89 : decode cX12_lets 89 = .ok (.iconst 0, 1) := by decide +kernel
theorem dX12_lets_90 : decode cX12_lets 90 = .ok (.iadd, 1) := by decide +kernel
theorem dX12_lets_91 : decode cX12_lets 91 = .ok (.i2l, 1) := by decide +kernel
theorem dX12_lets_92 : decode cX12_lets 92 = .ok (.ladd, 1) := by decide +kernel
theorem dX12_lets_93 : decode cX12_lets 93 = .ok (.putfield 308, 3) := by decide +kernel
theorem dX12_lets_96 : decode cX12_lets 96 = .ok (.iload_n 3, 1) := by decide +kernel
theorem dX12_lets_97 : decode cX12_lets 97 = .ok (.aload_n 0, 1) := by decide +kernel
theorem dX12_lets_98 : decode cX12_lets 98 = .ok (.getfield 17, 3) := by decide +kernel
theorem dX12_lets_101 : decode cX12_lets 101 = .ok (.iload_n 2, 1) := by decide +kernel
theorem dX12_lets_102 : decode cX12_lets 102 = .ok (.iaload, 1) := by decide +kernel
theorem dX12_lets_103 : decode cX12_lets 103 = .ok (.isub, 1) := by decide +kernel
theorem dX12_lets_104 : decode cX12_lets 104 = .ok (.i2l, 1) := by decide +kernel
theorem dX12_lets_105 : decode cX12_lets 105 = .ok (.lstore 5, 2) := by decide +kernel
theorem dX12_lets_107 : decode cX12_lets 107 = .ok (.iload 4, 2) := by decide +kernel
theorem dX12_lets_109 : decode cX12_lets 109 = .ok (.ifCond .eq 62, 3) := by decide +kernel
theorem dX12_lets_112 : decode cX12_lets 112 = .ok (.aload_n 0, 1) := by decide +kernel
theorem dX12_lets_113 : decode cX12_lets 113 = .ok (.dup, 1) := by decide +kernel
theorem dX12_lets_114 : decode cX12_lets 114 = .ok (.getfield 305, 3) := by decide +kernel
theorem dX12_lets_117 : decode cX12_lets 117 = .ok (.iconst 1, 1) := by decide +kernel
theorem dX12_lets_118 : decode cX12_lets 118 = .ok (.iadd, 1) := by decide +kernel
theorem dX12_lets_119 : decode cX12_lets 119 = .ok (.putfield 305, 3) := by decide +kernel
theorem dX12_lets_122 : decode cX12_lets 122 = .ok (.aload_n 0, 1) := by decide +kernel
theorem dX12_lets_123 : decode cX12_lets 123 = .ok (.getfield 68, 3) := by decide +kernel
theorem dX12_lets_126 : decode cX12_lets 126 = .ok (.bipush 6, 2) := by decide +kernel
theorem dX12_lets_128 : decode cX12_lets 128 = .ok (.iload_n 2, 1) := by decide +kernel
theorem dX12_lets_129 : decode cX12_lets 129 = .ok (.iadd, 1) := by decide +kernel
theorem dX12_lets_130 : decode cX12_lets 130 = .ok (.dup2, 1) := by decide +kernel
theorem dX12_lets_131 : decode cX12_lets 131 = .ok (.laload, 1) := by decide +kernel
theorem dX12_lets_132 : decode cX12_lets 132 = .ok (.lconst 1, 1) := by decide +kernel
theorem dX12_lets_133 : decode cX12_lets 133 = .ok (.lsub, 1) := by decide +kernel
theorem dX12_lets_134 : decode cX12_lets 134 = .ok (.lastore, 1) := by decide +kernel
theorem dX12_lets_135 : decode cX12_lets 135 = .ok (.aload_n 0, 1) := by decide +kernel
theorem dX12_lets_136 : decode cX12_lets 136 = .ok (.getfield 68, 3) := by decide +kernel
theorem dX12_lets_139 : decode cX12_lets 139 = .ok (.iconst 1, 1) := by decide +kernel
theorem dX12_lets_140 : decode cX12_lets 140 = .ok (.lload 5, 2) := by decide +kernel
theorem dX12_lets_142 : decode cX12_lets 142 = .ok (.lconst 1, 1) := by decide +kernel
theorem dX12_lets_143 : decode cX12_lets 143 = .ok (.lsub, 1) := by decide +kernel
theorem dX12_lets_144 : decode cX12_lets 144 = .ok (.aload_n 0, 1) := by decide +kernel
theorem dX12_lets_145 : decode cX12_lets 145 = .ok (.getfield 68, 3) := by decide +kernel
theorem dX12_lets_148 : decode cX12_lets 148 = .ok (.iconst 1, 1) := by decide +kernel
theorem dX12_lets_149 : decode cX12_lets 149 = .ok (.laload, 1) := by decide +kernel
theorem dX12_lets_150 : decode cX12_lets 150 = .ok (.lcmp, 1) := by decide +kernel
theorem dX12_lets_151 : decode cX12_lets 151 = .ok (.ifCond .ge 10, 3) := by decide +kernel
theorem dX12_lets_154 : decode cX12_lets 154 = .ok (.lload 5, 2) := by decide +kernel
theorem dX12_lets_156 : decode cX12_lets 156 = .ok (.lconst 1, 1) := by decide +kernel
theorem dX12_lets_157 : decode cX12_lets 157 = .ok (.lsub, 1) := by decide +kernel
theorem dX12_lets_158 : decode cX12_lets 158 = .ok (.goto 9, 3) := by decide +kernel
theorem dX12_lets_161 : decode cX12_lets 161 = .ok (.aload_n 0, 1) := by decide +kernel
theorem dX12_lets_162 : decode cX12_lets 162 = .ok (.getfield 68, 3) := by decide +kernel
theorem dX12_lets_165 : decode cX12_lets 165 = .ok (.iconst 1, 1) := by decide +kernel
theorem dX12_lets_166 : decode cX12_lets 166 = .ok (.laload, 1) := by decide +kernel
theorem dX12_lets_167 : decode cX12_lets 167 = .ok (.lastore, 1) := by decide +kernel
theorem dX12_lets_168 : decode cX12_lets 168 = .ok (.goto 32, 3) := by decide +kernel
theorem dX12_lets_171 : decode cX12_lets 171 = .ok (.aload_n 0, 1) := by decide +kernel
theorem dX12_lets_172 : decode cX12_lets 172 = .ok (.getfield 68, 3) := by decide +kernel
theorem dX12_lets_175 : decode cX12_lets 175 = .ok (.iconst 0, 1) := by decide +kernel
theorem dX12_lets_176 : decode cX12_lets 176 = .ok (.lload 5, 2) := by decide +kernel
theorem dX12_lets_178 : decode cX12_lets 178 = .ok (.aload_n 0, 1) := by decide +kernel
theorem dX12_lets_179 : decode cX12_lets 179 = .ok (.getfield 68, 3) := by decide +kernel
theorem dX12_lets_182 : decode cX12_lets 182 = .ok (.iconst 0, 1) := by decide +kernel
theorem dX12_lets_183 : decode cX12_lets 183 = .ok (.laload, 1) := by decide +kernel
theorem dX12_lets_184 : decode cX12_lets 184 = .ok (.lcmp, 1) := by decide +kernel
theorem dX12_lets_185 : decode cX12_lets 185 = .ok (.ifCond .le 8, 3) := by decide +kernel
theorem dX12_lets_188 : decode cX12_lets 188 = .ok (.lload 5, 2) := by decide +kernel
theorem dX12_lets_190 : decode cX12_lets 190 = .ok (.goto 9, 3) := by decide +kernel
theorem dX12_lets_193 : decode cX12_lets 193 = .ok (.aload_n 0, 1) := by decide +kernel
theorem dX12_lets_194 : decode cX12_lets 194 = .ok (.getfield 68, 3) := by decide +kernel
theorem dX12_lets_197 : decode cX12_lets 197 = .ok (.iconst 0, 1) := by decide +kernel
theorem dX12_lets_198 : decode cX12_lets 198 = .ok (.laload, 1) := by decide +kernel
theorem dX12_lets_199 : decode cX12_lets 199 = .ok (.lastore, 1) := by decide +kernel
theorem dX12_lets_200 : decode cX12_lets 200 = .ok (.aload_n 0, 1) := by decide +kernel
theorem dX12_lets_201 : decode cX12_lets 201 = .ok (.getfield 68, 3) := by decide +kernel
theorem dX12_lets_204 : decode cX12_lets 204 = .ok (.iconst 3, 1) := by decide +kernel
theorem dX12_lets_205 : decode cX12_lets 205 = .ok (.aload_n 0, 1) := by decide +kernel
theorem dX12_lets_206 : decode cX12_lets 206 = .ok (.getfield 302, 3) := by decide +kernel
theorem dX12_lets_209 : decode cX12_lets 209 = .ok (.i2l, 1) := by decide +kernel
theorem dX12_lets_210 : decode cX12_lets 210 = .ok (.lastore, 1) := by decide +kernel
theorem dX12_lets_211 : decode cX12_lets 211 = .ok (.aload_n 0, 1) := by decide +kernel
theorem dX12_lets_212 : decode cX12_lets 212 = .ok (.getfield 68, 3) := by decide +kernel
theorem dX12_lets_215 : decode cX12_lets 215 = .ok (.iconst 4, 1) := by decide +kernel
theorem dX12_lets_216 : decode cX12_lets 216 = .ok (.iload_n 3, 1) := by decide +kernel
theorem dX12_lets_217 : decode cX12_lets 217 = .ok (.i2l, 1) := by decide +kernel
theorem dX12_lets_218 : decode cX12_lets 218 = .ok (.lastore, 1) := by decide +kernel
theorem dX12_lets_219 : decode cX12_lets 219 = .ok (.aload_n 0, 1) := by decide +kernel
theorem dX12_lets_220 : decode cX12_lets 220 = .ok (.getfield 68, 3) := by decide +kernel
theorem dX12_lets_223 : decode cX12_lets 223 = .ok (.iconst 5, 1) := by decide +kernel
theorem dX12_lets_224 : decode cX12_lets 224 = .ok (.iload 4, 2) := by decide +kernel
theorem dX12_lets_226 : decode cX12_lets 226 = .ok (.ifCond .eq 7, 3) := by decide +kernel
theorem dX12_lets_229 : decode cX12_lets 229 = .ok (.lconst 1, 1) := by decide +kernel
theorem dX12_lets_230 : decode cX12_lets 230 = .ok (.goto 4, 3) := by decide +kernel
theorem dX12_lets_233 : decode cX12_lets 233 = .ok (.lconst 0, 1) := by decide +kernel
theorem dX12_lets_234 : decode cX12_lets 234 = .ok (.lastore, 1) := by decide +kernel
theorem dX12_lets_235 : decode cX12_lets 235 = .ok (.return_, 1) := by decide +kernel
theorem dX12_tried_0 : decode cX12_tried 0 = .ok (.aload_n 0, 1) := by decide +kernel
theorem dX12_tried_1 : decode cX12_tried 1 = .ok (.iconst 0, 1) := by decide +kernel
theorem dX12_tried_2 : decode cX12_tried 2 = .ok (.putfield 127, 3) := by decide +kernel
theorem dX12_tried_5 : decode cX12_tried 5 = .ok (.aload_n 0, 1) := by decide +kernel
theorem dX12_tried_6 : decode cX12_tried 6 = .ok (.getfield 266, 3) := by decide +kernel
theorem dX12_tried_9 : decode cX12_tried 9 = .ok (.ifCond .ne 7, 3) := by decide +kernel
theorem dX12_tried_12 : decode cX12_tried 12 = .ok (.ldc2_w 330, 3) := by decide +kernel
theorem dX12_tried_15 : decode cX12_tried 15 = .ok (.lreturn, 1) := by decide +kernel
theorem dX12_tried_16 : decode cX12_tried 16 = .ok (.aload_n 0, 1) := by decide +kernel
theorem dX12_tried_17 : decode cX12_tried 17 = .ok (.iload_n 1, 1) := by decide +kernel
theorem dX12_tried_18 : decode cX12_tried 18 = .ok (.invokevirtual 151, 3) := by decide +kernel
theorem dX12_tried_21 : decode cX12_tried 21 = .ok (.ifCond .eq 12, 3) := by decide +kernel
theorem dX12_tried_24 : decode cX12_tried 24 = .ok (.iload_n 2, 1) := by decide +kernel
theorem dX12_tried_25 : decode cX12_tried 25 = .ok (.iconst 0, 1) := by decide +kernel
theorem dX12_tried_26 : decode cX12_tried 26 = .ok (.iconst 4, 1) := by decide +kernel
theorem dX12_tried_27 : decode cX12_tried 27 = .ok (.invokestatic 133, 3) := by decide +kernel
theorem dX12_tried_30 : decode cX12_tried 30 = .ok (.ifCond .ne 7, 3) := by decide +kernel
theorem dX12_tried_33 : decode cX12_tried 33 = .ok (.ldc2_w 312, 3) := by decide +kernel
theorem dX12_tried_36 : decode cX12_tried 36 = .ok (.lreturn, 1) := by decide +kernel
theorem dX12_tried_37 : decode cX12_tried 37 = .ok (.aload_n 0, 1) := by decide +kernel
theorem dX12_tried_38 : decode cX12_tried 38 = .ok (.iload_n 1, 1) := by decide +kernel
theorem dX12_tried_39 : decode cX12_tried 39 = .ok (.invokevirtual 332, 3) := by decide +kernel
theorem dX12_tried_42 : decode cX12_tried 42 = .ok (.iload_n 2, 1) := by decide +kernel
theorem dX12_tried_43 : decode cX12_tried 43 = .ok (.ifCond .ne 11, 3) := by decide +kernel
theorem dX12_tried_46 : decode cX12_tried 46 = .ok (.aload_n 0, 1) := by decide +kernel
theorem dX12_tried_47 : decode cX12_tried 47 = .ok (.getfield 317, 3) := by decide +kernel
theorem dX12_tried_50 : decode cX12_tried 50 = .ok (.i2l, 1) := by decide +kernel
theorem dX12_tried_51 : decode cX12_tried 51 = .ok (.goto 45, 3) := by decide +kernel
theorem dX12_tried_54 : decode cX12_tried 54 = .ok (.iload_n 2, 1) := by decide +kernel
theorem dX12_tried_55 : decode cX12_tried 55 = .ok (.iconst 1, 1) := by decide +kernel
theorem dX12_tried_56 : decode cX12_tried 56 = .ok (.if_icmp .ne 11, 3) := by decide +kernel
theorem dX12_tried_59 : decode cX12_tried 59 = .ok (.aload_n 0, 1) := by decide +kernel
theorem dX12_tried_60 : decode cX12_tried 60 = .ok (.getfield 302, 3) := by decide +kernel
theorem dX12_tried_63 : decode cX12_tried 63 = .ok (.i2l, 1) := by decide +kernel
theorem dX12_tried_64 : decode cX12_tried 64 = .ok (.goto 32, 3) := by decide +kernel
theorem dX12_tried_67 : decode cX12_tried 67 = .ok (.iload_n 2, 1) := by decide +kernel
theorem dX12_tried_68 : decode cX12_tried 68 = .ok (.iconst 2, 1) := by decide +kernel
theorem dX12_tried_69 : decode cX12_tried 69 = .ok (.if_icmp .ne 11, 3) := by decide +kernel
theorem dX12_tried_72 : decode cX12_tried 72 = .ok (.aload_n 0, 1) := by decide +kernel
theorem dX12_tried_73 : decode cX12_tried 73 = .ok (.getfield 305, 3) := by decide +kernel
theorem dX12_tried_76 : decode cX12_tried 76 = .ok (.i2l, 1) := by decide +kernel
theorem dX12_tried_77 : decode cX12_tried 77 = .ok (.goto 19, 3) := by decide +kernel
theorem dX12_tried_80 : decode cX12_tried 80 = .ok (.iload_n 2, 1) := by decide +kernel
theorem dX12_tried_81 : decode cX12_tried 81 = .ok (.iconst 3, 1) := by decide +kernel
theorem dX12_tried_82 : decode cX12_tried 82 = .ok (.if_icmp .ne 10, 3) := by decide +kernel
theorem dX12_tried_85 : decode cX12_tried 85 = .ok (.aload_n 0, 1) := by decide +kernel
theorem dX12_tried_86 : decode cX12_tried 86 = .ok (.getfield 308, 3) := by decide +kernel
theorem dX12_tried_89 : decode cX12_tried 89 = .ok (.goto 7, 3) := by decide +kernel
theorem dX12_tried_92 : decode cX12_tried 92 = .ok (.aload_n 0, 1) := by decide +kernel
theorem dX12_tried_93 : decode cX12_tried 93 = .ok (.getfield 314, 3) := by decide +kernel
theorem dX12_tried_96 : decode cX12_tried 96 = .ok (.lreturn, 1) := by decide +kernel
theorem dX12_fall_0 : decode cX12_fall 0 = .ok (.aload_n 0, 1) := by decide +kernel
theorem dX12_fall_1 : decode cX12_fall 1 = .ok (.iconst 0, 1) := by decide +kernel
theorem dX12_fall_2 : decode cX12_fall 2 = .ok (.putfield 127, 3) := by decide +kernel
theorem dX12_fall_5 : decode cX12_fall 5 = .ok (.aload_n 0, 1) := by decide +kernel
theorem dX12_fall_6 : decode cX12_fall 6 = .ok (.getfield 266, 3) := by decide +kernel
theorem dX12_fall_9 : decode cX12_fall 9 = .ok (.ifCond .ne 6, 3) := by decide +kernel
theorem dX12_fall_12 : decode cX12_fall 12 = .ok (.bipush (-2), 2) := by decide +kernel
theorem dX12_fall_14 : decode cX12_fall 14 = .ok (.ireturn, 1) := by decide +kernel
theorem dX12_fall_15 : decode cX12_fall 15 = .ok (.aload_n 0, 1) := by decide +kernel
theorem dX12_fall_16 : decode cX12_fall 16 = .ok (.iload_n 1, 1) := by decide +kernel
theorem dX12_fall_17 : decode cX12_fall 17 = .ok (.invokevirtual 151, 3) := by decide +kernel
theorem dX12_fall_20 : decode cX12_fall 20 = .ok (.ifCond .eq 12, 3) := by decide +kernel
theorem dX12_fall_23 : decode cX12_fall 23 = .ok (.iload_n 3, 1) := by decide +kernel
theorem dX12_fall_24 : decode cX12_fall 24 = .ok (.iconst 0, 1) := by decide +kernel
theorem dX12_fall_25 : decode cX12_fall 25 = .ok (.iconst 2, 1) := by decide +kernel
theorem dX12_fall_26 : decode cX12_fall 26 = .ok (.invokestatic 133, 3) := by decide +kernel
theorem dX12_fall_29 : decode cX12_fall 29 = .ok (.ifCond .ne 5, 3) := by decide +kernel
theorem dX12_fall_32 : decode cX12_fall 32 = .ok (.iconst (-1), 1) := by decide +kernel
theorem dX12_fall_33 : decode cX12_fall 33 = .ok (.ireturn, 1) := by decide +kernel
theorem dX12_fall_34 : decode cX12_fall 34 = .ok (.aload_n 0, 1) := by decide +kernel
theorem dX12_fall_35 : decode cX12_fall 35 = .ok (.iload_n 1, 1) := by decide +kernel
theorem dX12_fall_36 : decode cX12_fall 36 = .ok (.invokevirtual 332, 3) := by decide +kernel
theorem dX12_fall_39 : decode cX12_fall 39 = .ok (.iload_n 2, 1) := by decide +kernel
theorem dX12_fall_40 : decode cX12_fall 40 = .ok (.ifCond .lt 11, 3) := by decide +kernel
theorem dX12_fall_43 : decode cX12_fall 43 = .ok (.iload_n 2, 1) := by decide +kernel
theorem dX12_fall_44 : decode cX12_fall 44 = .ok (.aload_n 0, 1) := by decide +kernel
theorem dX12_fall_45 : decode cX12_fall 45 = .ok (.getfield 302, 3) := by decide +kernel
theorem dX12_fall_48 : decode cX12_fall 48 = .ok (.if_icmp .lt 5, 3) := by decide +kernel
theorem dX12_fall_51 : decode cX12_fall 51 = .ok (.iconst (-1), 1) := by decide +kernel
theorem dX12_fall_52 : decode cX12_fall 52 = .ok (.ireturn, 1) := by decide +kernel
theorem dX12_fall_53 : decode cX12_fall 53 = .ok (.iload_n 3, 1) := by decide +kernel
theorem dX12_fall_54 : decode cX12_fall 54 = .ok (.ifCond .ne 12, 3) := by decide +kernel
theorem dX12_fall_57 : decode cX12_fall 57 = .ok (.aload_n 0, 1) := by decide +kernel
theorem dX12_fall_58 : decode cX12_fall 58 = .ok (.getfield 75, 3) := by decide +kernel
theorem dX12_fall_61 : decode cX12_fall 61 = .ok (.iload_n 2, 1) := by decide +kernel
theorem dX12_fall_62 : decode cX12_fall 62 = .ok (.iaload, 1) := by decide +kernel
theorem dX12_fall_63 : decode cX12_fall 63 = .ok (.goto 23, 3) := by decide +kernel
theorem dX12_fall_66 : decode cX12_fall 66 = .ok (.iload_n 3, 1) := by decide +kernel
theorem dX12_fall_67 : decode cX12_fall 67 = .ok (.iconst 1, 1) := by decide +kernel
theorem dX12_fall_68 : decode cX12_fall 68 = .ok (.if_icmp .ne 12, 3) := by decide +kernel
theorem dX12_fall_71 : decode cX12_fall 71 = .ok (.aload_n 0, 1) := by decide +kernel
theorem dX12_fall_72 : decode cX12_fall 72 = .ok (.getfield 78, 3) := by decide +kernel
theorem dX12_fall_75 : decode cX12_fall 75 = .ok (.iload_n 2, 1) := by decide +kernel
theorem dX12_fall_76 : decode cX12_fall 76 = .ok (.iaload, 1) := by decide +kernel
theorem dX12_fall_77 : decode cX12_fall 77 = .ok (.goto 9, 3) := by decide +kernel
theorem dX12_fall_80 : decode cX12_fall 80 = .ok (.aload_n 0, 1) := by decide +kernel
theorem dX12_fall_81 : decode cX12_fall 81 = .ok (.getfield 81, 3) := by decide +kernel
theorem dX12_fall_84 : decode cX12_fall 84 = .ok (.iload_n 2, 1) := by decide +kernel
theorem dX12_fall_85 : decode cX12_fall 85 = .ok (.iaload, 1) := by decide +kernel
theorem dX12_fall_86 : decode cX12_fall 86 = .ok (.ireturn, 1) := by decide +kernel
theorem dX12_judge_0 : decode cX12_judge 0 = .ok (.aload_n 0, 1) := by decide +kernel
theorem dX12_judge_1 : decode cX12_judge 1 = .ok (.iconst 0, 1) := by decide +kernel
theorem dX12_judge_2 : decode cX12_judge 2 = .ok (.putfield 127, 3) := by decide +kernel
theorem dX12_judge_5 : decode cX12_judge 5 = .ok (.aload_n 0, 1) := by decide +kernel
theorem dX12_judge_6 : decode cX12_judge 6 = .ok (.getfield 266, 3) := by decide +kernel
theorem dX12_judge_9 : decode cX12_judge 9 = .ok (.ifCond .ne 7, 3) := by decide +kernel
theorem dX12_judge_12 : decode cX12_judge 12 = .ok (.ldc2_w 330, 3) := by decide +kernel
theorem dX12_judge_15 : decode cX12_judge 15 = .ok (.lreturn, 1) := by decide +kernel
theorem dX12_judge_16 : decode cX12_judge 16 = .ok (.iload_n 1, 1) := by decide +kernel
theorem dX12_judge_17 : decode cX12_judge 17 = .ok (.iconst 0, 1) := by decide +kernel
theorem dX12_judge_18 : decode cX12_judge 18 = .ok (.iconst 5, 1) := by decide +kernel
theorem dX12_judge_19 : decode cX12_judge 19 = .ok (.invokestatic 133, 3) := by decide +kernel
theorem dX12_judge_22 : decode cX12_judge 22 = .ok (.ifCond .ne 7, 3) := by decide +kernel
theorem dX12_judge_25 : decode cX12_judge 25 = .ok (.ldc2_w 312, 3) := by decide +kernel
theorem dX12_judge_28 : decode cX12_judge 28 = .ok (.lreturn, 1) := by decide +kernel
theorem dX12_judge_29 : decode cX12_judge 29 = .ok (.lconst 0, 1) := by decide +kernel
theorem dX12_judge_30 : decode cX12_judge 30 = .ok (.lstore_n 2, 1) := by decide +kernel
theorem dX12_judge_31 : decode cX12_judge 31 = .ok (.iconst 0, 1) := by decide +kernel
theorem dX12_judge_32 : decode cX12_judge 32 = .ok (.istore 4, 2) := by decide +kernel
theorem dX12_judge_34 : decode cX12_judge 34 = .ok (.iload 4, 2) := by decide +kernel
theorem dX12_judge_36 : decode cX12_judge 36 = .ok (.aload_n 0, 1) := by decide +kernel
theorem dX12_judge_37 : decode cX12_judge 37 = .ok (.getfield 13, 3) := by decide +kernel
theorem dX12_judge_40 : decode cX12_judge 40 = .ok (.if_icmp .gt 161, 3) := by decide +kernel
theorem dX12_judge_43 : decode cX12_judge 43 = .ok (.aload_n 0, 1) := by decide +kernel
theorem dX12_judge_44 : decode cX12_judge 44 = .ok (.iload 4, 2) := by decide +kernel
theorem dX12_judge_46 : decode cX12_judge 46 = .ok (.invokevirtual 332, 3) := by decide +kernel
theorem dX12_judge_49 : decode cX12_judge 49 = .ok (.iload_n 1, 1) := by decide +kernel
theorem dX12_judge_50 : decode cX12_judge 50 = .ok (.ifCond .ne 23, 3) := by decide +kernel
theorem dX12_judge_53 : decode cX12_judge 53 = .ok (.aload_n 0, 1) := by decide +kernel
theorem dX12_judge_54 : decode cX12_judge 54 = .ok (.getfield 302, 3) := by decide +kernel
theorem dX12_judge_57 : decode cX12_judge 57 = .ok (.i2l, 1) := by decide +kernel
theorem dX12_judge_58 : decode cX12_judge 58 = .ok (.lload_n 2, 1) := by decide +kernel
theorem dX12_judge_59 : decode cX12_judge 59 = .ok (.lcmp, 1) := by decide +kernel
theorem dX12_judge_60 : decode cX12_judge 60 = .ok (.ifCond .le 11, 3) := by decide +kernel
theorem dX12_judge_63 : decode cX12_judge 63 = .ok (.aload_n 0, 1) := by decide +kernel
theorem dX12_judge_64 : decode cX12_judge 64 = .ok (.getfield 302, 3) := by decide +kernel
theorem dX12_judge_67 : decode cX12_judge 67 = .ok (.i2l, 1) := by decide +kernel
theorem dX12_judge_68 : decode cX12_judge 68 = .ok (.goto 4, 3) := by decide +kernel
theorem dX12_judge_71 : decode cX12_judge 71 = .ok (.lload_n 2, 1) := by decide +kernel
theorem dX12_judge_72 : decode cX12_judge 72 = .ok (.lstore_n 2, 1) := by decide +kernel
theorem dX12_judge_73 : decode cX12_judge 73 = .ok (.iload_n 1, 1) := by decide +kernel
theorem dX12_judge_74 : decode cX12_judge 74 = .ok (.iconst 1, 1) := by decide +kernel
theorem dX12_judge_75 : decode cX12_judge 75 = .ok (.if_icmp .ne 21, 3) := by decide +kernel
theorem dX12_judge_78 : decode cX12_judge 78 = .ok (.aload_n 0, 1) := by decide +kernel
theorem dX12_judge_79 : decode cX12_judge 79 = .ok (.getfield 308, 3) := by decide +kernel
theorem dX12_judge_82 : decode cX12_judge 82 = .ok (.lload_n 2, 1) := by decide +kernel
theorem dX12_judge_83 : decode cX12_judge 83 = .ok (.lcmp, 1) := by decide +kernel
theorem dX12_judge_84 : decode cX12_judge 84 = .ok (.ifCond .le 10, 3) := by decide +kernel
theorem dX12_judge_87 : decode cX12_judge 87 = .ok (.aload_n 0, 1) := by decide +kernel
theorem dX12_judge_88 : decode cX12_judge 88 = .ok (.getfield 308, 3) := by decide +kernel
theorem dX12_judge_91 : decode cX12_judge 91 = .ok (.goto 4, 3) := by decide +kernel
theorem dX12_judge_94 : decode cX12_judge 94 = .ok (.lload_n 2, 1) := by decide +kernel
theorem dX12_judge_95 : decode cX12_judge 95 = .ok (.lstore_n 2, 1) := by decide +kernel
theorem dX12_judge_96 : decode cX12_judge 96 = .ok (.iload_n 1, 1) := by decide +kernel
theorem dX12_judge_97 : decode cX12_judge 97 = .ok (.iconst 2, 1) := by decide +kernel
theorem dX12_judge_98 : decode cX12_judge 98 = .ok (.if_icmp .ne 20, 3) := by decide +kernel
theorem dX12_judge_101 : decode cX12_judge 101 = .ok (.lload_n 2, 1) := by decide +kernel
theorem dX12_judge_102 : decode cX12_judge 102 = .ok (.aload_n 0, 1) := by decide +kernel
theorem dX12_judge_103 : decode cX12_judge 103 = .ok (.getfield 26, 3) := by decide +kernel
theorem dX12_judge_106 : decode cX12_judge 106 = .ok (.iload 4, 2) := by decide +kernel
theorem dX12_judge_108 : decode cX12_judge 108 = .ok (.iaload, 1) := by decide +kernel
theorem dX12_judge_109 : decode cX12_judge 109 = .ok (.i2l, 1) := by decide +kernel
theorem dX12_judge_110 : decode cX12_judge 110 = .ok (.aload_n 0, 1) := by decide +kernel
theorem dX12_judge_111 : decode cX12_judge 111 = .ok (.getfield 302, 3) := by decide +kernel
theorem dX12_judge_114 : decode cX12_judge 114 = .ok (.i2l, 1) := by decide +kernel
theorem dX12_judge_115 : decode cX12_judge 115 = .ok (.lmul, 1) := by decide +kernel
theorem dX12_judge_116 : decode cX12_judge 116 = .ok (.ladd, 1) := by decide +kernel
theorem dX12_judge_117 : decode cX12_judge 117 = .ok (.lstore_n 2, 1) := by decide +kernel
theorem dX12_judge_118 : decode cX12_judge 118 = .ok (.iload_n 1, 1) := by decide +kernel
theorem dX12_judge_119 : decode cX12_judge 119 = .ok (.iconst 3, 1) := by decide +kernel
theorem dX12_judge_120 : decode cX12_judge 120 = .ok (.if_icmp .ne 19, 3) := by decide +kernel
theorem dX12_judge_123 : decode cX12_judge 123 = .ok (.lload_n 2, 1) := by decide +kernel
theorem dX12_judge_124 : decode cX12_judge 124 = .ok (.aload_n 0, 1) := by decide +kernel
theorem dX12_judge_125 : decode cX12_judge 125 = .ok (.getfield 26, 3) := by decide +kernel
theorem dX12_judge_128 : decode cX12_judge 128 = .ok (.iload 4, 2) := by decide +kernel
theorem dX12_judge_130 : decode cX12_judge 130 = .ok (.iaload, 1) := by decide +kernel
theorem dX12_judge_131 : decode cX12_judge 131 = .ok (.i2l, 1) := by decide +kernel
theorem dX12_judge_132 : decode cX12_judge 132 = .ok (.aload_n 0, 1) := by decide +kernel
theorem dX12_judge_133 : decode cX12_judge 133 = .ok (.getfield 308, 3) := by decide +kernel
theorem dX12_judge_136 : decode cX12_judge 136 = .ok (.lmul, 1) := by decide +kernel
theorem dX12_judge_137 : decode cX12_judge 137 = .ok (.ladd, 1) := by decide +kernel
theorem dX12_judge_138 : decode cX12_judge 138 = .ok (.lstore_n 2, 1) := by decide +kernel
theorem dX12_judge_139 : decode cX12_judge 139 = .ok (.iload_n 1, 1) := by decide +kernel
theorem dX12_judge_140 : decode cX12_judge 140 = .ok (.iconst 4, 1) := by decide +kernel
theorem dX12_judge_141 : decode cX12_judge 141 = .ok (.if_icmp .ne 26, 3) := by decide +kernel
theorem dX12_judge_144 : decode cX12_judge 144 = .ok (.lload_n 2, 1) := by decide +kernel
theorem dX12_judge_145 : decode cX12_judge 145 = .ok (.aload_n 0, 1) := by decide +kernel
theorem dX12_judge_146 : decode cX12_judge 146 = .ok (.getfield 317, 3) := by decide +kernel
theorem dX12_judge_149 : decode cX12_judge 149 = .ok (.iconst 2, 1) := by decide +kernel
theorem dX12_judge_150 : decode cX12_judge 150 = .ok (.if_icmp .ne 14, 3) := by decide +kernel
theorem dX12_judge_153 : decode cX12_judge 153 = .ok (.aload_n 0, 1) := by decide +kernel
theorem dX12_judge_154 : decode cX12_judge 154 = .ok (.getfield 26, 3) := by decide +kernel
theorem dX12_judge_157 : decode cX12_judge 157 = .ok (.iload 4, 2) := by decide +kernel
theorem dX12_judge_159 : decode cX12_judge 159 = .ok (.iaload, 1) := by decide +kernel
theorem dX12_judge_160 : decode cX12_judge 160 = .ok (.i2l, 1) := by decide +kernel
theorem dX12_judge_161 : decode cX12_judge 161 = .ok (.goto 4, 3) := by decide +kernel
theorem dX12_judge_164 : decode cX12_judge 164 = .ok (.lconst 0, 1) := by decide +kernel
theorem dX12_judge_165 : decode cX12_judge 165 = .ok (.ladd, 1) := by decide +kernel
theorem dX12_judge_166 : decode cX12_judge 166 = .ok (.lstore_n 2, 1) := by decide +kernel
theorem dX12_judge_167 : decode cX12_judge 167 = .ok (.iload_n 1, 1) := by decide +kernel
theorem dX12_judge_168 : decode cX12_judge 168 = .ok (.iconst 5, 1) := by decide +kernel
theorem dX12_judge_169 : decode cX12_judge 169 = .ok (.if_icmp .ne 26, 3) := by decide +kernel
theorem dX12_judge_172 : decode cX12_judge 172 = .ok (.lload_n 2, 1) := by decide +kernel
theorem dX12_judge_173 : decode cX12_judge 173 = .ok (.aload_n 0, 1) := by decide +kernel
theorem dX12_judge_174 : decode cX12_judge 174 = .ok (.getfield 317, 3) := by decide +kernel
theorem dX12_judge_177 : decode cX12_judge 177 = .ok (.iconst 3, 1) := by decide +kernel
theorem dX12_judge_178 : decode cX12_judge 178 = .ok (.if_icmp .ne 14, 3) := by decide +kernel
theorem dX12_judge_181 : decode cX12_judge 181 = .ok (.aload_n 0, 1) := by decide +kernel
theorem dX12_judge_182 : decode cX12_judge 182 = .ok (.getfield 26, 3) := by decide +kernel
theorem dX12_judge_185 : decode cX12_judge 185 = .ok (.iload 4, 2) := by decide +kernel
theorem dX12_judge_187 : decode cX12_judge 187 = .ok (.iaload, 1) := by decide +kernel
theorem dX12_judge_188 : decode cX12_judge 188 = .ok (.i2l, 1) := by decide +kernel
theorem dX12_judge_189 : decode cX12_judge 189 = .ok (.goto 4, 3) := by decide +kernel
theorem dX12_judge_192 : decode cX12_judge 192 = .ok (.lconst 0, 1) := by decide +kernel
theorem dX12_judge_193 : decode cX12_judge 193 = .ok (.ladd, 1) := by decide +kernel
theorem dX12_judge_194 : decode cX12_judge 194 = .ok (.lstore_n 2, 1) := by decide +kernel
theorem dX12_judge_195 : decode cX12_judge 195 = .ok (.iinc 4 1, 3) := by decide +kernel
theorem dX12_judge_198 : decode cX12_judge 198 = .ok (.goto (-164), 3) := by decide +kernel
theorem dX12_judge_201 : decode cX12_judge 201 = .ok (.lload_n 2, 1) := by decide +kernel
theorem dX12_judge_202 : decode cX12_judge 202 = .ok (.lreturn, 1) := by decide +kernel
theorem dX12_leftOf_0 : decode cX12_leftOf 0 = .ok (.iload_n 1, 1) := by decide +kernel
theorem dX12_leftOf_1 : decode cX12_leftOf 1 = .ok (.ifCond .ne 9, 3) := by decide +kernel
theorem dX12_leftOf_4 : decode cX12_leftOf 4 = .ok (.iload_n 0, 1) := by decide +kernel
theorem dX12_leftOf_5 : decode cX12_leftOf 5 = .ok (.iconst 5, 1) := by decide +kernel
theorem dX12_leftOf_6 : decode cX12_leftOf 6 = .ok (.irem, 1) := by decide +kernel
theorem dX12_leftOf_7 : decode cX12_leftOf 7 = .ok (.goto 20, 3) := by decide +kernel
theorem dX12_leftOf_10 : decode cX12_leftOf 10 = .ok (.iload_n 1, 1) := by decide +kernel
theorem dX12_leftOf_11 : decode cX12_leftOf 11 = .ok (.iconst 1, 1) := by decide +kernel
theorem dX12_leftOf_12 : decode cX12_leftOf 12 = .ok (.if_icmp .ne 11, 3) := by decide +kernel
theorem dX12_leftOf_15 : decode cX12_leftOf 15 = .ok (.iload_n 0, 1) := by decide +kernel
theorem dX12_leftOf_16 : decode cX12_leftOf 16 = .ok (.iconst 5, 1) := by decide +kernel
theorem dX12_leftOf_17 : decode cX12_leftOf 17 = .ok (.idiv, 1) := by decide +kernel
theorem dX12_leftOf_18 : decode cX12_leftOf 18 = .ok (.iconst 5, 1) := by decide +kernel
theorem dX12_leftOf_19 : decode cX12_leftOf 19 = .ok (.irem, 1) := by decide +kernel
theorem dX12_leftOf_20 : decode cX12_leftOf 20 = .ok (.goto 7, 3) := by decide +kernel
theorem dX12_leftOf_23 : decode cX12_leftOf 23 = .ok (.iload_n 0, 1) := by decide +kernel
theorem dX12_leftOf_24 : decode cX12_leftOf 24 = .ok (.bipush 25, 2) := by decide +kernel
theorem dX12_leftOf_26 : decode cX12_leftOf 26 = .ok (.idiv, 1) := by decide +kernel
theorem dX12_leftOf_27 : decode cX12_leftOf 27 = .ok (.ireturn, 1) := by decide +kernel
theorem dX12_oneOf_0 : decode cX12_oneOf 0 = .ok (.iload_n 0, 1) := by decide +kernel
theorem dX12_oneOf_1 : decode cX12_oneOf 1 = .ok (.ifCond .ne 7, 3) := by decide +kernel
theorem dX12_oneOf_4 : decode cX12_oneOf 4 = .ok (.iconst 1, 1) := by decide +kernel
theorem dX12_oneOf_5 : decode cX12_oneOf 5 = .ok (.goto 14, 3) := by decide +kernel
theorem dX12_oneOf_8 : decode cX12_oneOf 8 = .ok (.iload_n 0, 1) := by decide +kernel
theorem dX12_oneOf_9 : decode cX12_oneOf 9 = .ok (.iconst 1, 1) := by decide +kernel
theorem dX12_oneOf_10 : decode cX12_oneOf 10 = .ok (.if_icmp .ne 7, 3) := by decide +kernel
theorem dX12_oneOf_13 : decode cX12_oneOf 13 = .ok (.iconst 5, 1) := by decide +kernel
theorem dX12_oneOf_14 : decode cX12_oneOf 14 = .ok (.goto 5, 3) := by decide +kernel
theorem dX12_oneOf_17 : decode cX12_oneOf 17 = .ok (.bipush 25, 2) := by decide +kernel
theorem dX12_oneOf_19 : decode cX12_oneOf 19 = .ok (.ireturn, 1) := by decide +kernel
theorem dX12_bestAt_0 : decode cX12_bestAt 0 = .ok (.aload_n 0, 1) := by decide +kernel
theorem dX12_bestAt_1 : decode cX12_bestAt 1 = .ok (.getfield 85, 3) := by decide +kernel
theorem dX12_bestAt_4 : decode cX12_bestAt 4 = .ok (.bipush 125, 2) := by decide +kernel
theorem dX12_bestAt_6 : decode cX12_bestAt 6 = .ok (.bipush 41, 2) := by decide +kernel
theorem dX12_bestAt_8 : decode cX12_bestAt 8 = .ok (.iload_n 1, 1) := by decide +kernel
theorem dX12_bestAt_9 : decode cX12_bestAt 9 = .ok (.imul, 1) := by decide +kernel
theorem dX12_bestAt_10 : decode cX12_bestAt 10 = .ok (.iload_n 2, 1) := by decide +kernel
theorem dX12_bestAt_11 : decode cX12_bestAt 11 = .ok (.iadd, 1) := by decide +kernel
theorem dX12_bestAt_12 : decode cX12_bestAt 12 = .ok (.imul, 1) := by decide +kernel
theorem dX12_bestAt_13 : decode cX12_bestAt 13 = .ok (.iload_n 3, 1) := by decide +kernel
theorem dX12_bestAt_14 : decode cX12_bestAt 14 = .ok (.iadd, 1) := by decide +kernel
theorem dX12_bestAt_15 : decode cX12_bestAt 15 = .ok (.laload, 1) := by decide +kernel
theorem dX12_bestAt_16 : decode cX12_bestAt 16 = .ok (.lreturn, 1) := by decide +kernel
theorem dX12_costOf_0 : decode cX12_costOf 0 = .ok (.aload_n 0, 1) := by decide +kernel
theorem dX12_costOf_1 : decode cX12_costOf 1 = .ok (.getfield 29, 3) := by decide +kernel
theorem dX12_costOf_4 : decode cX12_costOf 4 = .ok (.aload_n 0, 1) := by decide +kernel
theorem dX12_costOf_5 : decode cX12_costOf 5 = .ok (.getfield 148, 3) := by decide +kernel
theorem dX12_costOf_8 : decode cX12_costOf 8 = .ok (.iload_n 1, 1) := by decide +kernel
theorem dX12_costOf_9 : decode cX12_costOf 9 = .ok (.imul, 1) := by decide +kernel
theorem dX12_costOf_10 : decode cX12_costOf 10 = .ok (.iadd, 1) := by decide +kernel
theorem dX12_costOf_11 : decode cX12_costOf 11 = .ok (.ireturn, 1) := by decide +kernel
theorem dX12_ofFall_0 : decode cX12_ofFall 0 = .ok (.iload 6, 2) := by decide +kernel
theorem dX12_ofFall_2 : decode cX12_ofFall 2 = .ok (.aload_n 0, 1) := by decide +kernel
theorem dX12_ofFall_3 : decode cX12_ofFall 3 = .ok (.getfield 17, 3) := by decide +kernel
theorem dX12_ofFall_6 : decode cX12_ofFall 6 = .ok (.iload 5, 2) := by decide +kernel
theorem dX12_ofFall_8 : decode cX12_ofFall 8 = .ok (.iaload, 1) := by decide +kernel
theorem dX12_ofFall_9 : decode cX12_ofFall 9 = .ok (.isub, 1) := by decide +kernel
theorem dX12_ofFall_10 : decode cX12_ofFall 10 = .ok (.istore 7, 2) := by decide +kernel
theorem dX12_ofFall_12 : decode cX12_ofFall 12 = .ok (.aload_n 0, 1) := by decide +kernel
theorem dX12_ofFall_13 : decode cX12_ofFall 13 = .ok (.iload 7, 2) := by decide +kernel
theorem dX12_ofFall_15 : decode cX12_ofFall 15 = .ok (.iload_n 3, 1) := by decide +kernel
theorem dX12_ofFall_16 : decode cX12_ofFall 16 = .ok (.iload 4, 2) := by decide +kernel
theorem dX12_ofFall_18 : decode cX12_ofFall 18 = .ok (.invokevirtual 335, 3) := by decide +kernel
theorem dX12_ofFall_21 : decode cX12_ofFall 21 = .ok (.lstore 8, 2) := by decide +kernel
theorem dX12_ofFall_23 : decode cX12_ofFall 23 = .ok (.aload_n 0, 1) := by decide +kernel
theorem dX12_ofFall_24 : decode cX12_ofFall 24 = .ok (.iload_n 2, 1) := by decide +kernel
theorem dX12_ofFall_25 : decode cX12_ofFall 25 = .ok (.iload 7, 2) := by decide +kernel
theorem dX12_ofFall_27 : decode cX12_ofFall 27 = .ok (.iconst 1, 1) := by decide +kernel
theorem dX12_ofFall_28 : decode cX12_ofFall 28 = .ok (.isub, 1) := by decide +kernel
theorem dX12_ofFall_29 : decode cX12_ofFall 29 = .ok (.iload 4, 2) := by decide +kernel
theorem dX12_ofFall_31 : decode cX12_ofFall 31 = .ok (.iload 5, 2) := by decide +kernel
theorem dX12_ofFall_33 : decode cX12_ofFall 33 = .ok (.invokestatic 339, 3) := by decide +kernel
theorem dX12_ofFall_36 : decode cX12_ofFall 36 = .ok (.isub, 1) := by decide +kernel
theorem dX12_ofFall_37 : decode cX12_ofFall 37 = .ok (.invokevirtual 335, 3) := by decide +kernel
theorem dX12_ofFall_40 : decode cX12_ofFall 40 = .ok (.lstore 10, 2) := by decide +kernel
theorem dX12_ofFall_42 : decode cX12_ofFall 42 = .ok (.lload 8, 2) := by decide +kernel
theorem dX12_ofFall_44 : decode cX12_ofFall 44 = .ok (.ldc2_w 278, 3) := by decide +kernel
theorem dX12_ofFall_47 : decode cX12_ofFall 47 = .ok (.lcmp, 1) := by decide +kernel
theorem dX12_ofFall_48 : decode cX12_ofFall 48 = .ok (.ifCond .ge 12, 3) := by decide +kernel
theorem dX12_ofFall_51 : decode cX12_ofFall 51 = .ok (.lload 10, 2) := by decide +kernel
theorem dX12_ofFall_53 : decode cX12_ofFall 53 = .ok (.ldc2_w 278, 3) := by decide +kernel
theorem dX12_ofFall_56 : decode cX12_ofFall 56 = .ok (.lcmp, 1) := by decide +kernel
theorem dX12_ofFall_57 : decode cX12_ofFall 57 = .ok (.ifCond .lt 7, 3) := by decide +kernel
theorem dX12_ofFall_60 : decode cX12_ofFall 60 = .ok (.ldc2_w 278, 3) := by decide +kernel
theorem dX12_ofFall_63 : decode cX12_ofFall 63 = .ok (.lreturn, 1) := by decide +kernel
theorem dX12_ofFall_64 : decode cX12_ofFall 64 = .ok (.iload_n 1, 1) := by decide +kernel
theorem dX12_ofFall_65 : decode cX12_ofFall 65 = .ok (.iconst 2, 1) := by decide +kernel
theorem dX12_ofFall_66 : decode cX12_ofFall 66 = .ok (.if_icmp .ge 7, 3) := by decide +kernel
theorem dX12_ofFall_69 : decode cX12_ofFall 69 = .ok (.lconst 1, 1) := by decide +kernel
theorem dX12_ofFall_70 : decode cX12_ofFall 70 = .ok (.goto 10, 3) := by decide +kernel
theorem dX12_ofFall_73 : decode cX12_ofFall 73 = .ok (.aload_n 0, 1) := by decide +kernel
theorem dX12_ofFall_74 : decode cX12_ofFall 74 = .ok (.iload 6, 2) := by decide +kernel
theorem dX12_ofFall_76 : decode cX12_ofFall 76 = .ok (.invokevirtual 342, 3) := by decide +kernel
theorem dX12_ofFall_79 : decode cX12_ofFall 79 = .ok (.i2l, 1) := by decide +kernel
theorem dX12_ofFall_80 : decode cX12_ofFall 80 = .ok (.lstore 12, 2) := by decide +kernel
theorem dX12_ofFall_82 : decode cX12_ofFall 82 = .ok (.iload_n 1, 1) := by decide +kernel
theorem dX12_ofFall_83 : decode cX12_ofFall 83 = .ok (.iconst 2, 1) := by decide +kernel
theorem dX12_ofFall_84 : decode cX12_ofFall 84 = .ok (.if_icmp .ge 7, 3) := by decide +kernel
theorem dX12_ofFall_87 : decode cX12_ofFall 87 = .ok (.lconst 1, 1) := by decide +kernel
theorem dX12_ofFall_88 : decode cX12_ofFall 88 = .ok (.goto 18, 3) := by decide +kernel
theorem dX12_ofFall_91 : decode cX12_ofFall 91 = .ok (.aload_n 0, 1) := by decide +kernel
theorem dX12_ofFall_92 : decode cX12_ofFall 92 = .ok (.iload 6, 2) := by decide +kernel
theorem dX12_ofFall_94 : decode cX12_ofFall 94 = .ok (.invokevirtual 342, 3) := by decide +kernel
theorem dX12_ofFall_97 : decode cX12_ofFall 97 = .ok (.aload_n 0, 1) := by decide +kernel
theorem dX12_ofFall_98 : decode cX12_ofFall 98 = .ok (.getfield 23, 3) := by decide +kernel
theorem dX12_ofFall_101 : decode cX12_ofFall 101 = .ok (.iload 5, 2) := by decide +kernel
theorem dX12_ofFall_103 : decode cX12_ofFall 103 = .ok (.iaload, 1) := by decide +kernel
theorem dX12_ofFall_104 : decode cX12_ofFall 104 = .ok (.iadd, 1) := by decide +kernel
theorem dX12_ofFall_105 : decode cX12_ofFall 105 = .ok (.i2l, 1) := by decide +kernel
theorem dX12_ofFall_106 : decode cX12_ofFall 106 = .ok (.lstore 14, 2) := by decide +kernel
theorem dX12_ofFall_108 : decode cX12_ofFall 108 = .ok (.iload_n 1, 1) := by decide +kernel
theorem dX12_ofFall_109 : decode cX12_ofFall 109 = .ok (.iconst 2, 1) := by decide +kernel
theorem dX12_ofFall_110 : decode cX12_ofFall 110 = .ok (.irem, 1) := by decide +kernel
theorem dX12_ofFall_111 : decode cX12_ofFall 111 = .ok (.ifCond .ne 31, 3) := by decide +kernel
theorem dX12_ofFall_114 : decode cX12_ofFall 114 = .ok (.lload 8, 2) := by decide +kernel
theorem dX12_ofFall_116 : decode cX12_ofFall 116 = .ok (.lload 12, 2) := by decide +kernel
theorem dX12_ofFall_118 : decode cX12_ofFall 118 = .ok (.ladd, 1) := by decide +kernel
theorem dX12_ofFall_119 : decode cX12_ofFall 119 = .ok (.lload 10, 2) := by decide +kernel
theorem dX12_ofFall_121 : decode cX12_ofFall 121 = .ok (.lload 14, 2) := by decide +kernel
theorem dX12_ofFall_123 : decode cX12_ofFall 123 = .ok (.ladd, 1) := by decide +kernel
theorem dX12_ofFall_124 : decode cX12_ofFall 124 = .ok (.lcmp, 1) := by decide +kernel
theorem dX12_ofFall_125 : decode cX12_ofFall 125 = .ok (.ifCond .le 11, 3) := by decide +kernel
theorem dX12_ofFall_128 : decode cX12_ofFall 128 = .ok (.lload 8, 2) := by decide +kernel
theorem dX12_ofFall_130 : decode cX12_ofFall 130 = .ok (.lload 12, 2) := by decide +kernel
theorem dX12_ofFall_132 : decode cX12_ofFall 132 = .ok (.ladd, 1) := by decide +kernel
theorem dX12_ofFall_133 : decode cX12_ofFall 133 = .ok (.goto 8, 3) := by decide +kernel
theorem dX12_ofFall_136 : decode cX12_ofFall 136 = .ok (.lload 10, 2) := by decide +kernel
theorem dX12_ofFall_138 : decode cX12_ofFall 138 = .ok (.lload 14, 2) := by decide +kernel
theorem dX12_ofFall_140 : decode cX12_ofFall 140 = .ok (.ladd, 1) := by decide +kernel
theorem dX12_ofFall_141 : decode cX12_ofFall 141 = .ok (.lreturn, 1) := by decide +kernel
theorem dX12_ofFall_142 : decode cX12_ofFall 142 = .ok (.lload 8, 2) := by decide +kernel
theorem dX12_ofFall_144 : decode cX12_ofFall 144 = .ok (.lload 12, 2) := by decide +kernel
theorem dX12_ofFall_146 : decode cX12_ofFall 146 = .ok (.aload_n 0, 1) := by decide +kernel
theorem dX12_ofFall_147 : decode cX12_ofFall 147 = .ok (.getfield 88, 3) := by decide +kernel
theorem dX12_ofFall_150 : decode cX12_ofFall 150 = .ok (.iload_n 3, 1) := by decide +kernel
theorem dX12_ofFall_151 : decode cX12_ofFall 151 = .ok (.iconst 1, 1) := by decide +kernel
theorem dX12_ofFall_152 : decode cX12_ofFall 152 = .ok (.iadd, 1) := by decide +kernel
theorem dX12_ofFall_153 : decode cX12_ofFall 153 = .ok (.iaload, 1) := by decide +kernel
theorem dX12_ofFall_154 : decode cX12_ofFall 154 = .ok (.aload_n 0, 1) := by decide +kernel
theorem dX12_ofFall_155 : decode cX12_ofFall 155 = .ok (.getfield 88, 3) := by decide +kernel
theorem dX12_ofFall_158 : decode cX12_ofFall 158 = .ok (.iload 7, 2) := by decide +kernel
theorem dX12_ofFall_160 : decode cX12_ofFall 160 = .ok (.iaload, 1) := by decide +kernel
theorem dX12_ofFall_161 : decode cX12_ofFall 161 = .ok (.isub, 1) := by decide +kernel
theorem dX12_ofFall_162 : decode cX12_ofFall 162 = .ok (.i2l, 1) := by decide +kernel
theorem dX12_ofFall_163 : decode cX12_ofFall 163 = .ok (.lmul, 1) := by decide +kernel
theorem dX12_ofFall_164 : decode cX12_ofFall 164 = .ok (.ladd, 1) := by decide +kernel
theorem dX12_ofFall_165 : decode cX12_ofFall 165 = .ok (.lload 10, 2) := by decide +kernel
theorem dX12_ofFall_167 : decode cX12_ofFall 167 = .ok (.ladd, 1) := by decide +kernel
theorem dX12_ofFall_168 : decode cX12_ofFall 168 = .ok (.lload 14, 2) := by decide +kernel
theorem dX12_ofFall_170 : decode cX12_ofFall 170 = .ok (.aload_n 0, 1) := by decide +kernel
theorem dX12_ofFall_171 : decode cX12_ofFall 171 = .ok (.getfield 88, 3) := by decide +kernel
theorem dX12_ofFall_174 : decode cX12_ofFall 174 = .ok (.iload 7, 2) := by decide +kernel
theorem dX12_ofFall_176 : decode cX12_ofFall 176 = .ok (.iaload, 1) := by decide +kernel
theorem dX12_ofFall_177 : decode cX12_ofFall 177 = .ok (.aload_n 0, 1) := by decide +kernel
theorem dX12_ofFall_178 : decode cX12_ofFall 178 = .ok (.getfield 88, 3) := by decide +kernel
theorem dX12_ofFall_181 : decode cX12_ofFall 181 = .ok (.iload_n 2, 1) := by decide +kernel
theorem dX12_ofFall_182 : decode cX12_ofFall 182 = .ok (.iaload, 1) := by decide +kernel
theorem dX12_ofFall_183 : decode cX12_ofFall 183 = .ok (.isub, 1) := by decide +kernel
theorem dX12_ofFall_184 : decode cX12_ofFall 184 = .ok (.i2l, 1) := by decide +kernel
theorem dX12_ofFall_185 : decode cX12_ofFall 185 = .ok (.lmul, 1) := by decide +kernel
theorem dX12_ofFall_186 : decode cX12_ofFall 186 = .ok (.ladd, 1) := by decide +kernel
theorem dX12_ofFall_187 : decode cX12_ofFall 187 = .ok (.lreturn, 1) := by decide +kernel
theorem dX12_bestOf_0 : decode cX12_bestOf 0 = .ok (.iload_n 2, 1) := by decide +kernel
theorem dX12_bestOf_1 : decode cX12_bestOf 1 = .ok (.iload_n 3, 1) := by decide +kernel
theorem dX12_bestOf_2 : decode cX12_bestOf 2 = .ok (.if_icmp .ne 7, 3) := by decide +kernel
theorem dX12_bestOf_5 : decode cX12_bestOf 5 = .ok (.lconst 0, 1) := by decide +kernel
theorem dX12_bestOf_6 : decode cX12_bestOf 6 = .ok (.goto 6, 3) := by decide +kernel
theorem dX12_bestOf_9 : decode cX12_bestOf 9 = .ok (.ldc2_w 278, 3) := by decide +kernel
theorem dX12_bestOf_12 : decode cX12_bestOf 12 = .ok (.lstore 5, 2) := by decide +kernel
theorem dX12_bestOf_14 : decode cX12_bestOf 14 = .ok (.aload_n 0, 1) := by decide +kernel
theorem dX12_bestOf_15 : decode cX12_bestOf 15 = .ok (.iconst (-1), 1) := by decide +kernel
theorem dX12_bestOf_16 : decode cX12_bestOf 16 = .ok (.putfield 345, 3) := by decide +kernel
theorem dX12_bestOf_19 : decode cX12_bestOf 19 = .ok (.aload_n 0, 1) := by decide +kernel
theorem dX12_bestOf_20 : decode cX12_bestOf 20 = .ok (.iconst (-1), 1) := by decide +kernel
theorem dX12_bestOf_21 : decode cX12_bestOf 21 = .ok (.putfield 348, 3) := by decide +kernel
theorem dX12_bestOf_24 : decode cX12_bestOf 24 = .ok (.iconst 0, 1) := by decide +kernel
theorem dX12_bestOf_25 : decode cX12_bestOf 25 = .ok (.istore 7, 2) := by decide +kernel
theorem dX12_bestOf_27 : decode cX12_bestOf 27 = .ok (.iload 7, 2) := by decide +kernel
theorem dX12_bestOf_29 : decode cX12_bestOf 29 = .ok (.iconst 3, 1) := by decide +kernel
theorem dX12_bestOf_30 : decode cX12_bestOf 30 = .ok (.if_icmp .ge 147, 3) := by decide +kernel
theorem dX12_bestOf_33 : decode cX12_bestOf 33 = .ok (.iload 4, 2) := by decide +kernel
theorem dX12_bestOf_35 : decode cX12_bestOf 35 = .ok (.iload 7, 2) := by decide +kernel
theorem dX12_bestOf_37 : decode cX12_bestOf 37 = .ok (.invokestatic 351, 3) := by decide +kernel
theorem dX12_bestOf_40 : decode cX12_bestOf 40 = .ok (.ifCond .ne 6, 3) := by decide +kernel
theorem dX12_bestOf_43 : decode cX12_bestOf 43 = .ok (.goto 128, 3) := by decide +kernel
theorem dX12_bestOf_46 : decode cX12_bestOf 46 = .ok (.iload_n 2, 1) := by decide +kernel
theorem dX12_bestOf_47 : decode cX12_bestOf 47 = .ok (.iconst 1, 1) := by decide +kernel
theorem dX12_bestOf_48 : decode cX12_bestOf 48 = .ok (.iadd, 1) := by decide +kernel
theorem dX12_bestOf_49 : decode cX12_bestOf 49 = .ok (.aload_n 0, 1) := by decide +kernel
theorem dX12_bestOf_50 : decode cX12_bestOf 50 = .ok (.getfield 17, 3) := by decide +kernel
theorem dX12_bestOf_53 : decode cX12_bestOf 53 = .ok (.iload 7, 2) := by decide +kernel
theorem dX12_bestOf_55 : decode cX12_bestOf 55 = .ok (.iaload, 1) := by decide +kernel
theorem dX12_bestOf_56 : decode cX12_bestOf 56 = .ok (.iadd, 1) := by decide +kernel
theorem dX12_bestOf_57 : decode cX12_bestOf 57 = .ok (.iconst 1, 1) := by decide +kernel
theorem dX12_bestOf_58 : decode cX12_bestOf 58 = .ok (.if_icmp .le 17, 3) := by decide +kernel
theorem dX12_bestOf_61 : decode cX12_bestOf 61 = .ok (.iload_n 2, 1) := by decide +kernel
theorem dX12_bestOf_62 : decode cX12_bestOf 62 = .ok (.iconst 1, 1) := by decide +kernel
theorem dX12_bestOf_63 : decode cX12_bestOf 63 = .ok (.iadd, 1) := by decide +kernel
theorem dX12_bestOf_64 : decode cX12_bestOf 64 = .ok (.aload_n 0, 1) := by decide +kernel
theorem dX12_bestOf_65 : decode cX12_bestOf 65 = .ok (.getfield 17, 3) := by decide +kernel
theorem dX12_bestOf_68 : decode cX12_bestOf 68 = .ok (.iload 7, 2) := by decide +kernel
theorem dX12_bestOf_70 : decode cX12_bestOf 70 = .ok (.iaload, 1) := by decide +kernel
theorem dX12_bestOf_71 : decode cX12_bestOf 71 = .ok (.iadd, 1) := by decide +kernel
theorem dX12_bestOf_72 : decode cX12_bestOf 72 = .ok (.goto 4, 3) := by decide +kernel
theorem dX12_bestOf_75 : decode cX12_bestOf 75 = .ok (.iconst 1, 1) := by decide +kernel
theorem dX12_bestOf_76 : decode cX12_bestOf 76 = .ok (.istore 8, 2) := by decide +kernel
theorem dX12_bestOf_78 : decode cX12_bestOf 78 = .ok (.iload_n 3, 1) := by decide +kernel
theorem dX12_bestOf_79 : decode cX12_bestOf 79 = .ok (.aload_n 0, 1) := by decide +kernel
theorem dX12_bestOf_80 : decode cX12_bestOf 80 = .ok (.getfield 17, 3) := by decide +kernel
theorem dX12_bestOf_83 : decode cX12_bestOf 83 = .ok (.iload 7, 2) := by decide +kernel
theorem dX12_bestOf_85 : decode cX12_bestOf 85 = .ok (.iaload, 1) := by decide +kernel
theorem dX12_bestOf_86 : decode cX12_bestOf 86 = .ok (.iadd, 1) := by decide +kernel
theorem dX12_bestOf_87 : decode cX12_bestOf 87 = .ok (.aload_n 0, 1) := by decide +kernel
theorem dX12_bestOf_88 : decode cX12_bestOf 88 = .ok (.getfield 13, 3) := by decide +kernel
theorem dX12_bestOf_91 : decode cX12_bestOf 91 = .ok (.if_icmp .ge 15, 3) := by decide +kernel
theorem dX12_bestOf_94 : decode cX12_bestOf 94 = .ok (.iload_n 3, 1) := by decide +kernel
theorem dX12_bestOf_95 : decode cX12_bestOf 95 = .ok (.aload_n 0, 1) := by decide +kernel
theorem dX12_bestOf_96 : decode cX12_bestOf 96 = .ok (.getfield 17, 3) := by decide +kernel
theorem dX12_bestOf_99 : decode cX12_bestOf 99 = .ok (.iload 7, 2) := by decide +kernel
theorem dX12_bestOf_101 : decode cX12_bestOf 101 = .ok (.iaload, 1) := by decide +kernel
theorem dX12_bestOf_102 : decode cX12_bestOf 102 = .ok (.iadd, 1) := by decide +kernel
theorem dX12_bestOf_103 : decode cX12_bestOf 103 = .ok (.goto 7, 3) := by decide +kernel
theorem dX12_bestOf_106 : decode cX12_bestOf 106 = .ok (.aload_n 0, 1) := by decide +kernel
theorem dX12_bestOf_107 : decode cX12_bestOf 107 = .ok (.getfield 13, 3) := by decide +kernel
theorem dX12_bestOf_110 : decode cX12_bestOf 110 = .ok (.istore 9, 2) := by decide +kernel
theorem dX12_bestOf_112 : decode cX12_bestOf 112 = .ok (.iload 8, 2) := by decide +kernel
theorem dX12_bestOf_114 : decode cX12_bestOf 114 = .ok (.istore 10, 2) := by decide +kernel
theorem dX12_bestOf_116 : decode cX12_bestOf 116 = .ok (.iload 10, 2) := by decide +kernel
theorem dX12_bestOf_118 : decode cX12_bestOf 118 = .ok (.iload 9, 2) := by decide +kernel
theorem dX12_bestOf_120 : decode cX12_bestOf 120 = .ok (.if_icmp .gt 51, 3) := by decide +kernel
theorem dX12_bestOf_123 : decode cX12_bestOf 123 = .ok (.aload_n 0, 1) := by decide +kernel
theorem dX12_bestOf_124 : decode cX12_bestOf 124 = .ok (.iload_n 1, 1) := by decide +kernel
theorem dX12_bestOf_125 : decode cX12_bestOf 125 = .ok (.iload_n 2, 1) := by decide +kernel
theorem dX12_bestOf_126 : decode cX12_bestOf 126 = .ok (.iload_n 3, 1) := by decide +kernel
theorem dX12_bestOf_127 : decode cX12_bestOf 127 = .ok (.iload 4, 2) := by decide +kernel
theorem dX12_bestOf_129 : decode cX12_bestOf 129 = .ok (.iload 7, 2) := by decide +kernel
theorem dX12_bestOf_131 : decode cX12_bestOf 131 = .ok (.iload 10, 2) := by decide +kernel
theorem dX12_bestOf_133 : decode cX12_bestOf 133 = .ok (.invokevirtual 354, 3) := by decide +kernel
theorem dX12_bestOf_136 : decode cX12_bestOf 136 = .ok (.lstore 11, 2) := by decide +kernel
theorem dX12_bestOf_138 : decode cX12_bestOf 138 = .ok (.lload 11, 2) := by decide +kernel
theorem dX12_bestOf_140 : decode cX12_bestOf 140 = .ok (.lload 5, 2) := by decide +kernel
theorem dX12_bestOf_142 : decode cX12_bestOf 142 = .ok (.lcmp, 1) := by decide +kernel
theorem dX12_bestOf_143 : decode cX12_bestOf 143 = .ok (.ifCond .lt 6, 3) := by decide +kernel
theorem dX12_bestOf_146 : decode cX12_bestOf 146 = .ok (.goto 19, 3) := by decide +kernel
theorem dX12_bestOf_149 : decode cX12_bestOf 149 = .ok (.lload 11, 2) := by decide +kernel
theorem dX12_bestOf_151 : decode cX12_bestOf 151 = .ok (.lstore 5, 2) := by decide +kernel
theorem dX12_bestOf_153 : decode cX12_bestOf 153 = .ok (.aload_n 0, 1) := by decide +kernel
theorem dX12_bestOf_154 : decode cX12_bestOf 154 = .ok (.iload 7, 2) := by decide +kernel
theorem dX12_bestOf_156 : decode cX12_bestOf 156 = .ok (.putfield 345, 3) := by decide +kernel
theorem dX12_bestOf_159 : decode cX12_bestOf 159 = .ok (.aload_n 0, 1) := by decide +kernel
theorem dX12_bestOf_160 : decode cX12_bestOf 160 = .ok (.iload 10, 2) := by decide +kernel
theorem dX12_bestOf_162 : decode cX12_bestOf 162 = .ok (.putfield 348, 3) := by decide +kernel
theorem dX12_bestOf_165 : decode cX12_bestOf 165 = .ok (.iinc 10 1, 3) := by decide +kernel
theorem dX12_bestOf_168 : decode cX12_bestOf 168 = .ok (.goto (-52), 3) := by decide +kernel
theorem dX12_bestOf_171 : decode cX12_bestOf 171 = .ok (.iinc 7 1, 3) := by decide +kernel
theorem dX12_bestOf_174 : decode cX12_bestOf 174 = .ok (.goto (-147), 3) := by decide +kernel
theorem dX12_bestOf_177 : decode cX12_bestOf 177 = .ok (.lload 5, 2) := by decide +kernel
theorem dX12_bestOf_179 : decode cX12_bestOf 179 = .ok (.lreturn, 1) := by decide +kernel
theorem dX12_isWithin_0 : decode cX12_isWithin 0 = .ok (.iload_n 0, 1) := by decide +kernel
theorem dX12_isWithin_1 : decode cX12_isWithin 1 = .ok (.iconst 0, 1) := by decide +kernel
theorem dX12_isWithin_2 : decode cX12_isWithin 2 = .ok (.invokestatic 351, 3) := by decide +kernel
theorem dX12_isWithin_5 : decode cX12_isWithin 5 = .ok (.iload_n 1, 1) := by decide +kernel
theorem dX12_isWithin_6 : decode cX12_isWithin 6 = .ok (.iconst 0, 1) := by decide +kernel
theorem dX12_isWithin_7 : decode cX12_isWithin 7 = .ok (.invokestatic 351, 3) := by decide +kernel
theorem dX12_isWithin_10 : decode cX12_isWithin 10 = .ok (.if_icmp .gt 33, 3) := by decide +kernel
theorem dX12_isWithin_13 : decode cX12_isWithin 13 = .ok (.iload_n 0, 1) := by decide +kernel
theorem dX12_isWithin_14 : decode cX12_isWithin 14 = .ok (.iconst 1, 1) := by decide +kernel
theorem dX12_isWithin_15 : decode cX12_isWithin 15 = .ok (.invokestatic 351, 3) := by decide +kernel
theorem dX12_isWithin_18 : decode cX12_isWithin 18 = .ok (.iload_n 1, 1) := by decide +kernel
theorem dX12_isWithin_19 : decode cX12_isWithin 19 = .ok (.iconst 1, 1) := by decide +kernel
theorem dX12_isWithin_20 : decode cX12_isWithin 20 = .ok (.invokestatic 351, 3) := by decide +kernel
theorem dX12_isWithin_23 : decode cX12_isWithin 23 = .ok (.if_icmp .gt 20, 3) := by decide +kernel
theorem dX12_isWithin_26 : decode cX12_isWithin 26 = .ok (.iload_n 0, 1) := by decide +kernel
theorem dX12_isWithin_27 : decode cX12_isWithin 27 = .ok (.iconst 2, 1) := by decide +kernel
theorem dX12_isWithin_28 : decode cX12_isWithin 28 = .ok (.invokestatic 351, 3) := by decide +kernel
theorem dX12_isWithin_31 : decode cX12_isWithin 31 = .ok (.iload_n 1, 1) := by decide +kernel
theorem dX12_isWithin_32 : decode cX12_isWithin 32 = .ok (.iconst 2, 1) := by decide +kernel
theorem dX12_isWithin_33 : decode cX12_isWithin 33 = .ok (.invokestatic 351, 3) := by decide +kernel
theorem dX12_isWithin_36 : decode cX12_isWithin 36 = .ok (.if_icmp .gt 7, 3) := by decide +kernel
theorem dX12_isWithin_39 : decode cX12_isWithin 39 = .ok (.iconst 1, 1) := by decide +kernel
theorem dX12_isWithin_40 : decode cX12_isWithin 40 = .ok (.goto 4, 3) := by decide +kernel
theorem dX12_isWithin_43 : decode cX12_isWithin 43 = .ok (.iconst 0, 1) := by decide +kernel
theorem dX12_isWithin_44 : decode cX12_isWithin 44 = .ok (.ireturn, 1) := by decide +kernel
theorem dX12_layBest_0 : decode cX12_layBest 0 = .ok (.iconst 0, 1) := by decide +kernel
theorem dX12_layBest_1 : decode cX12_layBest 1 = .ok (.istore 5, 2) := by decide +kernel
theorem dX12_layBest_3 : decode cX12_layBest 3 = .ok (.iload 5, 2) := by decide +kernel
theorem dX12_layBest_5 : decode cX12_layBest 5 = .ok (.aload_n 0, 1) := by decide +kernel
theorem dX12_layBest_6 : decode cX12_layBest 6 = .ok (.getfield 13, 3) := by decide +kernel
theorem dX12_layBest_9 : decode cX12_layBest 9 = .ok (.if_icmp .gt 33, 3) := by decide +kernel
theorem dX12_layBest_12 : decode cX12_layBest 12 = .ok (.aload_n 0, 1) := by decide +kernel
theorem dX12_layBest_13 : decode cX12_layBest 13 = .ok (.getfield 88, 3) := by decide +kernel
theorem dX12_layBest_16 : decode cX12_layBest 16 = .ok (.iload 5, 2) := by decide +kernel
theorem dX12_layBest_18 : decode cX12_layBest 18 = .ok (.iconst 1, 1) := by decide +kernel
theorem dX12_layBest_19 : decode cX12_layBest 19 = .ok (.iadd, 1) := by decide +kernel
theorem dX12_layBest_20 : decode cX12_layBest 20 = .ok (.aload_n 0, 1) := by decide +kernel
theorem dX12_layBest_21 : decode cX12_layBest 21 = .ok (.getfield 88, 3) := by decide +kernel
theorem dX12_layBest_24 : decode cX12_layBest 24 = .ok (.iload 5, 2) := by decide +kernel
theorem dX12_layBest_26 : decode cX12_layBest 26 = .ok (.iaload, 1) := by decide +kernel
theorem dX12_layBest_27 : decode cX12_layBest 27 = .ok (.aload_n 0, 1) := by decide +kernel
theorem dX12_layBest_28 : decode cX12_layBest 28 = .ok (.getfield 26, 3) := by decide +kernel
theorem dX12_layBest_31 : decode cX12_layBest 31 = .ok (.iload 5, 2) := by decide +kernel
theorem dX12_layBest_33 : decode cX12_layBest 33 = .ok (.iaload, 1) := by decide +kernel
theorem dX12_layBest_34 : decode cX12_layBest 34 = .ok (.iadd, 1) := by decide +kernel
theorem dX12_layBest_35 : decode cX12_layBest 35 = .ok (.iastore, 1) := by decide +kernel
theorem dX12_layBest_36 : decode cX12_layBest 36 = .ok (.iinc 5 1, 3) := by decide +kernel
theorem dX12_layBest_39 : decode cX12_layBest 39 = .ok (.goto (-36), 3) := by decide +kernel
theorem dX12_layBest_42 : decode cX12_layBest 42 = .ok (.iconst 0, 1) := by decide +kernel
theorem dX12_layBest_43 : decode cX12_layBest 43 = .ok (.istore 5, 2) := by decide +kernel
theorem dX12_layBest_45 : decode cX12_layBest 45 = .ok (.iload 5, 2) := by decide +kernel
theorem dX12_layBest_47 : decode cX12_layBest 47 = .ok (.iload_n 3, 1) := by decide +kernel
theorem dX12_layBest_48 : decode cX12_layBest 48 = .ok (.iload_n 2, 1) := by decide +kernel
theorem dX12_layBest_49 : decode cX12_layBest 49 = .ok (.isub, 1) := by decide +kernel
theorem dX12_layBest_50 : decode cX12_layBest 50 = .ok (.if_icmp .gt 89, 3) := by decide +kernel
theorem dX12_layBest_53 : decode cX12_layBest 53 = .ok (.iload_n 2, 1) := by decide +kernel
theorem dX12_layBest_54 : decode cX12_layBest 54 = .ok (.istore 6, 2) := by decide +kernel
theorem dX12_layBest_56 : decode cX12_layBest 56 = .ok (.iload 6, 2) := by decide +kernel
theorem dX12_layBest_58 : decode cX12_layBest 58 = .ok (.iload 5, 2) := by decide +kernel
theorem dX12_layBest_60 : decode cX12_layBest 60 = .ok (.iadd, 1) := by decide +kernel
theorem dX12_layBest_61 : decode cX12_layBest 61 = .ok (.iload_n 3, 1) := by decide +kernel
theorem dX12_layBest_62 : decode cX12_layBest 62 = .ok (.if_icmp .gt 71, 3) := by decide +kernel
theorem dX12_layBest_65 : decode cX12_layBest 65 = .ok (.iconst 0, 1) := by decide +kernel
theorem dX12_layBest_66 : decode cX12_layBest 66 = .ok (.istore 7, 2) := by decide +kernel
theorem dX12_layBest_68 : decode cX12_layBest 68 = .ok (.iload 7, 2) := by decide +kernel
theorem dX12_layBest_70 : decode cX12_layBest 70 = .ok (.iload 4, 2) := by decide +kernel
theorem dX12_layBest_72 : decode cX12_layBest 72 = .ok (.if_icmp .gt 55, 3) := by decide +kernel
theorem dX12_layBest_75 : decode cX12_layBest 75 = .ok (.iload 7, 2) := by decide +kernel
theorem dX12_layBest_77 : decode cX12_layBest 77 = .ok (.iload 4, 2) := by decide +kernel
theorem dX12_layBest_79 : decode cX12_layBest 79 = .ok (.invokestatic 358, 3) := by decide +kernel
theorem dX12_layBest_82 : decode cX12_layBest 82 = .ok (.ifCond .eq 39, 3) := by decide +kernel
theorem dX12_layBest_85 : decode cX12_layBest 85 = .ok (.aload_n 0, 1) := by decide +kernel
theorem dX12_layBest_86 : decode cX12_layBest 86 = .ok (.getfield 85, 3) := by decide +kernel
theorem dX12_layBest_89 : decode cX12_layBest 89 = .ok (.bipush 125, 2) := by decide +kernel
theorem dX12_layBest_91 : decode cX12_layBest 91 = .ok (.bipush 41, 2) := by decide +kernel
theorem dX12_layBest_93 : decode cX12_layBest 93 = .ok (.iload 6, 2) := by decide +kernel
theorem dX12_layBest_95 : decode cX12_layBest 95 = .ok (.imul, 1) := by decide +kernel
theorem dX12_layBest_96 : decode cX12_layBest 96 = .ok (.iload 6, 2) := by decide +kernel
theorem dX12_layBest_98 : decode cX12_layBest 98 = .ok (.iadd, 1) := by decide +kernel
theorem dX12_layBest_99 : decode cX12_layBest 99 = .ok (.iload 5, 2) := by decide +kernel
theorem dX12_layBest_101 : decode cX12_layBest 101 = .ok (.iadd, 1) := by decide +kernel
theorem dX12_layBest_102 : decode cX12_layBest 102 = .ok (.imul, 1) := by decide +kernel
theorem dX12_layBest_103 : decode cX12_layBest 103 = .ok (.iload 7, 2) := by decide +kernel
theorem dX12_layBest_105 : decode cX12_layBest 105 = .ok (.iadd, 1) := by decide +kernel
theorem dX12_layBest_106 : decode cX12_layBest 106 = .ok (.aload_n 0, 1) := by decide +kernel
theorem dX12_layBest_107 : decode cX12_layBest 107 = .ok (.iload_n 1, 1) := by decide +kernel
theorem dX12_layBest_108 : decode cX12_layBest 108 = .ok (.iload 6, 2) := by decide +kernel
theorem dX12_layBest_110 : decode cX12_layBest 110 = .ok (.iload 6, 2) := by decide +kernel
theorem dX12_layBest_112 : decode cX12_layBest 112 = .ok (.iload 5, 2) := by decide +kernel
theorem dX12_layBest_114 : decode cX12_layBest 114 = .ok (.iadd, 1) := by decide +kernel
theorem dX12_layBest_115 : decode cX12_layBest 115 = .ok (.iload 7, 2) := by decide +kernel
theorem dX12_layBest_117 : decode cX12_layBest 117 = .ok (.invokevirtual 361, 3) := by decide +kernel
theorem dX12_layBest_120 : decode cX12_layBest 120 = .ok (.lastore, 1) := by decide +kernel
theorem dX12_layBest_121 : decode cX12_layBest 121 = .ok (.iinc 7 1, 3) := by decide +kernel
theorem dX12_layBest_124 : decode cX12_layBest 124 = .ok (.goto (-56), 3) := by decide +kernel
theorem dX12_layBest_127 : decode cX12_layBest 127 = .ok (.iinc 6 1, 3) := by decide +kernel
theorem dX12_layBest_130 : decode cX12_layBest 130 = .ok (.goto (-74), 3) := by decide +kernel
theorem dX12_layBest_133 : decode cX12_layBest 133 = .ok (.iinc 5 1, 3) := by decide +kernel
theorem dX12_layBest_136 : decode cX12_layBest 136 = .ok (.goto (-91), 3) := by decide +kernel
theorem dX12_layBest_139 : decode cX12_layBest 139 = .ok (.aload_n 0, 1) := by decide +kernel
theorem dX12_layBest_140 : decode cX12_layBest 140 = .ok (.iload_n 1, 1) := by decide +kernel
theorem dX12_layBest_141 : decode cX12_layBest 141 = .ok (.iload_n 2, 1) := by decide +kernel
theorem dX12_layBest_142 : decode cX12_layBest 142 = .ok (.iload_n 3, 1) := by decide +kernel
theorem dX12_layBest_143 : decode cX12_layBest 143 = .ok (.iload 4, 2) := by decide +kernel
theorem dX12_layBest_145 : decode cX12_layBest 145 = .ok (.invokevirtual 361, 3) := by decide +kernel
theorem dX12_layBest_148 : decode cX12_layBest 148 = .ok (.lreturn, 1) := by decide +kernel
theorem dX12_allPieces_0 : decode cX12_allPieces 0 = .ok (.aload_n 0, 1) := by decide +kernel
theorem dX12_allPieces_1 : decode cX12_allPieces 1 = .ok (.getfield 20, 3) := by decide +kernel
theorem dX12_allPieces_4 : decode cX12_allPieces 4 = .ok (.iconst 0, 1) := by decide +kernel
theorem dX12_allPieces_5 : decode cX12_allPieces 5 = .ok (.iaload, 1) := by decide +kernel
theorem dX12_allPieces_6 : decode cX12_allPieces 6 = .ok (.iconst 5, 1) := by decide +kernel
theorem dX12_allPieces_7 : decode cX12_allPieces 7 = .ok (.aload_n 0, 1) := by decide +kernel
theorem dX12_allPieces_8 : decode cX12_allPieces 8 = .ok (.getfield 20, 3) := by decide +kernel
theorem dX12_allPieces_11 : decode cX12_allPieces 11 = .ok (.iconst 1, 1) := by decide +kernel
theorem dX12_allPieces_12 : decode cX12_allPieces 12 = .ok (.iaload, 1) := by decide +kernel
theorem dX12_allPieces_13 : decode cX12_allPieces 13 = .ok (.imul, 1) := by decide +kernel
theorem dX12_allPieces_14 : decode cX12_allPieces 14 = .ok (.iadd, 1) := by decide +kernel
theorem dX12_allPieces_15 : decode cX12_allPieces 15 = .ok (.bipush 25, 2) := by decide +kernel
theorem dX12_allPieces_17 : decode cX12_allPieces 17 = .ok (.aload_n 0, 1) := by decide +kernel
theorem dX12_allPieces_18 : decode cX12_allPieces 18 = .ok (.getfield 20, 3) := by decide +kernel
theorem dX12_allPieces_21 : decode cX12_allPieces 21 = .ok (.iconst 2, 1) := by decide +kernel
theorem dX12_allPieces_22 : decode cX12_allPieces 22 = .ok (.iaload, 1) := by decide +kernel
theorem dX12_allPieces_23 : decode cX12_allPieces 23 = .ok (.imul, 1) := by decide +kernel
theorem dX12_allPieces_24 : decode cX12_allPieces 24 = .ok (.iadd, 1) := by decide +kernel
theorem dX12_allPieces_25 : decode cX12_allPieces 25 = .ok (.ireturn, 1) := by decide +kernel
theorem dX12_best_0 : decode cX12_best 0 = .ok (.aload_n 0, 1) := by decide +kernel
theorem dX12_best_1 : decode cX12_best 1 = .ok (.iconst 0, 1) := by decide +kernel
theorem dX12_best_2 : decode cX12_best 2 = .ok (.putfield 127, 3) := by decide +kernel
theorem dX12_best_5 : decode cX12_best 5 = .ok (.iload_n 1, 1) := by decide +kernel
theorem dX12_best_6 : decode cX12_best 6 = .ok (.iconst 0, 1) := by decide +kernel
theorem dX12_best_7 : decode cX12_best 7 = .ok (.iconst 3, 1) := by decide +kernel
theorem dX12_best_8 : decode cX12_best 8 = .ok (.invokestatic 133, 3) := by decide +kernel
theorem dX12_best_11 : decode cX12_best 11 = .ok (.ifCond .ne 7, 3) := by decide +kernel
theorem dX12_best_14 : decode cX12_best 14 = .ok (.ldc2_w 312, 3) := by decide +kernel
theorem dX12_best_17 : decode cX12_best 17 = .ok (.lreturn, 1) := by decide +kernel
theorem dX12_best_18 : decode cX12_best 18 = .ok (.aload_n 0, 1) := by decide +kernel
theorem dX12_best_19 : decode cX12_best 19 = .ok (.iload_n 1, 1) := by decide +kernel
theorem dX12_best_20 : decode cX12_best 20 = .ok (.iconst 0, 1) := by decide +kernel
theorem dX12_best_21 : decode cX12_best 21 = .ok (.aload_n 0, 1) := by decide +kernel
theorem dX12_best_22 : decode cX12_best 22 = .ok (.getfield 13, 3) := by decide +kernel
theorem dX12_best_25 : decode cX12_best 25 = .ok (.aload_n 0, 1) := by decide +kernel
theorem dX12_best_26 : decode cX12_best 26 = .ok (.invokevirtual 365, 3) := by decide +kernel
theorem dX12_best_29 : decode cX12_best 29 = .ok (.invokevirtual 368, 3) := by decide +kernel
theorem dX12_best_32 : decode cX12_best 32 = .ok (.lstore_n 2, 1) := by decide +kernel
theorem dX12_best_33 : decode cX12_best 33 = .ok (.lload_n 2, 1) := by decide +kernel
theorem dX12_best_34 : decode cX12_best 34 = .ok (.ldc2_w 278, 3) := by decide +kernel
theorem dX12_best_37 : decode cX12_best 37 = .ok (.lcmp, 1) := by decide +kernel
theorem dX12_best_38 : decode cX12_best 38 = .ok (.ifCond .lt 9, 3) := by decide +kernel
theorem dX12_best_41 : decode cX12_best 41 = .ok (.ldc2_w 330, 3) := by decide +kernel
theorem dX12_best_44 : decode cX12_best 44 = .ok (.goto 4, 3) := by decide +kernel
theorem dX12_best_47 : decode cX12_best 47 = .ok (.lload_n 2, 1) := by decide +kernel
theorem dX12_best_48 : decode cX12_best 48 = .ok (.lreturn, 1) := by decide +kernel
theorem dX12_next_0 : decode cX12_next 0 = .ok (.aload_n 0, 1) := by decide +kernel
theorem dX12_next_1 : decode cX12_next 1 = .ok (.iconst 0, 1) := by decide +kernel
theorem dX12_next_2 : decode cX12_next 2 = .ok (.putfield 127, 3) := by decide +kernel
theorem dX12_next_5 : decode cX12_next 5 = .ok (.iload_n 1, 1) := by decide +kernel
theorem dX12_next_6 : decode cX12_next 6 = .ok (.iconst 0, 1) := by decide +kernel
theorem dX12_next_7 : decode cX12_next 7 = .ok (.iconst 3, 1) := by decide +kernel
theorem dX12_next_8 : decode cX12_next 8 = .ok (.invokestatic 133, 3) := by decide +kernel
theorem dX12_next_11 : decode cX12_next 11 = .ok (.ifCond .eq 41, 3) := by decide +kernel
theorem dX12_next_14 : decode cX12_next 14 = .ok (.iload_n 2, 1) := by decide +kernel
theorem dX12_next_15 : decode cX12_next 15 = .ok (.ifCond .lt 37, 3) := by decide +kernel
theorem dX12_next_18 : decode cX12_next 18 = .ok (.iload_n 3, 1) := by decide +kernel
theorem dX12_next_19 : decode cX12_next 19 = .ok (.iload_n 2, 1) := by decide +kernel
theorem dX12_next_20 : decode cX12_next 20 = .ok (.if_icmp .lt 32, 3) := by decide +kernel
theorem dX12_next_23 : decode cX12_next 23 = .ok (.iload_n 3, 1) := by decide +kernel
theorem dX12_next_24 : decode cX12_next 24 = .ok (.aload_n 0, 1) := by decide +kernel
theorem dX12_next_25 : decode cX12_next 25 = .ok (.getfield 13, 3) := by decide +kernel
theorem dX12_next_28 : decode cX12_next 28 = .ok (.if_icmp .gt 24, 3) := by decide +kernel
theorem dX12_next_31 : decode cX12_next 31 = .ok (.iload 4, 2) := by decide +kernel
theorem dX12_next_33 : decode cX12_next 33 = .ok (.iconst 0, 1) := by decide +kernel
theorem dX12_next_34 : decode cX12_next 34 = .ok (.bipush 124, 2) := by decide +kernel
theorem dX12_next_36 : decode cX12_next 36 = .ok (.invokestatic 133, 3) := by decide +kernel
theorem dX12_next_39 : decode cX12_next 39 = .ok (.ifCond .eq 13, 3) := by decide +kernel
theorem dX12_next_42 : decode cX12_next 42 = .ok (.iload 5, 2) := by decide +kernel
theorem dX12_next_44 : decode cX12_next 44 = .ok (.iconst 0, 1) := by decide +kernel
theorem dX12_next_45 : decode cX12_next 45 = .ok (.iconst 2, 1) := by decide +kernel
theorem dX12_next_46 : decode cX12_next 46 = .ok (.invokestatic 133, 3) := by decide +kernel
theorem dX12_next_49 : decode cX12_next 49 = .ok (.ifCond .ne 7, 3) := by decide +kernel
theorem dX12_next_52 : decode cX12_next 52 = .ok (.ldc2_w 312, 3) := by decide +kernel
theorem dX12_next_55 : decode cX12_next 55 = .ok (.lreturn, 1) := by decide +kernel
theorem dX12_next_56 : decode cX12_next 56 = .ok (.aload_n 0, 1) := by decide +kernel
theorem dX12_next_57 : decode cX12_next 57 = .ok (.iload_n 1, 1) := by decide +kernel
theorem dX12_next_58 : decode cX12_next 58 = .ok (.iload_n 2, 1) := by decide +kernel
theorem dX12_next_59 : decode cX12_next 59 = .ok (.iload_n 3, 1) := by decide +kernel
theorem dX12_next_60 : decode cX12_next 60 = .ok (.iload 4, 2) := by decide +kernel
theorem dX12_next_62 : decode cX12_next 62 = .ok (.invokevirtual 368, 3) := by decide +kernel
theorem dX12_next_65 : decode cX12_next 65 = .ok (.lstore 6, 2) := by decide +kernel
theorem dX12_next_67 : decode cX12_next 67 = .ok (.iload 5, 2) := by decide +kernel
theorem dX12_next_69 : decode cX12_next 69 = .ok (.iconst 1, 1) := by decide +kernel
theorem dX12_next_70 : decode cX12_next 70 = .ok (.if_icmp .ne 11, 3) := by decide +kernel
theorem dX12_next_73 : decode cX12_next 73 = .ok (.aload_n 0, 1) := by decide +kernel
theorem dX12_next_74 : decode cX12_next 74 = .ok (.getfield 345, 3) := by decide +kernel
theorem dX12_next_77 : decode cX12_next 77 = .ok (.i2l, 1) := by decide +kernel
theorem dX12_next_78 : decode cX12_next 78 = .ok (.goto 34, 3) := by decide +kernel
theorem dX12_next_81 : decode cX12_next 81 = .ok (.iload 5, 2) := by decide +kernel
theorem dX12_next_83 : decode cX12_next 83 = .ok (.iconst 2, 1) := by decide +kernel
theorem dX12_next_84 : decode cX12_next 84 = .ok (.if_icmp .ne 11, 3) := by decide +kernel
theorem dX12_next_87 : decode cX12_next 87 = .ok (.aload_n 0, 1) := by decide +kernel
theorem dX12_next_88 : decode cX12_next 88 = .ok (.getfield 348, 3) := by decide +kernel
theorem dX12_next_91 : decode cX12_next 91 = .ok (.i2l, 1) := by decide +kernel
theorem dX12_next_92 : decode cX12_next 92 = .ok (.goto 20, 3) := by decide +kernel
theorem dX12_next_95 : decode cX12_next 95 = .ok (.lload 6, 2) := by decide +kernel
theorem dX12_next_97 : decode cX12_next 97 = .ok (.ldc2_w 278, 3) := by decide +kernel
theorem dX12_next_100 : decode cX12_next 100 = .ok (.lcmp, 1) := by decide +kernel
theorem dX12_next_101 : decode cX12_next 101 = .ok (.ifCond .lt 9, 3) := by decide +kernel
theorem dX12_next_104 : decode cX12_next 104 = .ok (.ldc2_w 330, 3) := by decide +kernel
theorem dX12_next_107 : decode cX12_next 107 = .ok (.goto 5, 3) := by decide +kernel
theorem dX12_next_110 : decode cX12_next 110 = .ok (.lload 6, 2) := by decide +kernel
theorem dX12_next_112 : decode cX12_next 112 = .ok (.lreturn, 1) := by decide +kernel
theorem dX12_edge_0 : decode cX12_edge 0 = .ok (.aload_n 0, 1) := by decide +kernel
theorem dX12_edge_1 : decode cX12_edge 1 = .ok (.iconst 0, 1) := by decide +kernel
theorem dX12_edge_2 : decode cX12_edge 2 = .ok (.putfield 127, 3) := by decide +kernel
theorem dX12_edge_5 : decode cX12_edge 5 = .ok (.iload_n 1, 1) := by decide +kernel
theorem dX12_edge_6 : decode cX12_edge 6 = .ok (.invokestatic 144, 3) := by decide +kernel
theorem dX12_edge_9 : decode cX12_edge 9 = .ok (.ifCond .eq 12, 3) := by decide +kernel
theorem dX12_edge_12 : decode cX12_edge 12 = .ok (.iload_n 2, 1) := by decide +kernel
theorem dX12_edge_13 : decode cX12_edge 13 = .ok (.iconst 0, 1) := by decide +kernel
theorem dX12_edge_14 : decode cX12_edge 14 = .ok (.iconst 3, 1) := by decide +kernel
theorem dX12_edge_15 : decode cX12_edge 15 = .ok (.invokestatic 133, 3) := by decide +kernel
theorem dX12_edge_18 : decode cX12_edge 18 = .ok (.ifCond .ne 5, 3) := by decide +kernel
theorem dX12_edge_21 : decode cX12_edge 21 = .ok (.iconst (-1), 1) := by decide +kernel
theorem dX12_edge_22 : decode cX12_edge 22 = .ok (.ireturn, 1) := by decide +kernel
theorem dX12_edge_23 : decode cX12_edge 23 = .ok (.aload_n 0, 1) := by decide +kernel
theorem dX12_edge_24 : decode cX12_edge 24 = .ok (.iload_n 2, 1) := by decide +kernel
theorem dX12_edge_25 : decode cX12_edge 25 = .ok (.iconst 0, 1) := by decide +kernel
theorem dX12_edge_26 : decode cX12_edge 26 = .ok (.aload_n 0, 1) := by decide +kernel
theorem dX12_edge_27 : decode cX12_edge 27 = .ok (.getfield 13, 3) := by decide +kernel
theorem dX12_edge_30 : decode cX12_edge 30 = .ok (.aload_n 0, 1) := by decide +kernel
theorem dX12_edge_31 : decode cX12_edge 31 = .ok (.invokevirtual 365, 3) := by decide +kernel
theorem dX12_edge_34 : decode cX12_edge 34 = .ok (.invokevirtual 368, 3) := by decide +kernel
theorem dX12_edge_37 : decode cX12_edge 37 = .ok (.ldc2_w 278, 3) := by decide +kernel
theorem dX12_edge_40 : decode cX12_edge 40 = .ok (.lcmp, 1) := by decide +kernel
theorem dX12_edge_41 : decode cX12_edge 41 = .ok (.ifCond .lt 6, 3) := by decide +kernel
theorem dX12_edge_44 : decode cX12_edge 44 = .ok (.bipush (-2), 2) := by decide +kernel
theorem dX12_edge_46 : decode cX12_edge 46 = .ok (.ireturn, 1) := by decide +kernel
theorem dX12_edge_47 : decode cX12_edge 47 = .ok (.aload_n 0, 1) := by decide +kernel
theorem dX12_edge_48 : decode cX12_edge 48 = .ok (.getfield 23, 3) := by decide +kernel
theorem dX12_edge_51 : decode cX12_edge 51 = .ok (.iload_n 1, 1) := by decide +kernel
theorem dX12_edge_52 : decode cX12_edge 52 = .ok (.iaload, 1) := by decide +kernel
theorem dX12_edge_53 : decode cX12_edge 53 = .ok (.istore_n 3, 1) := by decide +kernel
theorem dX12_edge_54 : decode cX12_edge 54 = .ok (.aload_n 0, 1) := by decide +kernel
theorem dX12_edge_55 : decode cX12_edge 55 = .ok (.getfield 345, 3) := by decide +kernel
theorem dX12_edge_58 : decode cX12_edge 58 = .ok (.istore 4, 2) := by decide +kernel
theorem dX12_edge_60 : decode cX12_edge 60 = .ok (.aload_n 0, 1) := by decide +kernel
theorem dX12_edge_61 : decode cX12_edge 61 = .ok (.getfield 348, 3) := by decide +kernel
theorem dX12_edge_64 : decode cX12_edge 64 = .ok (.istore 5, 2) := by decide +kernel
theorem dX12_edge_66 : decode cX12_edge 66 = .ok (.bipush 100, 2) := by decide +kernel
theorem dX12_edge_68 : decode cX12_edge 68 = .ok (.istore 6, 2) := by decide +kernel
theorem dX12_edge_70 : decode cX12_edge 70 = .ok (.iload_n 3, 1) := by decide +kernel
theorem dX12_edge_71 : decode cX12_edge 71 = .ok (.iconst 1, 1) := by decide +kernel
theorem dX12_edge_72 : decode cX12_edge 72 = .ok (.iadd, 1) := by decide +kernel
theorem dX12_edge_73 : decode cX12_edge 73 = .ok (.istore 7, 2) := by decide +kernel
theorem dX12_edge_75 : decode cX12_edge 75 = .ok (.iload 7, 2) := by decide +kernel
theorem dX12_edge_77 : decode cX12_edge 77 = .ok (.bipush 100, 2) := by decide +kernel
theorem dX12_edge_79 : decode cX12_edge 79 = .ok (.if_icmp .ge 67, 3) := by decide +kernel
theorem dX12_edge_82 : decode cX12_edge 82 = .ok (.iload 6, 2) := by decide +kernel
theorem dX12_edge_84 : decode cX12_edge 84 = .ok (.bipush 100, 2) := by decide +kernel
theorem dX12_edge_86 : decode cX12_edge 86 = .ok (.if_icmp .ne 60, 3) := by decide +kernel
theorem dX12_edge_89 : decode cX12_edge 89 = .ok (.iload_n 2, 1) := by decide +kernel
theorem dX12_edge_90 : decode cX12_edge 90 = .ok (.iconst 1, 1) := by decide +kernel
theorem dX12_edge_91 : decode cX12_edge 91 = .ok (.if_icmp .le 55, 3) := by decide +kernel
theorem dX12_edge_94 : decode cX12_edge 94 = .ok (.aload_n 0, 1) := by decide +kernel
theorem dX12_edge_95 : decode cX12_edge 95 = .ok (.getfield 23, 3) := by decide +kernel
theorem dX12_edge_98 : decode cX12_edge 98 = .ok (.iload_n 1, 1) := by decide +kernel
theorem dX12_edge_99 : decode cX12_edge 99 = .ok (.iload 7, 2) := by decide +kernel
theorem dX12_edge_101 : decode cX12_edge 101 = .ok (.iastore, 1) := by decide +kernel
theorem dX12_edge_102 : decode cX12_edge 102 = .ok (.aload_n 0, 1) := by decide +kernel
theorem dX12_edge_103 : decode cX12_edge 103 = .ok (.iload_n 2, 1) := by decide +kernel
theorem dX12_edge_104 : decode cX12_edge 104 = .ok (.iconst 0, 1) := by decide +kernel
theorem dX12_edge_105 : decode cX12_edge 105 = .ok (.aload_n 0, 1) := by decide +kernel
theorem dX12_edge_106 : decode cX12_edge 106 = .ok (.getfield 13, 3) := by decide +kernel
theorem dX12_edge_109 : decode cX12_edge 109 = .ok (.aload_n 0, 1) := by decide +kernel
theorem dX12_edge_110 : decode cX12_edge 110 = .ok (.invokevirtual 365, 3) := by decide +kernel
theorem dX12_edge_113 : decode cX12_edge 113 = .ok (.invokevirtual 368, 3) := by decide +kernel
theorem dX12_edge_116 : decode cX12_edge 116 = .ok (.lstore 8, 2) := by decide +kernel
theorem dX12_edge_118 : decode cX12_edge 118 = .ok (.aload_n 0, 1) := by decide +kernel
theorem dX12_edge_119 : decode cX12_edge 119 = .ok (.getfield 345, 3) := by decide +kernel
theorem dX12_edge_122 : decode cX12_edge 122 = .ok (.iload 4, 2) := by decide +kernel
theorem dX12_edge_124 : decode cX12_edge 124 = .ok (.if_icmp .ne 12, 3) := by decide +kernel
theorem dX12_edge_127 : decode cX12_edge 127 = .ok (.aload_n 0, 1) := by decide +kernel
theorem dX12_edge_128 : decode cX12_edge 128 = .ok (.getfield 348, 3) := by decide +kernel
theorem dX12_edge_131 : decode cX12_edge 131 = .ok (.iload 5, 2) := by decide +kernel
theorem dX12_edge_133 : decode cX12_edge 133 = .ok (.if_icmp .eq 7, 3) := by decide +kernel
theorem dX12_edge_136 : decode cX12_edge 136 = .ok (.iload 7, 2) := by decide +kernel
theorem dX12_edge_138 : decode cX12_edge 138 = .ok (.istore 6, 2) := by decide +kernel
theorem dX12_edge_140 : decode cX12_edge 140 = .ok (.iinc 7 1, 3) := by decide +kernel
theorem dX12_edge_143 : decode cX12_edge 143 = .ok (.goto (-68), 3) := by decide +kernel
theorem dX12_edge_146 : decode cX12_edge 146 = .ok (.aload_n 0, 1) := by decide +kernel
theorem dX12_edge_147 : decode cX12_edge 147 = .ok (.getfield 23, 3) := by decide +kernel
theorem dX12_edge_150 : decode cX12_edge 150 = .ok (.iload_n 1, 1) := by decide +kernel
theorem dX12_edge_151 : decode cX12_edge 151 = .ok (.iload_n 3, 1) := by decide +kernel
theorem dX12_edge_152 : decode cX12_edge 152 = .ok (.iastore, 1) := by decide +kernel
theorem dX12_edge_153 : decode cX12_edge 153 = .ok (.iload 6, 2) := by decide +kernel
theorem dX12_edge_155 : decode cX12_edge 155 = .ok (.ireturn, 1) := by decide +kernel
theorem dX12_weakAt_0 : decode cX12_weakAt 0 = .ok (.iload_n 1, 1) := by decide +kernel
theorem dX12_weakAt_1 : decode cX12_weakAt 1 = .ok (.iload_n 2, 1) := by decide +kernel
theorem dX12_weakAt_2 : decode cX12_weakAt 2 = .ok (.if_icmp .ne 7, 3) := by decide +kernel
theorem dX12_weakAt_5 : decode cX12_weakAt 5 = .ok (.iconst 0, 1) := by decide +kernel
theorem dX12_weakAt_6 : decode cX12_weakAt 6 = .ok (.goto 35, 3) := by decide +kernel
theorem dX12_weakAt_9 : decode cX12_weakAt 9 = .ok (.iload 4, 2) := by decide +kernel
theorem dX12_weakAt_11 : decode cX12_weakAt 11 = .ok (.ifCond .ne 9, 3) := by decide +kernel
theorem dX12_weakAt_14 : decode cX12_weakAt 14 = .ok (.ldc_w 371, 3) := by decide +kernel
theorem dX12_weakAt_17 : decode cX12_weakAt 17 = .ok (.goto 24, 3) := by decide +kernel
theorem dX12_weakAt_20 : decode cX12_weakAt 20 = .ok (.aload_n 0, 1) := by decide +kernel
theorem dX12_weakAt_21 : decode cX12_weakAt 21 = .ok (.getfield 92, 3) := by decide +kernel
theorem dX12_weakAt_24 : decode cX12_weakAt 24 = .ok (.iconst 5, 1) := by decide +kernel
theorem dX12_weakAt_25 : decode cX12_weakAt 25 = .ok (.bipush 41, 2) := by decide +kernel
theorem dX12_weakAt_27 : decode cX12_weakAt 27 = .ok (.bipush 41, 2) := by decide +kernel
theorem dX12_weakAt_29 : decode cX12_weakAt 29 = .ok (.iload_n 1, 1) := by decide +kernel
theorem dX12_weakAt_30 : decode cX12_weakAt 30 = .ok (.imul, 1) := by decide +kernel
theorem dX12_weakAt_31 : decode cX12_weakAt 31 = .ok (.iload_n 2, 1) := by decide +kernel
theorem dX12_weakAt_32 : decode cX12_weakAt 32 = .ok (.iadd, 1) := by decide +kernel
theorem dX12_weakAt_33 : decode cX12_weakAt 33 = .ok (.imul, 1) := by decide +kernel
theorem dX12_weakAt_34 : decode cX12_weakAt 34 = .ok (.iload_n 3, 1) := by decide +kernel
theorem dX12_weakAt_35 : decode cX12_weakAt 35 = .ok (.iadd, 1) := by decide +kernel
theorem dX12_weakAt_36 : decode cX12_weakAt 36 = .ok (.imul, 1) := by decide +kernel
theorem dX12_weakAt_37 : decode cX12_weakAt 37 = .ok (.iload 4, 2) := by decide +kernel
theorem dX12_weakAt_39 : decode cX12_weakAt 39 = .ok (.iadd, 1) := by decide +kernel
theorem dX12_weakAt_40 : decode cX12_weakAt 40 = .ok (.iaload, 1) := by decide +kernel
theorem dX12_weakAt_41 : decode cX12_weakAt 41 = .ok (.ireturn, 1) := by decide +kernel
theorem dX12_weakBest_0 : decode cX12_weakBest 0 = .ok (.iload 4, 2) := by decide +kernel
theorem dX12_weakBest_2 : decode cX12_weakBest 2 = .ok (.iconst 1, 1) := by decide +kernel
theorem dX12_weakBest_3 : decode cX12_weakBest 3 = .ok (.if_icmp .le 17, 3) := by decide +kernel
theorem dX12_weakBest_6 : decode cX12_weakBest 6 = .ok (.aload_n 0, 1) := by decide +kernel
theorem dX12_weakBest_7 : decode cX12_weakBest 7 = .ok (.iload_n 1, 1) := by decide +kernel
theorem dX12_weakBest_8 : decode cX12_weakBest 8 = .ok (.iload_n 2, 1) := by decide +kernel
theorem dX12_weakBest_9 : decode cX12_weakBest 9 = .ok (.iconst 0, 1) := by decide +kernel
theorem dX12_weakBest_10 : decode cX12_weakBest 10 = .ok (.iload 4, 2) := by decide +kernel
theorem dX12_weakBest_12 : decode cX12_weakBest 12 = .ok (.iconst 1, 1) := by decide +kernel
theorem dX12_weakBest_13 : decode cX12_weakBest 13 = .ok (.isub, 1) := by decide +kernel
theorem dX12_weakBest_14 : decode cX12_weakBest 14 = .ok (.invokevirtual 372, 3) := by decide +kernel
theorem dX12_weakBest_17 : decode cX12_weakBest 17 = .ok (.goto 6, 3) := by decide +kernel
theorem dX12_weakBest_20 : decode cX12_weakBest 20 = .ok (.ldc_w 371, 3) := by decide +kernel
theorem dX12_weakBest_23 : decode cX12_weakBest 23 = .ok (.istore 6, 2) := by decide +kernel
theorem dX12_weakBest_25 : decode cX12_weakBest 25 = .ok (.iconst 1, 1) := by decide +kernel
theorem dX12_weakBest_26 : decode cX12_weakBest 26 = .ok (.istore 7, 2) := by decide +kernel
theorem dX12_weakBest_28 : decode cX12_weakBest 28 = .ok (.iload 7, 2) := by decide +kernel
theorem dX12_weakBest_30 : decode cX12_weakBest 30 = .ok (.aload_n 0, 1) := by decide +kernel
theorem dX12_weakBest_31 : decode cX12_weakBest 31 = .ok (.getfield 13, 3) := by decide +kernel
theorem dX12_weakBest_34 : decode cX12_weakBest 34 = .ok (.if_icmp .gt 104, 3) := by decide +kernel
theorem dX12_weakBest_37 : decode cX12_weakBest 37 = .ok (.iload 7, 2) := by decide +kernel
theorem dX12_weakBest_39 : decode cX12_weakBest 39 = .ok (.aload_n 0, 1) := by decide +kernel
theorem dX12_weakBest_40 : decode cX12_weakBest 40 = .ok (.getfield 17, 3) := by decide +kernel
theorem dX12_weakBest_43 : decode cX12_weakBest 43 = .ok (.iconst 0, 1) := by decide +kernel
theorem dX12_weakBest_44 : decode cX12_weakBest 44 = .ok (.iaload, 1) := by decide +kernel
theorem dX12_weakBest_45 : decode cX12_weakBest 45 = .ok (.isub, 1) := by decide +kernel
theorem dX12_weakBest_46 : decode cX12_weakBest 46 = .ok (.iload 5, 2) := by decide +kernel
theorem dX12_weakBest_48 : decode cX12_weakBest 48 = .ok (.iload_n 3, 1) := by decide +kernel
theorem dX12_weakBest_49 : decode cX12_weakBest 49 = .ok (.imul, 1) := by decide +kernel
theorem dX12_weakBest_50 : decode cX12_weakBest 50 = .ok (.iadd, 1) := by decide +kernel
theorem dX12_weakBest_51 : decode cX12_weakBest 51 = .ok (.istore 8, 2) := by decide +kernel
theorem dX12_weakBest_53 : decode cX12_weakBest 53 = .ok (.iload 8, 2) := by decide +kernel
theorem dX12_weakBest_55 : decode cX12_weakBest 55 = .ok (.iload_n 1, 1) := by decide +kernel
theorem dX12_weakBest_56 : decode cX12_weakBest 56 = .ok (.if_icmp .le 76, 3) := by decide +kernel
theorem dX12_weakBest_59 : decode cX12_weakBest 59 = .ok (.iload 8, 2) := by decide +kernel
theorem dX12_weakBest_61 : decode cX12_weakBest 61 = .ok (.iload_n 2, 1) := by decide +kernel
theorem dX12_weakBest_62 : decode cX12_weakBest 62 = .ok (.if_icmp .le 6, 3) := by decide +kernel
theorem dX12_weakBest_65 : decode cX12_weakBest 65 = .ok (.goto 67, 3) := by decide +kernel
theorem dX12_weakBest_68 : decode cX12_weakBest 68 = .ok (.aload_n 0, 1) := by decide +kernel
theorem dX12_weakBest_69 : decode cX12_weakBest 69 = .ok (.iload 8, 2) := by decide +kernel
theorem dX12_weakBest_71 : decode cX12_weakBest 71 = .ok (.iload_n 2, 1) := by decide +kernel
theorem dX12_weakBest_72 : decode cX12_weakBest 72 = .ok (.iload_n 3, 1) := by decide +kernel
theorem dX12_weakBest_73 : decode cX12_weakBest 73 = .ok (.iconst 1, 1) := by decide +kernel
theorem dX12_weakBest_74 : decode cX12_weakBest 74 = .ok (.iadd, 1) := by decide +kernel
theorem dX12_weakBest_75 : decode cX12_weakBest 75 = .ok (.iload 4, 2) := by decide +kernel
theorem dX12_weakBest_77 : decode cX12_weakBest 77 = .ok (.invokevirtual 372, 3) := by decide +kernel
theorem dX12_weakBest_80 : decode cX12_weakBest 80 = .ok (.istore 9, 2) := by decide +kernel
theorem dX12_weakBest_82 : decode cX12_weakBest 82 = .ok (.aload_n 0, 1) := by decide +kernel
theorem dX12_weakBest_83 : decode cX12_weakBest 83 = .ok (.iload_n 1, 1) := by decide +kernel
theorem dX12_weakBest_84 : decode cX12_weakBest 84 = .ok (.iload 8, 2) := by decide +kernel
theorem dX12_weakBest_86 : decode cX12_weakBest 86 = .ok (.iconst 1, 1) := by decide +kernel
theorem dX12_weakBest_87 : decode cX12_weakBest 87 = .ok (.isub, 1) := by decide +kernel
theorem dX12_weakBest_88 : decode cX12_weakBest 88 = .ok (.iconst 0, 1) := by decide +kernel
theorem dX12_weakBest_89 : decode cX12_weakBest 89 = .ok (.iload 4, 2) := by decide +kernel
theorem dX12_weakBest_91 : decode cX12_weakBest 91 = .ok (.iconst 1, 1) := by decide +kernel
theorem dX12_weakBest_92 : decode cX12_weakBest 92 = .ok (.isub, 1) := by decide +kernel
theorem dX12_weakBest_93 : decode cX12_weakBest 93 = .ok (.invokevirtual 372, 3) := by decide +kernel
theorem dX12_weakBest_96 : decode cX12_weakBest 96 = .ok (.istore 10, 2) := by decide +kernel
theorem dX12_weakBest_98 : decode cX12_weakBest 98 = .ok (.iconst 1, 1) := by decide +kernel
theorem dX12_weakBest_99 : decode cX12_weakBest 99 = .ok (.iload 9, 2) := by decide +kernel
theorem dX12_weakBest_101 : decode cX12_weakBest 101 = .ok (.iload 10, 2) := by decide +kernel
theorem dX12_weakBest_103 : decode cX12_weakBest 103 = .ok (.if_icmp .le 8, 3) := by decide +kernel
theorem dX12_weakBest_106 : decode cX12_weakBest 106 = .ok (.iload 9, 2) := by decide +kernel
theorem dX12_weakBest_108 : decode cX12_weakBest 108 = .ok (.goto 5, 3) := by decide +kernel
theorem dX12_weakBest_111 : decode cX12_weakBest 111 = .ok (.iload 10, 2) := by decide +kernel
theorem dX12_weakBest_113 : decode cX12_weakBest 113 = .ok (.iadd, 1) := by decide +kernel
theorem dX12_weakBest_114 : decode cX12_weakBest 114 = .ok (.istore 11, 2) := by decide +kernel
theorem dX12_weakBest_116 : decode cX12_weakBest 116 = .ok (.iload 11, 2) := by decide +kernel
theorem dX12_weakBest_118 : decode cX12_weakBest 118 = .ok (.iload 6, 2) := by decide +kernel
theorem dX12_weakBest_120 : decode cX12_weakBest 120 = .ok (.if_icmp .ge 8, 3) := by decide +kernel
theorem dX12_weakBest_123 : decode cX12_weakBest 123 = .ok (.iload 11, 2) := by decide +kernel
theorem dX12_weakBest_125 : decode cX12_weakBest 125 = .ok (.goto 5, 3) := by decide +kernel
theorem dX12_weakBest_128 : decode cX12_weakBest 128 = .ok (.iload 6, 2) := by decide +kernel
theorem dX12_weakBest_130 : decode cX12_weakBest 130 = .ok (.istore 6, 2) := by decide +kernel
theorem dX12_weakBest_132 : decode cX12_weakBest 132 = .ok (.iinc 7 1, 3) := by decide +kernel
theorem dX12_weakBest_135 : decode cX12_weakBest 135 = .ok (.goto (-107), 3) := by decide +kernel
theorem dX12_weakBest_138 : decode cX12_weakBest 138 = .ok (.iload 6, 2) := by decide +kernel
theorem dX12_weakBest_140 : decode cX12_weakBest 140 = .ok (.ldc_w 371, 3) := by decide +kernel
theorem dX12_weakBest_143 : decode cX12_weakBest 143 = .ok (.if_icmp .le 9, 3) := by decide +kernel
theorem dX12_weakBest_146 : decode cX12_weakBest 146 = .ok (.ldc_w 371, 3) := by decide +kernel
theorem dX12_weakBest_149 : decode cX12_weakBest 149 = .ok (.goto 5, 3) := by decide +kernel
theorem dX12_weakBest_152 : decode cX12_weakBest 152 = .ok (.iload 6, 2) := by decide +kernel
theorem dX12_weakBest_154 : decode cX12_weakBest 154 = .ok (.ireturn, 1) := by decide +kernel
theorem dX12_weak_0 : decode cX12_weak 0 = .ok (.aload_n 0, 1) := by decide +kernel
theorem dX12_weak_1 : decode cX12_weak 1 = .ok (.iconst 0, 1) := by decide +kernel
theorem dX12_weak_2 : decode cX12_weak 2 = .ok (.putfield 127, 3) := by decide +kernel
theorem dX12_weak_5 : decode cX12_weak 5 = .ok (.iload_n 1, 1) := by decide +kernel
theorem dX12_weak_6 : decode cX12_weak 6 = .ok (.iconst 1, 1) := by decide +kernel
theorem dX12_weak_7 : decode cX12_weak 7 = .ok (.iconst 4, 1) := by decide +kernel
theorem dX12_weak_8 : decode cX12_weak 8 = .ok (.invokestatic 133, 3) := by decide +kernel
theorem dX12_weak_11 : decode cX12_weak 11 = .ok (.ifCond .eq 12, 3) := by decide +kernel
theorem dX12_weak_14 : decode cX12_weak 14 = .ok (.iload_n 2, 1) := by decide +kernel
theorem dX12_weak_15 : decode cX12_weak 15 = .ok (.iconst 0, 1) := by decide +kernel
theorem dX12_weak_16 : decode cX12_weak 16 = .ok (.iconst 3, 1) := by decide +kernel
theorem dX12_weak_17 : decode cX12_weak 17 = .ok (.invokestatic 133, 3) := by decide +kernel
theorem dX12_weak_20 : decode cX12_weak 20 = .ok (.ifCond .ne 5, 3) := by decide +kernel
theorem dX12_weak_23 : decode cX12_weak 23 = .ok (.iconst (-1), 1) := by decide +kernel
theorem dX12_weak_24 : decode cX12_weak 24 = .ok (.ireturn, 1) := by decide +kernel
theorem dX12_weak_25 : decode cX12_weak 25 = .ok (.iconst 1, 1) := by decide +kernel
theorem dX12_weak_26 : decode cX12_weak 26 = .ok (.istore_n 3, 1) := by decide +kernel
theorem dX12_weak_27 : decode cX12_weak 27 = .ok (.iload_n 3, 1) := by decide +kernel
theorem dX12_weak_28 : decode cX12_weak 28 = .ok (.aload_n 0, 1) := by decide +kernel
theorem dX12_weak_29 : decode cX12_weak 29 = .ok (.getfield 13, 3) := by decide +kernel
theorem dX12_weak_32 : decode cX12_weak 32 = .ok (.if_icmp .gt 105, 3) := by decide +kernel
theorem dX12_weak_35 : decode cX12_weak 35 = .ok (.iconst 0, 1) := by decide +kernel
theorem dX12_weak_36 : decode cX12_weak 36 = .ok (.istore 4, 2) := by decide +kernel
theorem dX12_weak_38 : decode cX12_weak 38 = .ok (.iload 4, 2) := by decide +kernel
theorem dX12_weak_40 : decode cX12_weak 40 = .ok (.iload_n 3, 1) := by decide +kernel
theorem dX12_weak_41 : decode cX12_weak 41 = .ok (.iadd, 1) := by decide +kernel
theorem dX12_weak_42 : decode cX12_weak 42 = .ok (.aload_n 0, 1) := by decide +kernel
theorem dX12_weak_43 : decode cX12_weak 43 = .ok (.getfield 13, 3) := by decide +kernel
theorem dX12_weak_46 : decode cX12_weak 46 = .ok (.if_icmp .gt 85, 3) := by decide +kernel
theorem dX12_weak_49 : decode cX12_weak 49 = .ok (.iconst 1, 1) := by decide +kernel
theorem dX12_weak_50 : decode cX12_weak 50 = .ok (.istore 5, 2) := by decide +kernel
theorem dX12_weak_52 : decode cX12_weak 52 = .ok (.iload 5, 2) := by decide +kernel
theorem dX12_weak_54 : decode cX12_weak 54 = .ok (.iload_n 1, 1) := by decide +kernel
theorem dX12_weak_55 : decode cX12_weak 55 = .ok (.if_icmp .gt 70, 3) := by decide +kernel
theorem dX12_weak_58 : decode cX12_weak 58 = .ok (.iconst 0, 1) := by decide +kernel
theorem dX12_weak_59 : decode cX12_weak 59 = .ok (.istore 6, 2) := by decide +kernel
theorem dX12_weak_61 : decode cX12_weak 61 = .ok (.iload 6, 2) := by decide +kernel
theorem dX12_weak_63 : decode cX12_weak 63 = .ok (.aload_n 0, 1) := by decide +kernel
theorem dX12_weak_64 : decode cX12_weak 64 = .ok (.getfield 13, 3) := by decide +kernel
theorem dX12_weak_67 : decode cX12_weak 67 = .ok (.iload_n 3, 1) := by decide +kernel
theorem dX12_weak_68 : decode cX12_weak 68 = .ok (.isub, 1) := by decide +kernel
theorem dX12_weak_69 : decode cX12_weak 69 = .ok (.if_icmp .gt 50, 3) := by decide +kernel
theorem dX12_weak_72 : decode cX12_weak 72 = .ok (.aload_n 0, 1) := by decide +kernel
theorem dX12_weak_73 : decode cX12_weak 73 = .ok (.getfield 92, 3) := by decide +kernel
theorem dX12_weak_76 : decode cX12_weak 76 = .ok (.iconst 5, 1) := by decide +kernel
theorem dX12_weak_77 : decode cX12_weak 77 = .ok (.bipush 41, 2) := by decide +kernel
theorem dX12_weak_79 : decode cX12_weak 79 = .ok (.bipush 41, 2) := by decide +kernel
theorem dX12_weak_81 : decode cX12_weak 81 = .ok (.iload 4, 2) := by decide +kernel
theorem dX12_weak_83 : decode cX12_weak 83 = .ok (.imul, 1) := by decide +kernel
theorem dX12_weak_84 : decode cX12_weak 84 = .ok (.iload 4, 2) := by decide +kernel
theorem dX12_weak_86 : decode cX12_weak 86 = .ok (.iadd, 1) := by decide +kernel
theorem dX12_weak_87 : decode cX12_weak 87 = .ok (.iload_n 3, 1) := by decide +kernel
theorem dX12_weak_88 : decode cX12_weak 88 = .ok (.iadd, 1) := by decide +kernel
theorem dX12_weak_89 : decode cX12_weak 89 = .ok (.imul, 1) := by decide +kernel
theorem dX12_weak_90 : decode cX12_weak 90 = .ok (.iload 6, 2) := by decide +kernel
theorem dX12_weak_92 : decode cX12_weak 92 = .ok (.iadd, 1) := by decide +kernel
theorem dX12_weak_93 : decode cX12_weak 93 = .ok (.imul, 1) := by decide +kernel
theorem dX12_weak_94 : decode cX12_weak 94 = .ok (.iload 5, 2) := by decide +kernel
theorem dX12_weak_96 : decode cX12_weak 96 = .ok (.iadd, 1) := by decide +kernel
theorem dX12_weak_97 : decode cX12_weak 97 = .ok (.aload_n 0, 1) := by decide +kernel
theorem dX12_weak_98 : decode cX12_weak 98 = .ok (.iload 4, 2) := by decide +kernel
theorem dX12_weak_100 : decode cX12_weak 100 = .ok (.iload 4, 2) := by decide +kernel
theorem dX12_weak_102 : decode cX12_weak 102 = .ok (.iload_n 3, 1) := by decide +kernel
theorem dX12_weak_103 : decode cX12_weak 103 = .ok (.iadd, 1) := by decide +kernel
theorem dX12_weak_104 : decode cX12_weak 104 = .ok (.iload 6, 2) := by decide +kernel
theorem dX12_weak_106 : decode cX12_weak 106 = .ok (.iload 5, 2) := by decide +kernel
theorem dX12_weak_108 : decode cX12_weak 108 = .ok (.iload_n 2, 1) := by decide +kernel
theorem dX12_weak_109 : decode cX12_weak 109 = .ok (.invokevirtual 376, 3) := by decide +kernel
theorem dX12_weak_112 : decode cX12_weak 112 = .ok (.iastore, 1) := by decide +kernel
theorem dX12_weak_113 : decode cX12_weak 113 = .ok (.iinc 6 1, 3) := by decide +kernel
theorem dX12_weak_116 : decode cX12_weak 116 = .ok (.goto (-55), 3) := by decide +kernel
theorem dX12_weak_119 : decode cX12_weak 119 = .ok (.iinc 5 1, 3) := by decide +kernel
theorem dX12_weak_122 : decode cX12_weak 122 = .ok (.goto (-70), 3) := by decide +kernel
theorem dX12_weak_125 : decode cX12_weak 125 = .ok (.iinc 4 1, 3) := by decide +kernel
theorem dX12_weak_128 : decode cX12_weak 128 = .ok (.goto (-90), 3) := by decide +kernel
theorem dX12_weak_131 : decode cX12_weak 131 = .ok (.iinc 3 1, 3) := by decide +kernel
theorem dX12_weak_134 : decode cX12_weak 134 = .ok (.goto (-107), 3) := by decide +kernel
theorem dX12_weak_137 : decode cX12_weak 137 = .ok (.aload_n 0, 1) := by decide +kernel
theorem dX12_weak_138 : decode cX12_weak 138 = .ok (.iconst 0, 1) := by decide +kernel
theorem dX12_weak_139 : decode cX12_weak 139 = .ok (.aload_n 0, 1) := by decide +kernel
theorem dX12_weak_140 : decode cX12_weak 140 = .ok (.getfield 13, 3) := by decide +kernel
theorem dX12_weak_143 : decode cX12_weak 143 = .ok (.iconst 0, 1) := by decide +kernel
theorem dX12_weak_144 : decode cX12_weak 144 = .ok (.iload_n 1, 1) := by decide +kernel
theorem dX12_weak_145 : decode cX12_weak 145 = .ok (.invokevirtual 372, 3) := by decide +kernel
theorem dX12_weak_148 : decode cX12_weak 148 = .ok (.istore_n 3, 1) := by decide +kernel
theorem dX12_weak_149 : decode cX12_weak 149 = .ok (.iload_n 3, 1) := by decide +kernel
theorem dX12_weak_150 : decode cX12_weak 150 = .ok (.ldc_w 371, 3) := by decide +kernel
theorem dX12_weak_153 : decode cX12_weak 153 = .ok (.if_icmp .lt 8, 3) := by decide +kernel
theorem dX12_weak_156 : decode cX12_weak 156 = .ok (.bipush (-2), 2) := by decide +kernel
theorem dX12_weak_158 : decode cX12_weak 158 = .ok (.goto 4, 3) := by decide +kernel
theorem dX12_weak_161 : decode cX12_weak 161 = .ok (.iload_n 3, 1) := by decide +kernel
theorem dX12_weak_162 : decode cX12_weak 162 = .ok (.ireturn, 1) := by decide +kernel
theorem dX12_rounds_0 : decode cX12_rounds 0 = .ok (.aload_n 0, 1) := by decide +kernel
theorem dX12_rounds_1 : decode cX12_rounds 1 = .ok (.iconst 0, 1) := by decide +kernel
theorem dX12_rounds_2 : decode cX12_rounds 2 = .ok (.putfield 127, 3) := by decide +kernel
theorem dX12_rounds_5 : decode cX12_rounds 5 = .ok (.iload_n 1, 1) := by decide +kernel
theorem dX12_rounds_6 : decode cX12_rounds 6 = .ok (.iconst 1, 1) := by decide +kernel
theorem dX12_rounds_7 : decode cX12_rounds 7 = .ok (.bipush 9, 2) := by decide +kernel
theorem dX12_rounds_9 : decode cX12_rounds 9 = .ok (.invokestatic 133, 3) := by decide +kernel
theorem dX12_rounds_12 : decode cX12_rounds 12 = .ok (.ifCond .eq 12, 3) := by decide +kernel
theorem dX12_rounds_15 : decode cX12_rounds 15 = .ok (.iload_n 2, 1) := by decide +kernel
theorem dX12_rounds_16 : decode cX12_rounds 16 = .ok (.iconst 1, 1) := by decide +kernel
theorem dX12_rounds_17 : decode cX12_rounds 17 = .ok (.iconst 4, 1) := by decide +kernel
theorem dX12_rounds_18 : decode cX12_rounds 18 = .ok (.invokestatic 133, 3) := by decide +kernel
theorem dX12_rounds_21 : decode cX12_rounds 21 = .ok (.ifCond .ne 5, 3) := by decide +kernel
theorem dX12_rounds_24 : decode cX12_rounds 24 = .ok (.iconst (-1), 1) := by decide +kernel
theorem dX12_rounds_25 : decode cX12_rounds 25 = .ok (.ireturn, 1) := by decide +kernel
theorem dX12_rounds_26 : decode cX12_rounds 26 = .ok (.iconst 0, 1) := by decide +kernel
theorem dX12_rounds_27 : decode cX12_rounds 27 = .ok (.istore_n 3, 1) := by decide +kernel
theorem dX12_rounds_28 : decode cX12_rounds 28 = .ok (.iload_n 3, 1) := by decide +kernel
theorem dX12_rounds_29 : decode cX12_rounds 29 = .ok (.bipush 10, 2) := by decide +kernel
theorem dX12_rounds_31 : decode cX12_rounds 31 = .ok (.if_icmp .ge 16, 3) := by decide +kernel
theorem dX12_rounds_34 : decode cX12_rounds 34 = .ok (.aload_n 0, 1) := by decide +kernel
theorem dX12_rounds_35 : decode cX12_rounds 35 = .ok (.getfield 95, 3) := by decide +kernel
theorem dX12_rounds_38 : decode cX12_rounds 38 = .ok (.iload_n 3, 1) := by decide +kernel
theorem dX12_rounds_39 : decode cX12_rounds 39 = .ok (.iconst 0, 1) := by decide +kernel
theorem dX12_rounds_40 : decode cX12_rounds 40 = .ok (.iastore, 1) := by decide +kernel
theorem dX12_rounds_41 : decode cX12_rounds 41 = .ok (.iinc 3 1, 3) := by decide +kernel
theorem dX12_rounds_44 : decode cX12_rounds 44 = .ok (.goto (-16), 3) := by decide +kernel
theorem dX12_rounds_47 : decode cX12_rounds 47 = .ok (.iconst 0, 1) := by decide +kernel
theorem dX12_rounds_48 : decode cX12_rounds 48 = .ok (.istore_n 3, 1) := by decide +kernel
theorem dX12_rounds_49 : decode cX12_rounds 49 = .ok (.aload_n 0, 1) := by decide +kernel
theorem dX12_rounds_50 : decode cX12_rounds 50 = .ok (.getfield 95, 3) := by decide +kernel
theorem dX12_rounds_53 : decode cX12_rounds 53 = .ok (.bipush 10, 2) := by decide +kernel
theorem dX12_rounds_55 : decode cX12_rounds 55 = .ok (.iload_n 3, 1) := by decide +kernel
theorem dX12_rounds_56 : decode cX12_rounds 56 = .ok (.imul, 1) := by decide +kernel
theorem dX12_rounds_57 : decode cX12_rounds 57 = .ok (.iload_n 1, 1) := by decide +kernel
theorem dX12_rounds_58 : decode cX12_rounds 58 = .ok (.iadd, 1) := by decide +kernel
theorem dX12_rounds_59 : decode cX12_rounds 59 = .ok (.iaload, 1) := by decide +kernel
theorem dX12_rounds_60 : decode cX12_rounds 60 = .ok (.aload_n 0, 1) := by decide +kernel
theorem dX12_rounds_61 : decode cX12_rounds 61 = .ok (.getfield 13, 3) := by decide +kernel
theorem dX12_rounds_64 : decode cX12_rounds 64 = .ok (.if_icmp .ge 96, 3) := by decide +kernel
theorem dX12_rounds_67 : decode cX12_rounds 67 = .ok (.iinc 3 1, 3) := by decide +kernel
theorem dX12_rounds_70 : decode cX12_rounds 70 = .ok (.iconst 0, 1) := by decide +kernel
theorem dX12_rounds_71 : decode cX12_rounds 71 = .ok (.istore 4, 2) := by decide +kernel
theorem dX12_rounds_73 : decode cX12_rounds 73 = .ok (.iload 4, 2) := by decide +kernel
theorem dX12_rounds_75 : decode cX12_rounds 75 = .ok (.bipush 10, 2) := by decide +kernel
theorem dX12_rounds_77 : decode cX12_rounds 77 = .ok (.if_icmp .ge 80, 3) := by decide +kernel
theorem dX12_rounds_80 : decode cX12_rounds 80 = .ok (.iload 4, 2) := by decide +kernel
theorem dX12_rounds_82 : decode cX12_rounds 82 = .ok (.iload_n 2, 1) := by decide +kernel
theorem dX12_rounds_83 : decode cX12_rounds 83 = .ok (.if_icmp .ge 8, 3) := by decide +kernel
theorem dX12_rounds_86 : decode cX12_rounds 86 = .ok (.iload 4, 2) := by decide +kernel
theorem dX12_rounds_88 : decode cX12_rounds 88 = .ok (.goto 4, 3) := by decide +kernel
theorem dX12_rounds_91 : decode cX12_rounds 91 = .ok (.iload_n 2, 1) := by decide +kernel
theorem dX12_rounds_92 : decode cX12_rounds 92 = .ok (.istore 5, 2) := by decide +kernel
theorem dX12_rounds_94 : decode cX12_rounds 94 = .ok (.iconst (-1), 1) := by decide +kernel
theorem dX12_rounds_95 : decode cX12_rounds 95 = .ok (.istore 6, 2) := by decide +kernel
theorem dX12_rounds_97 : decode cX12_rounds 97 = .ok (.iconst 0, 1) := by decide +kernel
theorem dX12_rounds_98 : decode cX12_rounds 98 = .ok (.istore 7, 2) := by decide +kernel
theorem dX12_rounds_100 : decode cX12_rounds 100 = .ok (.iload 7, 2) := by decide +kernel
theorem dX12_rounds_102 : decode cX12_rounds 102 = .ok (.iload 5, 2) := by decide +kernel
theorem dX12_rounds_104 : decode cX12_rounds 104 = .ok (.if_icmp .gt 33, 3) := by decide +kernel
theorem dX12_rounds_107 : decode cX12_rounds 107 = .ok (.iload 6, 2) := by decide +kernel
theorem dX12_rounds_109 : decode cX12_rounds 109 = .ok (.aload_n 0, 1) := by decide +kernel
theorem dX12_rounds_110 : decode cX12_rounds 110 = .ok (.getfield 95, 3) := by decide +kernel
theorem dX12_rounds_113 : decode cX12_rounds 113 = .ok (.bipush 10, 2) := by decide +kernel
theorem dX12_rounds_115 : decode cX12_rounds 115 = .ok (.iload_n 3, 1) := by decide +kernel
theorem dX12_rounds_116 : decode cX12_rounds 116 = .ok (.iconst 1, 1) := by decide +kernel
theorem dX12_rounds_117 : decode cX12_rounds 117 = .ok (.isub, 1) := by decide +kernel
theorem dX12_rounds_118 : decode cX12_rounds 118 = .ok (.imul, 1) := by decide +kernel
theorem dX12_rounds_119 : decode cX12_rounds 119 = .ok (.iload 4, 2) := by decide +kernel
theorem dX12_rounds_121 : decode cX12_rounds 121 = .ok (.iadd, 1) := by decide +kernel
theorem dX12_rounds_122 : decode cX12_rounds 122 = .ok (.iload 7, 2) := by decide +kernel
theorem dX12_rounds_124 : decode cX12_rounds 124 = .ok (.isub, 1) := by decide +kernel
theorem dX12_rounds_125 : decode cX12_rounds 125 = .ok (.iaload, 1) := by decide +kernel
theorem dX12_rounds_126 : decode cX12_rounds 126 = .ok (.iconst 1, 1) := by decide +kernel
theorem dX12_rounds_127 : decode cX12_rounds 127 = .ok (.iadd, 1) := by decide +kernel
theorem dX12_rounds_128 : decode cX12_rounds 128 = .ok (.iadd, 1) := by decide +kernel
theorem dX12_rounds_129 : decode cX12_rounds 129 = .ok (.istore 6, 2) := by decide +kernel
theorem dX12_rounds_131 : decode cX12_rounds 131 = .ok (.iinc 7 1, 3) := by decide +kernel
theorem dX12_rounds_134 : decode cX12_rounds 134 = .ok (.goto (-34), 3) := by decide +kernel
theorem dX12_rounds_137 : decode cX12_rounds 137 = .ok (.aload_n 0, 1) := by decide +kernel
theorem dX12_rounds_138 : decode cX12_rounds 138 = .ok (.getfield 95, 3) := by decide +kernel
theorem dX12_rounds_141 : decode cX12_rounds 141 = .ok (.bipush 10, 2) := by decide +kernel
theorem dX12_rounds_143 : decode cX12_rounds 143 = .ok (.iload_n 3, 1) := by decide +kernel
theorem dX12_rounds_144 : decode cX12_rounds 144 = .ok (.imul, 1) := by decide +kernel
theorem dX12_rounds_145 : decode cX12_rounds 145 = .ok (.iload 4, 2) := by decide +kernel
theorem dX12_rounds_147 : decode cX12_rounds 147 = .ok (.iadd, 1) := by decide +kernel
theorem dX12_rounds_148 : decode cX12_rounds 148 = .ok (.iload 6, 2) := by decide +kernel
theorem dX12_rounds_150 : decode cX12_rounds 150 = .ok (.iastore, 1) := by decide +kernel
theorem dX12_rounds_151 : decode cX12_rounds 151 = .ok (.iinc 4 1, 3) := by decide +kernel
theorem dX12_rounds_154 : decode cX12_rounds 154 = .ok (.goto (-81), 3) := by decide +kernel
theorem dX12_rounds_157 : decode cX12_rounds 157 = .ok (.goto (-108), 3) := by decide +kernel
theorem dX12_rounds_160 : decode cX12_rounds 160 = .ok (.iload_n 3, 1) := by decide +kernel
theorem dX12_rounds_161 : decode cX12_rounds 161 = .ok (.ireturn, 1) := by decide +kernel
theorem dX12_digitOf_0 : decode cX12_digitOf 0 = .ok (.iload_n 1, 1) := by decide +kernel
theorem dX12_digitOf_1 : decode cX12_digitOf 1 = .ok (.istore 4, 2) := by decide +kernel
theorem dX12_digitOf_3 : decode cX12_digitOf 3 = .ok (.iconst 0, 1) := by decide +kernel
theorem dX12_digitOf_4 : decode cX12_digitOf 4 = .ok (.istore 5, 2) := by decide +kernel
theorem dX12_digitOf_6 : decode cX12_digitOf 6 = .ok (.iload 5, 2) := by decide +kernel
theorem dX12_digitOf_8 : decode cX12_digitOf 8 = .ok (.iload_n 2, 1) := by decide +kernel
theorem dX12_digitOf_9 : decode cX12_digitOf 9 = .ok (.if_icmp .ge 15, 3) := by decide +kernel
theorem dX12_digitOf_12 : decode cX12_digitOf 12 = .ok (.iload 4, 2) := by decide +kernel
theorem dX12_digitOf_14 : decode cX12_digitOf 14 = .ok (.iload_n 3, 1) := by decide +kernel
theorem dX12_digitOf_15 : decode cX12_digitOf 15 = .ok (.idiv, 1) := by decide +kernel
theorem dX12_digitOf_16 : decode cX12_digitOf 16 = .ok (.istore 4, 2) := by decide +kernel
theorem dX12_digitOf_18 : decode cX12_digitOf 18 = .ok (.iinc 5 1, 3) := by decide +kernel
theorem dX12_digitOf_21 : decode cX12_digitOf 21 = .ok (.goto (-15), 3) := by decide +kernel
theorem dX12_digitOf_24 : decode cX12_digitOf 24 = .ok (.iload 4, 2) := by decide +kernel
theorem dX12_digitOf_26 : decode cX12_digitOf 26 = .ok (.iload_n 3, 1) := by decide +kernel
theorem dX12_digitOf_27 : decode cX12_digitOf 27 = .ok (.irem, 1) := by decide +kernel
theorem dX12_digitOf_28 : decode cX12_digitOf 28 = .ok (.ireturn, 1) := by decide +kernel
theorem dX12_moreLies_0 : decode cX12_moreLies 0 = .ok (.iconst 1, 1) := by decide +kernel
theorem dX12_moreLies_1 : decode cX12_moreLies 1 = .ok (.istore 5, 2) := by decide +kernel
theorem dX12_moreLies_3 : decode cX12_moreLies 3 = .ok (.iload_n 1, 1) := by decide +kernel
theorem dX12_moreLies_4 : decode cX12_moreLies 4 = .ok (.istore 6, 2) := by decide +kernel
theorem dX12_moreLies_6 : decode cX12_moreLies 6 = .ok (.iconst 0, 1) := by decide +kernel
theorem dX12_moreLies_7 : decode cX12_moreLies 7 = .ok (.istore 7, 2) := by decide +kernel
theorem dX12_moreLies_9 : decode cX12_moreLies 9 = .ok (.iload 7, 2) := by decide +kernel
theorem dX12_moreLies_11 : decode cX12_moreLies 11 = .ok (.iload_n 3, 1) := by decide +kernel
theorem dX12_moreLies_12 : decode cX12_moreLies 12 = .ok (.if_icmp .gt 45, 3) := by decide +kernel
theorem dX12_moreLies_15 : decode cX12_moreLies 15 = .ok (.iload 7, 2) := by decide +kernel
theorem dX12_moreLies_17 : decode cX12_moreLies 17 = .ok (.iload_n 2, 1) := by decide +kernel
theorem dX12_moreLies_18 : decode cX12_moreLies 18 = .ok (.if_icmp .lt 26, 3) := by decide +kernel
theorem dX12_moreLies_21 : decode cX12_moreLies 21 = .ok (.aload_n 0, 1) := by decide +kernel
theorem dX12_moreLies_22 : decode cX12_moreLies 22 = .ok (.iload_n 1, 1) := by decide +kernel
theorem dX12_moreLies_23 : decode cX12_moreLies 23 = .ok (.iload 7, 2) := by decide +kernel
theorem dX12_moreLies_25 : decode cX12_moreLies 25 = .ok (.iload 4, 2) := by decide +kernel
theorem dX12_moreLies_27 : decode cX12_moreLies 27 = .ok (.invokevirtual 380, 3) := by decide +kernel
theorem dX12_moreLies_30 : decode cX12_moreLies 30 = .ok (.iload 4, 2) := by decide +kernel
theorem dX12_moreLies_32 : decode cX12_moreLies 32 = .ok (.iconst 1, 1) := by decide +kernel
theorem dX12_moreLies_33 : decode cX12_moreLies 33 = .ok (.isub, 1) := by decide +kernel
theorem dX12_moreLies_34 : decode cX12_moreLies 34 = .ok (.if_icmp .ge 10, 3) := by decide +kernel
theorem dX12_moreLies_37 : decode cX12_moreLies 37 = .ok (.iload 6, 2) := by decide +kernel
theorem dX12_moreLies_39 : decode cX12_moreLies 39 = .ok (.iload 5, 2) := by decide +kernel
theorem dX12_moreLies_41 : decode cX12_moreLies 41 = .ok (.iadd, 1) := by decide +kernel
theorem dX12_moreLies_42 : decode cX12_moreLies 42 = .ok (.istore 6, 2) := by decide +kernel
theorem dX12_moreLies_44 : decode cX12_moreLies 44 = .ok (.iload 5, 2) := by decide +kernel
theorem dX12_moreLies_46 : decode cX12_moreLies 46 = .ok (.iload 4, 2) := by decide +kernel
theorem dX12_moreLies_48 : decode cX12_moreLies 48 = .ok (.imul, 1) := by decide +kernel
theorem dX12_moreLies_49 : decode cX12_moreLies 49 = .ok (.istore 5, 2) := by decide +kernel
theorem dX12_moreLies_51 : decode cX12_moreLies 51 = .ok (.iinc 7 1, 3) := by decide +kernel
theorem dX12_moreLies_54 : decode cX12_moreLies 54 = .ok (.goto (-45), 3) := by decide +kernel
theorem dX12_moreLies_57 : decode cX12_moreLies 57 = .ok (.iload 6, 2) := by decide +kernel
theorem dX12_moreLies_59 : decode cX12_moreLies 59 = .ok (.ireturn, 1) := by decide +kernel
theorem dX12_canBe_0 : decode cX12_canBe 0 = .ok (.iconst 0, 1) := by decide +kernel
theorem dX12_canBe_1 : decode cX12_canBe 1 = .ok (.istore 4, 2) := by decide +kernel
theorem dX12_canBe_3 : decode cX12_canBe 3 = .ok (.iconst 0, 1) := by decide +kernel
theorem dX12_canBe_4 : decode cX12_canBe 4 = .ok (.istore 5, 2) := by decide +kernel
theorem dX12_canBe_6 : decode cX12_canBe 6 = .ok (.iload 5, 2) := by decide +kernel
theorem dX12_canBe_8 : decode cX12_canBe 8 = .ok (.iload_n 2, 1) := by decide +kernel
theorem dX12_canBe_9 : decode cX12_canBe 9 = .ok (.if_icmp .gt 33, 3) := by decide +kernel
theorem dX12_canBe_12 : decode cX12_canBe 12 = .ok (.iload 4, 2) := by decide +kernel
theorem dX12_canBe_14 : decode cX12_canBe 14 = .ok (.aload_n 0, 1) := by decide +kernel
theorem dX12_canBe_15 : decode cX12_canBe 15 = .ok (.iload_n 1, 1) := by decide +kernel
theorem dX12_canBe_16 : decode cX12_canBe 16 = .ok (.iload 5, 2) := by decide +kernel
theorem dX12_canBe_18 : decode cX12_canBe 18 = .ok (.iload_n 3, 1) := by decide +kernel
theorem dX12_canBe_19 : decode cX12_canBe 19 = .ok (.invokevirtual 380, 3) := by decide +kernel
theorem dX12_canBe_22 : decode cX12_canBe 22 = .ok (.iload_n 3, 1) := by decide +kernel
theorem dX12_canBe_23 : decode cX12_canBe 23 = .ok (.iconst 1, 1) := by decide +kernel
theorem dX12_canBe_24 : decode cX12_canBe 24 = .ok (.isub, 1) := by decide +kernel
theorem dX12_canBe_25 : decode cX12_canBe 25 = .ok (.if_icmp .ge 7, 3) := by decide +kernel
theorem dX12_canBe_28 : decode cX12_canBe 28 = .ok (.iconst 1, 1) := by decide +kernel
theorem dX12_canBe_29 : decode cX12_canBe 29 = .ok (.goto 4, 3) := by decide +kernel
theorem dX12_canBe_32 : decode cX12_canBe 32 = .ok (.iconst 0, 1) := by decide +kernel
theorem dX12_canBe_33 : decode cX12_canBe 33 = .ok (.iadd, 1) := by decide +kernel
theorem dX12_canBe_34 : decode cX12_canBe 34 = .ok (.istore 4, 2) := by decide +kernel
theorem dX12_canBe_36 : decode cX12_canBe 36 = .ok (.iinc 5 1, 3) := by decide +kernel
theorem dX12_canBe_39 : decode cX12_canBe 39 = .ok (.goto (-33), 3) := by decide +kernel
theorem dX12_canBe_42 : decode cX12_canBe 42 = .ok (.iload 4, 2) := by decide +kernel
theorem dX12_canBe_44 : decode cX12_canBe 44 = .ok (.ireturn, 1) := by decide +kernel
theorem dX12_sureFrom_0 : decode cX12_sureFrom 0 = .ok (.aload_n 0, 1) := by decide +kernel
theorem dX12_sureFrom_1 : decode cX12_sureFrom 1 = .ok (.iload_n 1, 1) := by decide +kernel
theorem dX12_sureFrom_2 : decode cX12_sureFrom 2 = .ok (.iload_n 2, 1) := by decide +kernel
theorem dX12_sureFrom_3 : decode cX12_sureFrom 3 = .ok (.iload_n 3, 1) := by decide +kernel
theorem dX12_sureFrom_4 : decode cX12_sureFrom 4 = .ok (.invokevirtual 384, 3) := by decide +kernel
theorem dX12_sureFrom_7 : decode cX12_sureFrom 7 = .ok (.iconst 2, 1) := by decide +kernel
theorem dX12_sureFrom_8 : decode cX12_sureFrom 8 = .ok (.if_icmp .ge 5, 3) := by decide +kernel
theorem dX12_sureFrom_11 : decode cX12_sureFrom 11 = .ok (.iconst 0, 1) := by decide +kernel
theorem dX12_sureFrom_12 : decode cX12_sureFrom 12 = .ok (.ireturn, 1) := by decide +kernel
theorem dX12_sureFrom_13 : decode cX12_sureFrom 13 = .ok (.ldc_w 371, 3) := by decide +kernel
theorem dX12_sureFrom_16 : decode cX12_sureFrom 16 = .ok (.istore 4, 2) := by decide +kernel
theorem dX12_sureFrom_18 : decode cX12_sureFrom 18 = .ok (.iconst 1, 1) := by decide +kernel
theorem dX12_sureFrom_19 : decode cX12_sureFrom 19 = .ok (.istore 5, 2) := by decide +kernel
theorem dX12_sureFrom_21 : decode cX12_sureFrom 21 = .ok (.iload 5, 2) := by decide +kernel
theorem dX12_sureFrom_23 : decode cX12_sureFrom 23 = .ok (.iload_n 2, 1) := by decide +kernel
theorem dX12_sureFrom_24 : decode cX12_sureFrom 24 = .ok (.if_icmp .gt 137, 3) := by decide +kernel
theorem dX12_sureFrom_27 : decode cX12_sureFrom 27 = .ok (.aload_n 0, 1) := by decide +kernel
theorem dX12_sureFrom_28 : decode cX12_sureFrom 28 = .ok (.iload_n 1, 1) := by decide +kernel
theorem dX12_sureFrom_29 : decode cX12_sureFrom 29 = .ok (.iconst 0, 1) := by decide +kernel
theorem dX12_sureFrom_30 : decode cX12_sureFrom 30 = .ok (.iload 5, 2) := by decide +kernel
theorem dX12_sureFrom_32 : decode cX12_sureFrom 32 = .ok (.iconst 1, 1) := by decide +kernel
theorem dX12_sureFrom_33 : decode cX12_sureFrom 33 = .ok (.isub, 1) := by decide +kernel
theorem dX12_sureFrom_34 : decode cX12_sureFrom 34 = .ok (.iload_n 3, 1) := by decide +kernel
theorem dX12_sureFrom_35 : decode cX12_sureFrom 35 = .ok (.invokevirtual 387, 3) := by decide +kernel
theorem dX12_sureFrom_38 : decode cX12_sureFrom 38 = .ok (.istore 6, 2) := by decide +kernel
theorem dX12_sureFrom_40 : decode cX12_sureFrom 40 = .ok (.aload_n 0, 1) := by decide +kernel
theorem dX12_sureFrom_41 : decode cX12_sureFrom 41 = .ok (.iload_n 1, 1) := by decide +kernel
theorem dX12_sureFrom_42 : decode cX12_sureFrom 42 = .ok (.iload 5, 2) := by decide +kernel
theorem dX12_sureFrom_44 : decode cX12_sureFrom 44 = .ok (.iload_n 2, 1) := by decide +kernel
theorem dX12_sureFrom_45 : decode cX12_sureFrom 45 = .ok (.iload_n 3, 1) := by decide +kernel
theorem dX12_sureFrom_46 : decode cX12_sureFrom 46 = .ok (.invokevirtual 387, 3) := by decide +kernel
theorem dX12_sureFrom_49 : decode cX12_sureFrom 49 = .ok (.istore 7, 2) := by decide +kernel
theorem dX12_sureFrom_51 : decode cX12_sureFrom 51 = .ok (.iconst 0, 1) := by decide +kernel
theorem dX12_sureFrom_52 : decode cX12_sureFrom 52 = .ok (.istore 8, 2) := by decide +kernel
theorem dX12_sureFrom_54 : decode cX12_sureFrom 54 = .ok (.aload_n 0, 1) := by decide +kernel
theorem dX12_sureFrom_55 : decode cX12_sureFrom 55 = .ok (.iload 6, 2) := by decide +kernel
theorem dX12_sureFrom_57 : decode cX12_sureFrom 57 = .ok (.iload_n 2, 1) := by decide +kernel
theorem dX12_sureFrom_58 : decode cX12_sureFrom 58 = .ok (.iload_n 3, 1) := by decide +kernel
theorem dX12_sureFrom_59 : decode cX12_sureFrom 59 = .ok (.invokevirtual 384, 3) := by decide +kernel
theorem dX12_sureFrom_62 : decode cX12_sureFrom 62 = .ok (.ifCond .le 24, 3) := by decide +kernel
theorem dX12_sureFrom_65 : decode cX12_sureFrom 65 = .ok (.iload 6, 2) := by decide +kernel
theorem dX12_sureFrom_67 : decode cX12_sureFrom 67 = .ok (.iload_n 1, 1) := by decide +kernel
theorem dX12_sureFrom_68 : decode cX12_sureFrom 68 = .ok (.if_icmp .ne 9, 3) := by decide +kernel
theorem dX12_sureFrom_71 : decode cX12_sureFrom 71 = .ok (.ldc_w 371, 3) := by decide +kernel
theorem dX12_sureFrom_74 : decode cX12_sureFrom 74 = .ok (.goto 10, 3) := by decide +kernel
theorem dX12_sureFrom_77 : decode cX12_sureFrom 77 = .ok (.aload_n 0, 1) := by decide +kernel
theorem dX12_sureFrom_78 : decode cX12_sureFrom 78 = .ok (.getfield 99, 3) := by decide +kernel
theorem dX12_sureFrom_81 : decode cX12_sureFrom 81 = .ok (.iload 6, 2) := by decide +kernel
theorem dX12_sureFrom_83 : decode cX12_sureFrom 83 = .ok (.iaload, 1) := by decide +kernel
theorem dX12_sureFrom_84 : decode cX12_sureFrom 84 = .ok (.istore 8, 2) := by decide +kernel
theorem dX12_sureFrom_86 : decode cX12_sureFrom 86 = .ok (.aload_n 0, 1) := by decide +kernel
theorem dX12_sureFrom_87 : decode cX12_sureFrom 87 = .ok (.iload 7, 2) := by decide +kernel
theorem dX12_sureFrom_89 : decode cX12_sureFrom 89 = .ok (.iload_n 2, 1) := by decide +kernel
theorem dX12_sureFrom_90 : decode cX12_sureFrom 90 = .ok (.iload_n 3, 1) := by decide +kernel
theorem dX12_sureFrom_91 : decode cX12_sureFrom 91 = .ok (.invokevirtual 384, 3) := by decide +kernel
theorem dX12_sureFrom_94 : decode cX12_sureFrom 94 = .ok (.ifCond .le 41, 3) := by decide +kernel
theorem dX12_sureFrom_97 : decode cX12_sureFrom 97 = .ok (.iload 7, 2) := by decide +kernel
theorem dX12_sureFrom_99 : decode cX12_sureFrom 99 = .ok (.iload_n 1, 1) := by decide +kernel
theorem dX12_sureFrom_100 : decode cX12_sureFrom 100 = .ok (.if_icmp .ne 9, 3) := by decide +kernel
theorem dX12_sureFrom_103 : decode cX12_sureFrom 103 = .ok (.ldc_w 371, 3) := by decide +kernel
theorem dX12_sureFrom_106 : decode cX12_sureFrom 106 = .ok (.goto 27, 3) := by decide +kernel
theorem dX12_sureFrom_109 : decode cX12_sureFrom 109 = .ok (.aload_n 0, 1) := by decide +kernel
theorem dX12_sureFrom_110 : decode cX12_sureFrom 110 = .ok (.getfield 99, 3) := by decide +kernel
theorem dX12_sureFrom_113 : decode cX12_sureFrom 113 = .ok (.iload 7, 2) := by decide +kernel
theorem dX12_sureFrom_115 : decode cX12_sureFrom 115 = .ok (.iaload, 1) := by decide +kernel
theorem dX12_sureFrom_116 : decode cX12_sureFrom 116 = .ok (.iload 8, 2) := by decide +kernel
theorem dX12_sureFrom_118 : decode cX12_sureFrom 118 = .ok (.if_icmp .le 13, 3) := by decide +kernel
theorem dX12_sureFrom_121 : decode cX12_sureFrom 121 = .ok (.aload_n 0, 1) := by decide +kernel
theorem dX12_sureFrom_122 : decode cX12_sureFrom 122 = .ok (.getfield 99, 3) := by decide +kernel
theorem dX12_sureFrom_125 : decode cX12_sureFrom 125 = .ok (.iload 7, 2) := by decide +kernel
theorem dX12_sureFrom_127 : decode cX12_sureFrom 127 = .ok (.iaload, 1) := by decide +kernel
theorem dX12_sureFrom_128 : decode cX12_sureFrom 128 = .ok (.goto 5, 3) := by decide +kernel
theorem dX12_sureFrom_131 : decode cX12_sureFrom 131 = .ok (.iload 8, 2) := by decide +kernel
theorem dX12_sureFrom_133 : decode cX12_sureFrom 133 = .ok (.istore 8, 2) := by decide +kernel
theorem dX12_sureFrom_135 : decode cX12_sureFrom 135 = .ok (.iload 8, 2) := by decide +kernel
theorem dX12_sureFrom_137 : decode cX12_sureFrom 137 = .ok (.iconst 1, 1) := by decide +kernel
theorem dX12_sureFrom_138 : decode cX12_sureFrom 138 = .ok (.iadd, 1) := by decide +kernel
theorem dX12_sureFrom_139 : decode cX12_sureFrom 139 = .ok (.iload 4, 2) := by decide +kernel
theorem dX12_sureFrom_141 : decode cX12_sureFrom 141 = .ok (.if_icmp .ge 10, 3) := by decide +kernel
theorem dX12_sureFrom_144 : decode cX12_sureFrom 144 = .ok (.iload 8, 2) := by decide +kernel
theorem dX12_sureFrom_146 : decode cX12_sureFrom 146 = .ok (.iconst 1, 1) := by decide +kernel
theorem dX12_sureFrom_147 : decode cX12_sureFrom 147 = .ok (.iadd, 1) := by decide +kernel
theorem dX12_sureFrom_148 : decode cX12_sureFrom 148 = .ok (.goto 5, 3) := by decide +kernel
theorem dX12_sureFrom_151 : decode cX12_sureFrom 151 = .ok (.iload 4, 2) := by decide +kernel
theorem dX12_sureFrom_153 : decode cX12_sureFrom 153 = .ok (.istore 4, 2) := by decide +kernel
theorem dX12_sureFrom_155 : decode cX12_sureFrom 155 = .ok (.iinc 5 1, 3) := by decide +kernel
theorem dX12_sureFrom_158 : decode cX12_sureFrom 158 = .ok (.goto (-137), 3) := by decide +kernel
theorem dX12_sureFrom_161 : decode cX12_sureFrom 161 = .ok (.iload 4, 2) := by decide +kernel
theorem dX12_sureFrom_163 : decode cX12_sureFrom 163 = .ok (.ireturn, 1) := by decide +kernel
theorem dX12_lies_0 : decode cX12_lies 0 = .ok (.aload_n 0, 1) := by decide +kernel
theorem dX12_lies_1 : decode cX12_lies 1 = .ok (.iconst 0, 1) := by decide +kernel
theorem dX12_lies_2 : decode cX12_lies 2 = .ok (.putfield 127, 3) := by decide +kernel
theorem dX12_lies_5 : decode cX12_lies 5 = .ok (.iload_n 1, 1) := by decide +kernel
theorem dX12_lies_6 : decode cX12_lies 6 = .ok (.iconst 1, 1) := by decide +kernel
theorem dX12_lies_7 : decode cX12_lies 7 = .ok (.bipush 7, 2) := by decide +kernel
theorem dX12_lies_9 : decode cX12_lies 9 = .ok (.invokestatic 133, 3) := by decide +kernel
theorem dX12_lies_12 : decode cX12_lies 12 = .ok (.ifCond .eq 12, 3) := by decide +kernel
theorem dX12_lies_15 : decode cX12_lies 15 = .ok (.iload_n 2, 1) := by decide +kernel
theorem dX12_lies_16 : decode cX12_lies 16 = .ok (.iconst 0, 1) := by decide +kernel
theorem dX12_lies_17 : decode cX12_lies 17 = .ok (.iconst 2, 1) := by decide +kernel
theorem dX12_lies_18 : decode cX12_lies 18 = .ok (.invokestatic 133, 3) := by decide +kernel
theorem dX12_lies_21 : decode cX12_lies 21 = .ok (.ifCond .ne 5, 3) := by decide +kernel
theorem dX12_lies_24 : decode cX12_lies 24 = .ok (.iconst (-1), 1) := by decide +kernel
theorem dX12_lies_25 : decode cX12_lies 25 = .ok (.ireturn, 1) := by decide +kernel
theorem dX12_lies_26 : decode cX12_lies 26 = .ok (.iload_n 2, 1) := by decide +kernel
theorem dX12_lies_27 : decode cX12_lies 27 = .ok (.iconst 2, 1) := by decide +kernel
theorem dX12_lies_28 : decode cX12_lies 28 = .ok (.iadd, 1) := by decide +kernel
theorem dX12_lies_29 : decode cX12_lies 29 = .ok (.istore_n 3, 1) := by decide +kernel
theorem dX12_lies_30 : decode cX12_lies 30 = .ok (.iconst 1, 1) := by decide +kernel
theorem dX12_lies_31 : decode cX12_lies 31 = .ok (.istore 4, 2) := by decide +kernel
theorem dX12_lies_33 : decode cX12_lies 33 = .ok (.iconst 0, 1) := by decide +kernel
theorem dX12_lies_34 : decode cX12_lies 34 = .ok (.istore 5, 2) := by decide +kernel
theorem dX12_lies_36 : decode cX12_lies 36 = .ok (.iload 5, 2) := by decide +kernel
theorem dX12_lies_38 : decode cX12_lies 38 = .ok (.iload_n 1, 1) := by decide +kernel
theorem dX12_lies_39 : decode cX12_lies 39 = .ok (.if_icmp .gt 15, 3) := by decide +kernel
theorem dX12_lies_42 : decode cX12_lies 42 = .ok (.iload 4, 2) := by decide +kernel
theorem dX12_lies_44 : decode cX12_lies 44 = .ok (.iload_n 3, 1) := by decide +kernel
theorem dX12_lies_45 : decode cX12_lies 45 = .ok (.imul, 1) := by decide +kernel
theorem dX12_lies_46 : decode cX12_lies 46 = .ok (.istore 4, 2) := by decide +kernel
theorem dX12_lies_48 : decode cX12_lies 48 = .ok (.iinc 5 1, 3) := by decide +kernel
theorem dX12_lies_51 : decode cX12_lies 51 = .ok (.goto (-15), 3) := by decide +kernel
theorem dX12_lies_54 : decode cX12_lies 54 = .ok (.iload 4, 2) := by decide +kernel
theorem dX12_lies_56 : decode cX12_lies 56 = .ok (.iconst 1, 1) := by decide +kernel
theorem dX12_lies_57 : decode cX12_lies 57 = .ok (.isub, 1) := by decide +kernel
theorem dX12_lies_58 : decode cX12_lies 58 = .ok (.istore 5, 2) := by decide +kernel
theorem dX12_lies_60 : decode cX12_lies 60 = .ok (.iload 5, 2) := by decide +kernel
theorem dX12_lies_62 : decode cX12_lies 62 = .ok (.ifCond .lt 24, 3) := by decide +kernel
theorem dX12_lies_65 : decode cX12_lies 65 = .ok (.aload_n 0, 1) := by decide +kernel
theorem dX12_lies_66 : decode cX12_lies 66 = .ok (.getfield 99, 3) := by decide +kernel
theorem dX12_lies_69 : decode cX12_lies 69 = .ok (.iload 5, 2) := by decide +kernel
theorem dX12_lies_71 : decode cX12_lies 71 = .ok (.aload_n 0, 1) := by decide +kernel
theorem dX12_lies_72 : decode cX12_lies 72 = .ok (.iload 5, 2) := by decide +kernel
theorem dX12_lies_74 : decode cX12_lies 74 = .ok (.iload_n 1, 1) := by decide +kernel
theorem dX12_lies_75 : decode cX12_lies 75 = .ok (.iload_n 3, 1) := by decide +kernel
theorem dX12_lies_76 : decode cX12_lies 76 = .ok (.invokevirtual 390, 3) := by decide +kernel
theorem dX12_lies_79 : decode cX12_lies 79 = .ok (.iastore, 1) := by decide +kernel
theorem dX12_lies_80 : decode cX12_lies 80 = .ok (.iinc 5 (-1), 3) := by decide +kernel
theorem dX12_lies_83 : decode cX12_lies 83 = .ok (.goto (-23), 3) := by decide +kernel
theorem dX12_lies_86 : decode cX12_lies 86 = .ok (.aload_n 0, 1) := by decide +kernel
theorem dX12_lies_87 : decode cX12_lies 87 = .ok (.getfield 99, 3) := by decide +kernel
theorem dX12_lies_90 : decode cX12_lies 90 = .ok (.iconst 0, 1) := by decide +kernel
theorem dX12_lies_91 : decode cX12_lies 91 = .ok (.iaload, 1) := by decide +kernel
theorem dX12_lies_92 : decode cX12_lies 92 = .ok (.ireturn, 1) := by decide +kernel
theorem dX12_note_0 : decode cX12_note 0 = .ok (.aload_n 0, 1) := by decide +kernel
theorem dX12_note_1 : decode cX12_note 1 = .ok (.iconst 0, 1) := by decide +kernel
theorem dX12_note_2 : decode cX12_note 2 = .ok (.putfield 127, 3) := by decide +kernel
theorem dX12_note_5 : decode cX12_note 5 = .ok (.aload_n 0, 1) := by decide +kernel
theorem dX12_note_6 : decode cX12_note 6 = .ok (.getfield 137, 3) := by decide +kernel
theorem dX12_note_9 : decode cX12_note 9 = .ok (.bipush 40, 2) := by decide +kernel
theorem dX12_note_11 : decode cX12_note 11 = .ok (.if_icmp .eq 27, 3) := by decide +kernel
theorem dX12_note_14 : decode cX12_note 14 = .ok (.iload_n 1, 1) := by decide +kernel
theorem dX12_note_15 : decode cX12_note 15 = .ok (.iconst 0, 1) := by decide +kernel
theorem dX12_note_16 : decode cX12_note 16 = .ok (.iconst 5, 1) := by decide +kernel
theorem dX12_note_17 : decode cX12_note 17 = .ok (.invokestatic 133, 3) := by decide +kernel
theorem dX12_note_20 : decode cX12_note 20 = .ok (.ifCond .eq 18, 3) := by decide +kernel
theorem dX12_note_23 : decode cX12_note 23 = .ok (.iload_n 2, 1) := by decide +kernel
theorem dX12_note_24 : decode cX12_note 24 = .ok (.invokestatic 144, 3) := by decide +kernel
theorem dX12_note_27 : decode cX12_note 27 = .ok (.ifCond .eq 11, 3) := by decide +kernel
theorem dX12_note_30 : decode cX12_note 30 = .ok (.aload_n 0, 1) := by decide +kernel
theorem dX12_note_31 : decode cX12_note 31 = .ok (.iload_n 3, 1) := by decide +kernel
theorem dX12_note_32 : decode cX12_note 32 = .ok (.invokevirtual 393, 3) := by decide +kernel
theorem dX12_note_35 : decode cX12_note 35 = .ok (.ifCond .ne 5, 3) := by decide +kernel
theorem dX12_note_38 : decode cX12_note 38 = .ok (.iconst (-1), 1) := by decide +kernel
theorem dX12_note_39 : decode cX12_note 39 = .ok (.ireturn, 1) := by decide +kernel
theorem dX12_note_40 : decode cX12_note 40 = .ok (.aload_n 0, 1) := by decide +kernel
theorem dX12_note_41 : decode cX12_note 41 = .ok (.getfield 102, 3) := by decide +kernel
theorem dX12_note_44 : decode cX12_note 44 = .ok (.aload_n 0, 1) := by decide +kernel
theorem dX12_note_45 : decode cX12_note 45 = .ok (.getfield 137, 3) := by decide +kernel
theorem dX12_note_48 : decode cX12_note 48 = .ok (.iload_n 1, 1) := by decide +kernel
theorem dX12_note_49 : decode cX12_note 49 = .ok (.iastore, 1) := by decide +kernel
theorem dX12_note_50 : decode cX12_note 50 = .ok (.aload_n 0, 1) := by decide +kernel
theorem dX12_note_51 : decode cX12_note 51 = .ok (.getfield 105, 3) := by decide +kernel
theorem dX12_note_54 : decode cX12_note 54 = .ok (.aload_n 0, 1) := by decide +kernel
theorem dX12_note_55 : decode cX12_note 55 = .ok (.getfield 137, 3) := by decide +kernel
theorem dX12_note_58 : decode cX12_note 58 = .ok (.iload_n 2, 1) := by decide +kernel
theorem dX12_note_59 : decode cX12_note 59 = .ok (.iastore, 1) := by decide +kernel
theorem dX12_note_60 : decode cX12_note 60 = .ok (.aload_n 0, 1) := by decide +kernel
theorem dX12_note_61 : decode cX12_note 61 = .ok (.getfield 108, 3) := by decide +kernel
theorem dX12_note_64 : decode cX12_note 64 = .ok (.aload_n 0, 1) := by decide +kernel
theorem dX12_note_65 : decode cX12_note 65 = .ok (.getfield 137, 3) := by decide +kernel
theorem dX12_note_68 : decode cX12_note 68 = .ok (.iload_n 3, 1) := by decide +kernel
theorem dX12_note_69 : decode cX12_note 69 = .ok (.iastore, 1) := by decide +kernel
theorem dX12_note_70 : decode cX12_note 70 = .ok (.aload_n 0, 1) := by decide +kernel
theorem dX12_note_71 : decode cX12_note 71 = .ok (.getfield 111, 3) := by decide +kernel
theorem dX12_note_74 : decode cX12_note 74 = .ok (.aload_n 0, 1) := by decide +kernel
theorem dX12_note_75 : decode cX12_note 75 = .ok (.getfield 137, 3) := by decide +kernel
theorem dX12_note_78 : decode cX12_note 78 = .ok (.iload 4, 2) := by decide +kernel
theorem dX12_note_80 : decode cX12_note 80 = .ok (.bastore, 1) := by decide +kernel
theorem dX12_note_81 : decode cX12_note 81 = .ok (.aload_n 0, 1) := by decide +kernel
theorem dX12_note_82 : decode cX12_note 82 = .ok (.dup, 1) := by decide +kernel
theorem dX12_note_83 : decode cX12_note 83 = .ok (.getfield 137, 3) := by decide +kernel
theorem dX12_note_86 : decode cX12_note 86 = .ok (.iconst 1, 1) := by decide +kernel
theorem dX12_note_87 : decode cX12_note 87 = .ok (.iadd, 1) := by decide +kernel
theorem dX12_note_88 : decode cX12_note 88 = .ok (.putfield 137, 3) := by decide +kernel
theorem dX12_note_91 : decode cX12_note 91 = .ok (.aload_n 0, 1) := by decide +kernel
theorem dX12_note_92 : decode cX12_note 92 = .ok (.getfield 137, 3) := by decide +kernel
theorem dX12_note_95 : decode cX12_note 95 = .ok (.iconst 1, 1) := by decide +kernel
theorem dX12_note_96 : decode cX12_note 96 = .ok (.isub, 1) := by decide +kernel
theorem dX12_note_97 : decode cX12_note 97 = .ok (.ireturn, 1) := by decide +kernel
theorem dX12_strike_0 : decode cX12_strike 0 = .ok (.aload_n 0, 1) := by decide +kernel
theorem dX12_strike_1 : decode cX12_strike 1 = .ok (.iconst 0, 1) := by decide +kernel
theorem dX12_strike_2 : decode cX12_strike 2 = .ok (.putfield 127, 3) := by decide +kernel
theorem dX12_strike_5 : decode cX12_strike 5 = .ok (.aload_n 0, 1) := by decide +kernel
theorem dX12_strike_6 : decode cX12_strike 6 = .ok (.getfield 137, 3) := by decide +kernel
theorem dX12_strike_9 : decode cX12_strike 9 = .ok (.bipush 40, 2) := by decide +kernel
theorem dX12_strike_11 : decode cX12_strike 11 = .ok (.if_icmp .eq 15, 3) := by decide +kernel
theorem dX12_strike_14 : decode cX12_strike 14 = .ok (.iload_n 1, 1) := by decide +kernel
theorem dX12_strike_15 : decode cX12_strike 15 = .ok (.ifCond .lt 11, 3) := by decide +kernel
theorem dX12_strike_18 : decode cX12_strike 18 = .ok (.iload_n 1, 1) := by decide +kernel
theorem dX12_strike_19 : decode cX12_strike 19 = .ok (.aload_n 0, 1) := by decide +kernel
theorem dX12_strike_20 : decode cX12_strike 20 = .ok (.getfield 137, 3) := by decide +kernel
theorem dX12_strike_23 : decode cX12_strike 23 = .ok (.if_icmp .lt 5, 3) := by decide +kernel
theorem dX12_strike_26 : decode cX12_strike 26 = .ok (.iconst (-1), 1) := by decide +kernel
theorem dX12_strike_27 : decode cX12_strike 27 = .ok (.ireturn, 1) := by decide +kernel
theorem dX12_strike_28 : decode cX12_strike 28 = .ok (.aload_n 0, 1) := by decide +kernel
theorem dX12_strike_29 : decode cX12_strike 29 = .ok (.getfield 102, 3) := by decide +kernel
theorem dX12_strike_32 : decode cX12_strike 32 = .ok (.aload_n 0, 1) := by decide +kernel
theorem dX12_strike_33 : decode cX12_strike 33 = .ok (.getfield 137, 3) := by decide +kernel
theorem dX12_strike_36 : decode cX12_strike 36 = .ok (.iconst (-1), 1) := by decide +kernel
theorem dX12_strike_37 : decode cX12_strike 37 = .ok (.iastore, 1) := by decide +kernel
theorem dX12_strike_38 : decode cX12_strike 38 = .ok (.aload_n 0, 1) := by decide +kernel
theorem dX12_strike_39 : decode cX12_strike 39 = .ok (.getfield 108, 3) := by decide +kernel
theorem dX12_strike_42 : decode cX12_strike 42 = .ok (.aload_n 0, 1) := by decide +kernel
theorem dX12_strike_43 : decode cX12_strike 43 = .ok (.getfield 137, 3) := by decide +kernel
theorem dX12_strike_46 : decode cX12_strike 46 = .ok (.iload_n 1, 1) := by decide +kernel
theorem dX12_strike_47 : decode cX12_strike 47 = .ok (.iastore, 1) := by decide +kernel
theorem dX12_strike_48 : decode cX12_strike 48 = .ok (.aload_n 0, 1) := by decide +kernel
theorem dX12_strike_49 : decode cX12_strike 49 = .ok (.dup, 1) := by decide +kernel
theorem dX12_strike_50 : decode cX12_strike 50 = .ok (.getfield 137, 3) := by decide +kernel
theorem dX12_strike_53 : decode cX12_strike 53 = .ok (.iconst 1, 1) := by decide +kernel
theorem dX12_strike_54 : decode cX12_strike 54 = .ok (.iadd, 1) := by decide +kernel
theorem dX12_strike_55 : decode cX12_strike 55 = .ok (.putfield 137, 3) := by decide +kernel
theorem dX12_strike_58 : decode cX12_strike 58 = .ok (.aload_n 0, 1) := by decide +kernel
theorem dX12_strike_59 : decode cX12_strike 59 = .ok (.getfield 137, 3) := by decide +kernel
theorem dX12_strike_62 : decode cX12_strike 62 = .ok (.iconst 1, 1) := by decide +kernel
theorem dX12_strike_63 : decode cX12_strike 63 = .ok (.isub, 1) := by decide +kernel
theorem dX12_strike_64 : decode cX12_strike 64 = .ok (.ireturn, 1) := by decide +kernel
theorem dX12_layCounts_0 : decode cX12_layCounts 0 = .ok (.iconst 0, 1) := by decide +kernel
theorem dX12_layCounts_1 : decode cX12_layCounts 1 = .ok (.istore_n 1, 1) := by decide +kernel
theorem dX12_layCounts_2 : decode cX12_layCounts 2 = .ok (.iload_n 1, 1) := by decide +kernel
theorem dX12_layCounts_3 : decode cX12_layCounts 3 = .ok (.aload_n 0, 1) := by decide +kernel
theorem dX12_layCounts_4 : decode cX12_layCounts 4 = .ok (.getfield 137, 3) := by decide +kernel
theorem dX12_layCounts_7 : decode cX12_layCounts 7 = .ok (.if_icmp .ge 16, 3) := by decide +kernel
theorem dX12_layCounts_10 : decode cX12_layCounts 10 = .ok (.aload_n 0, 1) := by decide +kernel
theorem dX12_layCounts_11 : decode cX12_layCounts 11 = .ok (.getfield 115, 3) := by decide +kernel
theorem dX12_layCounts_14 : decode cX12_layCounts 14 = .ok (.iload_n 1, 1) := by decide +kernel
theorem dX12_layCounts_15 : decode cX12_layCounts 15 = .ok (.iconst 1, 1) := by decide +kernel
theorem dX12_layCounts_16 : decode cX12_layCounts 16 = .ok (.bastore, 1) := by decide +kernel
theorem dX12_layCounts_17 : decode cX12_layCounts 17 = .ok (.iinc 1 1, 3) := by decide +kernel
theorem dX12_layCounts_20 : decode cX12_layCounts 20 = .ok (.goto (-18), 3) := by decide +kernel
theorem dX12_layCounts_23 : decode cX12_layCounts 23 = .ok (.aload_n 0, 1) := by decide +kernel
theorem dX12_layCounts_24 : decode cX12_layCounts 24 = .ok (.getfield 137, 3) := by decide +kernel
theorem dX12_layCounts_27 : decode cX12_layCounts 27 = .ok (.iconst 1, 1) := by decide +kernel
theorem dX12_layCounts_28 : decode cX12_layCounts 28 = .ok (.isub, 1) := by decide +kernel
theorem dX12_layCounts_29 : decode cX12_layCounts 29 = .ok (.istore_n 1, 1) := by decide +kernel
theorem dX12_layCounts_30 : decode cX12_layCounts 30 = .ok (.iload_n 1, 1) := by decide +kernel
theorem dX12_layCounts_31 : decode cX12_layCounts 31 = .ok (.ifCond .lt 39, 3) := by decide +kernel
theorem dX12_layCounts_34 : decode cX12_layCounts 34 = .ok (.aload_n 0, 1) := by decide +kernel
theorem dX12_layCounts_35 : decode cX12_layCounts 35 = .ok (.getfield 102, 3) := by decide +kernel
theorem dX12_layCounts_38 : decode cX12_layCounts 38 = .ok (.iload_n 1, 1) := by decide +kernel
theorem dX12_layCounts_39 : decode cX12_layCounts 39 = .ok (.iaload, 1) := by decide +kernel
theorem dX12_layCounts_40 : decode cX12_layCounts 40 = .ok (.ifCond .ge 24, 3) := by decide +kernel
theorem dX12_layCounts_43 : decode cX12_layCounts 43 = .ok (.aload_n 0, 1) := by decide +kernel
theorem dX12_layCounts_44 : decode cX12_layCounts 44 = .ok (.getfield 115, 3) := by decide +kernel
theorem dX12_layCounts_47 : decode cX12_layCounts 47 = .ok (.iload_n 1, 1) := by decide +kernel
theorem dX12_layCounts_48 : decode cX12_layCounts 48 = .ok (.baload, 1) := by decide +kernel
theorem dX12_layCounts_49 : decode cX12_layCounts 49 = .ok (.ifCond .eq 15, 3) := by decide +kernel
theorem dX12_layCounts_52 : decode cX12_layCounts 52 = .ok (.aload_n 0, 1) := by decide +kernel
theorem dX12_layCounts_53 : decode cX12_layCounts 53 = .ok (.getfield 115, 3) := by decide +kernel
theorem dX12_layCounts_56 : decode cX12_layCounts 56 = .ok (.aload_n 0, 1) := by decide +kernel
theorem dX12_layCounts_57 : decode cX12_layCounts 57 = .ok (.getfield 108, 3) := by decide +kernel
theorem dX12_layCounts_60 : decode cX12_layCounts 60 = .ok (.iload_n 1, 1) := by decide +kernel
theorem dX12_layCounts_61 : decode cX12_layCounts 61 = .ok (.iaload, 1) := by decide +kernel
theorem dX12_layCounts_62 : decode cX12_layCounts 62 = .ok (.iconst 0, 1) := by decide +kernel
theorem dX12_layCounts_63 : decode cX12_layCounts 63 = .ok (.bastore, 1) := by decide +kernel
theorem dX12_layCounts_64 : decode cX12_layCounts 64 = .ok (.iinc 1 (-1), 3) := by decide +kernel
theorem dX12_layCounts_67 : decode cX12_layCounts 67 = .ok (.goto (-37), 3) := by decide +kernel
theorem dX12_layCounts_70 : decode cX12_layCounts 70 = .ok (.return_, 1) := by decide +kernel
theorem dX12_isAgainst_0 : decode cX12_isAgainst 0 = .ok (.aload_n 0, 1) := by decide +kernel
theorem dX12_isAgainst_1 : decode cX12_isAgainst 1 = .ok (.getfield 115, 3) := by decide +kernel
theorem dX12_isAgainst_4 : decode cX12_isAgainst 4 = .ok (.iload_n 1, 1) := by decide +kernel
theorem dX12_isAgainst_5 : decode cX12_isAgainst 5 = .ok (.baload, 1) := by decide +kernel
theorem dX12_isAgainst_6 : decode cX12_isAgainst 6 = .ok (.ifCond .eq 43, 3) := by decide +kernel
theorem dX12_isAgainst_9 : decode cX12_isAgainst 9 = .ok (.aload_n 0, 1) := by decide +kernel
theorem dX12_isAgainst_10 : decode cX12_isAgainst 10 = .ok (.getfield 102, 3) := by decide +kernel
theorem dX12_isAgainst_13 : decode cX12_isAgainst 13 = .ok (.iload_n 1, 1) := by decide +kernel
theorem dX12_isAgainst_14 : decode cX12_isAgainst 14 = .ok (.iaload, 1) := by decide +kernel
theorem dX12_isAgainst_15 : decode cX12_isAgainst 15 = .ok (.ifCond .lt 34, 3) := by decide +kernel
theorem dX12_isAgainst_18 : decode cX12_isAgainst 18 = .ok (.aload_n 0, 1) := by decide +kernel
theorem dX12_isAgainst_19 : decode cX12_isAgainst 19 = .ok (.iload_n 2, 1) := by decide +kernel
theorem dX12_isAgainst_20 : decode cX12_isAgainst 20 = .ok (.aload_n 0, 1) := by decide +kernel
theorem dX12_isAgainst_21 : decode cX12_isAgainst 21 = .ok (.getfield 105, 3) := by decide +kernel
theorem dX12_isAgainst_24 : decode cX12_isAgainst 24 = .ok (.iload_n 1, 1) := by decide +kernel
theorem dX12_isAgainst_25 : decode cX12_isAgainst 25 = .ok (.iaload, 1) := by decide +kernel
theorem dX12_isAgainst_26 : decode cX12_isAgainst 26 = .ok (.aload_n 0, 1) := by decide +kernel
theorem dX12_isAgainst_27 : decode cX12_isAgainst 27 = .ok (.getfield 108, 3) := by decide +kernel
theorem dX12_isAgainst_30 : decode cX12_isAgainst 30 = .ok (.iload_n 1, 1) := by decide +kernel
theorem dX12_isAgainst_31 : decode cX12_isAgainst 31 = .ok (.iaload, 1) := by decide +kernel
theorem dX12_isAgainst_32 : decode cX12_isAgainst 32 = .ok (.i2l, 1) := by decide +kernel
theorem dX12_isAgainst_33 : decode cX12_isAgainst 33 = .ok (.invokevirtual 326, 3) := by decide +kernel
theorem dX12_isAgainst_36 : decode cX12_isAgainst 36 = .ok (.aload_n 0, 1) := by decide +kernel
theorem dX12_isAgainst_37 : decode cX12_isAgainst 37 = .ok (.getfield 111, 3) := by decide +kernel
theorem dX12_isAgainst_40 : decode cX12_isAgainst 40 = .ok (.iload_n 1, 1) := by decide +kernel
theorem dX12_isAgainst_41 : decode cX12_isAgainst 41 = .ok (.baload, 1) := by decide +kernel
theorem dX12_isAgainst_42 : decode cX12_isAgainst 42 = .ok (.if_icmp .eq 7, 3) := by decide +kernel
theorem dX12_isAgainst_45 : decode cX12_isAgainst 45 = .ok (.iconst 1, 1) := by decide +kernel
theorem dX12_isAgainst_46 : decode cX12_isAgainst 46 = .ok (.goto 4, 3) := by decide +kernel
theorem dX12_isAgainst_49 : decode cX12_isAgainst 49 = .ok (.iconst 0, 1) := by decide +kernel
theorem dX12_isAgainst_50 : decode cX12_isAgainst 50 = .ok (.ireturn, 1) := by decide +kernel
theorem dX12_doubtOf_0 : decode cX12_doubtOf 0 = .ok (.iconst 0, 1) := by decide +kernel
theorem dX12_doubtOf_1 : decode cX12_doubtOf 1 = .ok (.istore_n 2, 1) := by decide +kernel
theorem dX12_doubtOf_2 : decode cX12_doubtOf 2 = .ok (.iconst 0, 1) := by decide +kernel
theorem dX12_doubtOf_3 : decode cX12_doubtOf 3 = .ok (.istore_n 3, 1) := by decide +kernel
theorem dX12_doubtOf_4 : decode cX12_doubtOf 4 = .ok (.iload_n 3, 1) := by decide +kernel
theorem dX12_doubtOf_5 : decode cX12_doubtOf 5 = .ok (.aload_n 0, 1) := by decide +kernel
theorem dX12_doubtOf_6 : decode cX12_doubtOf 6 = .ok (.getfield 137, 3) := by decide +kernel
theorem dX12_doubtOf_9 : decode cX12_doubtOf 9 = .ok (.if_icmp .ge 26, 3) := by decide +kernel
theorem dX12_doubtOf_12 : decode cX12_doubtOf 12 = .ok (.iload_n 2, 1) := by decide +kernel
theorem dX12_doubtOf_13 : decode cX12_doubtOf 13 = .ok (.aload_n 0, 1) := by decide +kernel
theorem dX12_doubtOf_14 : decode cX12_doubtOf 14 = .ok (.iload_n 3, 1) := by decide +kernel
theorem dX12_doubtOf_15 : decode cX12_doubtOf 15 = .ok (.iload_n 1, 1) := by decide +kernel
theorem dX12_doubtOf_16 : decode cX12_doubtOf 16 = .ok (.invokevirtual 396, 3) := by decide +kernel
theorem dX12_doubtOf_19 : decode cX12_doubtOf 19 = .ok (.ifCond .eq 7, 3) := by decide +kernel
theorem dX12_doubtOf_22 : decode cX12_doubtOf 22 = .ok (.iconst 1, 1) := by decide +kernel
theorem dX12_doubtOf_23 : decode cX12_doubtOf 23 = .ok (.goto 4, 3) := by decide +kernel
theorem dX12_doubtOf_26 : decode cX12_doubtOf 26 = .ok (.iconst 0, 1) := by decide +kernel
theorem dX12_doubtOf_27 : decode cX12_doubtOf 27 = .ok (.iadd, 1) := by decide +kernel
theorem dX12_doubtOf_28 : decode cX12_doubtOf 28 = .ok (.istore_n 2, 1) := by decide +kernel
theorem dX12_doubtOf_29 : decode cX12_doubtOf 29 = .ok (.iinc 3 1, 3) := by decide +kernel
theorem dX12_doubtOf_32 : decode cX12_doubtOf 32 = .ok (.goto (-28), 3) := by decide +kernel
theorem dX12_doubtOf_35 : decode cX12_doubtOf 35 = .ok (.iload_n 2, 1) := by decide +kernel
theorem dX12_doubtOf_36 : decode cX12_doubtOf 36 = .ok (.ireturn, 1) := by decide +kernel
theorem dX12_fitting_0 : decode cX12_fitting 0 = .ok (.aload_n 0, 1) := by decide +kernel
theorem dX12_fitting_1 : decode cX12_fitting 1 = .ok (.iconst 0, 1) := by decide +kernel
theorem dX12_fitting_2 : decode cX12_fitting 2 = .ok (.putfield 127, 3) := by decide +kernel
theorem dX12_fitting_5 : decode cX12_fitting 5 = .ok (.aload_n 0, 1) := by decide +kernel
theorem dX12_fitting_6 : decode cX12_fitting 6 = .ok (.invokevirtual 399, 3) := by decide +kernel
theorem dX12_fitting_9 : decode cX12_fitting 9 = .ok (.iconst 0, 1) := by decide +kernel
theorem dX12_fitting_10 : decode cX12_fitting 10 = .ok (.istore_n 2, 1) := by decide +kernel
theorem dX12_fitting_11 : decode cX12_fitting 11 = .ok (.iconst 0, 1) := by decide +kernel
theorem dX12_fitting_12 : decode cX12_fitting 12 = .ok (.istore_n 3, 1) := by decide +kernel
theorem dX12_fitting_13 : decode cX12_fitting 13 = .ok (.iload_n 3, 1) := by decide +kernel
theorem dX12_fitting_14 : decode cX12_fitting 14 = .ok (.aload_n 0, 1) := by decide +kernel
theorem dX12_fitting_15 : decode cX12_fitting 15 = .ok (.getfield 13, 3) := by decide +kernel
theorem dX12_fitting_18 : decode cX12_fitting 18 = .ok (.if_icmp .gt 30, 3) := by decide +kernel
theorem dX12_fitting_21 : decode cX12_fitting 21 = .ok (.aload_n 0, 1) := by decide +kernel
theorem dX12_fitting_22 : decode cX12_fitting 22 = .ok (.iload_n 3, 1) := by decide +kernel
theorem dX12_fitting_23 : decode cX12_fitting 23 = .ok (.invokevirtual 402, 3) := by decide +kernel
theorem dX12_fitting_26 : decode cX12_fitting 26 = .ok (.ifCond .le 6, 3) := by decide +kernel
theorem dX12_fitting_29 : decode cX12_fitting 29 = .ok (.goto 13, 3) := by decide +kernel
theorem dX12_fitting_32 : decode cX12_fitting 32 = .ok (.iload_n 2, 1) := by decide +kernel
theorem dX12_fitting_33 : decode cX12_fitting 33 = .ok (.iload_n 1, 1) := by decide +kernel
theorem dX12_fitting_34 : decode cX12_fitting 34 = .ok (.if_icmp .ne 5, 3) := by decide +kernel
theorem dX12_fitting_37 : decode cX12_fitting 37 = .ok (.iload_n 3, 1) := by decide +kernel
theorem dX12_fitting_38 : decode cX12_fitting 38 = .ok (.ireturn, 1) := by decide +kernel
theorem dX12_fitting_39 : decode cX12_fitting 39 = .ok (.iinc 2 1, 3) := by decide +kernel
theorem dX12_fitting_42 : decode cX12_fitting 42 = .ok (.iinc 3 1, 3) := by decide +kernel
theorem dX12_fitting_45 : decode cX12_fitting 45 = .ok (.goto (-32), 3) := by decide +kernel
theorem dX12_fitting_48 : decode cX12_fitting 48 = .ok (.iload_n 1, 1) := by decide +kernel
theorem dX12_fitting_49 : decode cX12_fitting 49 = .ok (.iconst (-1), 1) := by decide +kernel
theorem dX12_fitting_50 : decode cX12_fitting 50 = .ok (.if_icmp .ne 7, 3) := by decide +kernel
theorem dX12_fitting_53 : decode cX12_fitting 53 = .ok (.iload_n 2, 1) := by decide +kernel
theorem dX12_fitting_54 : decode cX12_fitting 54 = .ok (.goto 4, 3) := by decide +kernel
theorem dX12_fitting_57 : decode cX12_fitting 57 = .ok (.iconst (-1), 1) := by decide +kernel
theorem dX12_fitting_58 : decode cX12_fitting 58 = .ok (.ireturn, 1) := by decide +kernel
theorem dX12_doubt_0 : decode cX12_doubt 0 = .ok (.aload_n 0, 1) := by decide +kernel
theorem dX12_doubt_1 : decode cX12_doubt 1 = .ok (.iconst 0, 1) := by decide +kernel
theorem dX12_doubt_2 : decode cX12_doubt 2 = .ok (.putfield 127, 3) := by decide +kernel
theorem dX12_doubt_5 : decode cX12_doubt 5 = .ok (.aload_n 0, 1) := by decide +kernel
theorem dX12_doubt_6 : decode cX12_doubt 6 = .ok (.iload_n 1, 1) := by decide +kernel
theorem dX12_doubt_7 : decode cX12_doubt 7 = .ok (.invokevirtual 151, 3) := by decide +kernel
theorem dX12_doubt_10 : decode cX12_doubt 10 = .ok (.ifCond .ne 5, 3) := by decide +kernel
theorem dX12_doubt_13 : decode cX12_doubt 13 = .ok (.iconst (-1), 1) := by decide +kernel
theorem dX12_doubt_14 : decode cX12_doubt 14 = .ok (.ireturn, 1) := by decide +kernel
theorem dX12_doubt_15 : decode cX12_doubt 15 = .ok (.aload_n 0, 1) := by decide +kernel
theorem dX12_doubt_16 : decode cX12_doubt 16 = .ok (.invokevirtual 399, 3) := by decide +kernel
theorem dX12_doubt_19 : decode cX12_doubt 19 = .ok (.aload_n 0, 1) := by decide +kernel
theorem dX12_doubt_20 : decode cX12_doubt 20 = .ok (.iload_n 1, 1) := by decide +kernel
theorem dX12_doubt_21 : decode cX12_doubt 21 = .ok (.invokevirtual 402, 3) := by decide +kernel
theorem dX12_doubt_24 : decode cX12_doubt 24 = .ok (.ireturn, 1) := by decide +kernel
theorem dX12_leastDoubted_0 : decode cX12_leastDoubted 0 = .ok (.iconst 0, 1) := by decide +kernel
theorem dX12_leastDoubted_1 : decode cX12_leastDoubted 1 = .ok (.istore_n 1, 1) := by decide +kernel
theorem dX12_leastDoubted_2 : decode cX12_leastDoubted 2 = .ok (.iconst 1, 1) := by decide +kernel
theorem dX12_leastDoubted_3 : decode cX12_leastDoubted 3 = .ok (.istore_n 2, 1) := by decide +kernel
theorem dX12_leastDoubted_4 : decode cX12_leastDoubted 4 = .ok (.iload_n 2, 1) := by decide +kernel
theorem dX12_leastDoubted_5 : decode cX12_leastDoubted 5 = .ok (.aload_n 0, 1) := by decide +kernel
theorem dX12_leastDoubted_6 : decode cX12_leastDoubted 6 = .ok (.getfield 13, 3) := by decide +kernel
theorem dX12_leastDoubted_9 : decode cX12_leastDoubted 9 = .ok (.if_icmp .gt 28, 3) := by decide +kernel
theorem dX12_leastDoubted_12 : decode cX12_leastDoubted 12 = .ok (.aload_n 0, 1) := by decide +kernel
theorem dX12_leastDoubted_13 : decode cX12_leastDoubted 13 = .ok (.iload_n 2, 1) := by decide +kernel
theorem dX12_leastDoubted_14 : decode cX12_leastDoubted 14 = .ok (.invokevirtual 402, 3) := by decide +kernel
theorem dX12_leastDoubted_17 : decode cX12_leastDoubted 17 = .ok (.aload_n 0, 1) := by decide +kernel
theorem dX12_leastDoubted_18 : decode cX12_leastDoubted 18 = .ok (.iload_n 1, 1) := by decide +kernel
theorem dX12_leastDoubted_19 : decode cX12_leastDoubted 19 = .ok (.invokevirtual 402, 3) := by decide +kernel
theorem dX12_leastDoubted_22 : decode cX12_leastDoubted 22 = .ok (.if_icmp .ge 7, 3) := by decide +kernel
theorem dX12_leastDoubted_25 : decode cX12_leastDoubted 25 = .ok (.iload_n 2, 1) := by decide +kernel
theorem dX12_leastDoubted_26 : decode cX12_leastDoubted 26 = .ok (.goto 4, 3) := by decide +kernel
theorem dX12_leastDoubted_29 : decode cX12_leastDoubted 29 = .ok (.iload_n 1, 1) := by decide +kernel
theorem dX12_leastDoubted_30 : decode cX12_leastDoubted 30 = .ok (.istore_n 1, 1) := by decide +kernel
theorem dX12_leastDoubted_31 : decode cX12_leastDoubted 31 = .ok (.iinc 2 1, 3) := by decide +kernel
theorem dX12_leastDoubted_34 : decode cX12_leastDoubted 34 = .ok (.goto (-30), 3) := by decide +kernel
theorem dX12_leastDoubted_37 : decode cX12_leastDoubted 37 = .ok (.iload_n 1, 1) := by decide +kernel
theorem dX12_leastDoubted_38 : decode cX12_leastDoubted 38 = .ok (.ireturn, 1) := by decide +kernel
theorem dX12_least_0 : decode cX12_least 0 = .ok (.aload_n 0, 1) := by decide +kernel
theorem dX12_least_1 : decode cX12_least 1 = .ok (.iconst 0, 1) := by decide +kernel
theorem dX12_least_2 : decode cX12_least 2 = .ok (.putfield 127, 3) := by decide +kernel
theorem dX12_least_5 : decode cX12_least 5 = .ok (.iload_n 1, 1) := by decide +kernel
theorem dX12_least_6 : decode cX12_least 6 = .ok (.iconst 0, 1) := by decide +kernel
theorem dX12_least_7 : decode cX12_least 7 = .ok (.iconst 1, 1) := by decide +kernel
theorem dX12_least_8 : decode cX12_least 8 = .ok (.invokestatic 133, 3) := by decide +kernel
theorem dX12_least_11 : decode cX12_least 11 = .ok (.ifCond .ne 5, 3) := by decide +kernel
theorem dX12_least_14 : decode cX12_least 14 = .ok (.iconst (-1), 1) := by decide +kernel
theorem dX12_least_15 : decode cX12_least 15 = .ok (.ireturn, 1) := by decide +kernel
theorem dX12_least_16 : decode cX12_least 16 = .ok (.aload_n 0, 1) := by decide +kernel
theorem dX12_least_17 : decode cX12_least 17 = .ok (.invokevirtual 399, 3) := by decide +kernel
theorem dX12_least_20 : decode cX12_least 20 = .ok (.aload_n 0, 1) := by decide +kernel
theorem dX12_least_21 : decode cX12_least 21 = .ok (.invokevirtual 405, 3) := by decide +kernel
theorem dX12_least_24 : decode cX12_least 24 = .ok (.istore_n 2, 1) := by decide +kernel
theorem dX12_least_25 : decode cX12_least 25 = .ok (.iload_n 1, 1) := by decide +kernel
theorem dX12_least_26 : decode cX12_least 26 = .ok (.ifCond .ne 11, 3) := by decide +kernel
theorem dX12_least_29 : decode cX12_least 29 = .ok (.aload_n 0, 1) := by decide +kernel
theorem dX12_least_30 : decode cX12_least 30 = .ok (.iload_n 2, 1) := by decide +kernel
theorem dX12_least_31 : decode cX12_least 31 = .ok (.invokevirtual 402, 3) := by decide +kernel
theorem dX12_least_34 : decode cX12_least 34 = .ok (.goto 4, 3) := by decide +kernel
theorem dX12_least_37 : decode cX12_least 37 = .ok (.iload_n 2, 1) := by decide +kernel
theorem dX12_least_38 : decode cX12_least 38 = .ok (.ireturn, 1) := by decide +kernel
theorem dX12_doubted_0 : decode cX12_doubted 0 = .ok (.aload_n 0, 1) := by decide +kernel
theorem dX12_doubted_1 : decode cX12_doubted 1 = .ok (.iconst 0, 1) := by decide +kernel
theorem dX12_doubted_2 : decode cX12_doubted 2 = .ok (.putfield 127, 3) := by decide +kernel
theorem dX12_doubted_5 : decode cX12_doubted 5 = .ok (.iload_n 1, 1) := by decide +kernel
theorem dX12_doubted_6 : decode cX12_doubted 6 = .ok (.iconst 0, 1) := by decide +kernel
theorem dX12_doubted_7 : decode cX12_doubted 7 = .ok (.iconst 5, 1) := by decide +kernel
theorem dX12_doubted_8 : decode cX12_doubted 8 = .ok (.invokestatic 133, 3) := by decide +kernel
theorem dX12_doubted_11 : decode cX12_doubted 11 = .ok (.ifCond .ne 5, 3) := by decide +kernel
theorem dX12_doubted_14 : decode cX12_doubted 14 = .ok (.iconst (-1), 1) := by decide +kernel
theorem dX12_doubted_15 : decode cX12_doubted 15 = .ok (.ireturn, 1) := by decide +kernel
theorem dX12_doubted_16 : decode cX12_doubted 16 = .ok (.aload_n 0, 1) := by decide +kernel
theorem dX12_doubted_17 : decode cX12_doubted 17 = .ok (.invokevirtual 399, 3) := by decide +kernel
theorem dX12_doubted_20 : decode cX12_doubted 20 = .ok (.aload_n 0, 1) := by decide +kernel
theorem dX12_doubted_21 : decode cX12_doubted 21 = .ok (.invokevirtual 405, 3) := by decide +kernel
theorem dX12_doubted_24 : decode cX12_doubted 24 = .ok (.istore_n 2, 1) := by decide +kernel
theorem dX12_doubted_25 : decode cX12_doubted 25 = .ok (.iconst 0, 1) := by decide +kernel
theorem dX12_doubted_26 : decode cX12_doubted 26 = .ok (.istore_n 3, 1) := by decide +kernel
theorem dX12_doubted_27 : decode cX12_doubted 27 = .ok (.iconst 0, 1) := by decide +kernel
theorem dX12_doubted_28 : decode cX12_doubted 28 = .ok (.istore 4, 2) := by decide +kernel
theorem dX12_doubted_30 : decode cX12_doubted 30 = .ok (.iload 4, 2) := by decide +kernel
theorem dX12_doubted_32 : decode cX12_doubted 32 = .ok (.aload_n 0, 1) := by decide +kernel
theorem dX12_doubted_33 : decode cX12_doubted 33 = .ok (.getfield 137, 3) := by decide +kernel
theorem dX12_doubted_36 : decode cX12_doubted 36 = .ok (.if_icmp .ge 38, 3) := by decide +kernel
theorem dX12_doubted_39 : decode cX12_doubted 39 = .ok (.iload_n 3, 1) := by decide +kernel
theorem dX12_doubted_40 : decode cX12_doubted 40 = .ok (.aload_n 0, 1) := by decide +kernel
theorem dX12_doubted_41 : decode cX12_doubted 41 = .ok (.getfield 102, 3) := by decide +kernel
theorem dX12_doubted_44 : decode cX12_doubted 44 = .ok (.iload 4, 2) := by decide +kernel
theorem dX12_doubted_46 : decode cX12_doubted 46 = .ok (.iaload, 1) := by decide +kernel
theorem dX12_doubted_47 : decode cX12_doubted 47 = .ok (.iload_n 1, 1) := by decide +kernel
theorem dX12_doubted_48 : decode cX12_doubted 48 = .ok (.if_icmp .ne 17, 3) := by decide +kernel
theorem dX12_doubted_51 : decode cX12_doubted 51 = .ok (.aload_n 0, 1) := by decide +kernel
theorem dX12_doubted_52 : decode cX12_doubted 52 = .ok (.iload 4, 2) := by decide +kernel
theorem dX12_doubted_54 : decode cX12_doubted 54 = .ok (.iload_n 2, 1) := by decide +kernel
theorem dX12_doubted_55 : decode cX12_doubted 55 = .ok (.invokevirtual 396, 3) := by decide +kernel
theorem dX12_doubted_58 : decode cX12_doubted 58 = .ok (.ifCond .eq 7, 3) := by decide +kernel
theorem dX12_doubted_61 : decode cX12_doubted 61 = .ok (.iconst 1, 1) := by decide +kernel
theorem dX12_doubted_62 : decode cX12_doubted 62 = .ok (.goto 4, 3) := by decide +kernel
theorem dX12_doubted_65 : decode cX12_doubted 65 = .ok (.iconst 0, 1) := by decide +kernel
theorem dX12_doubted_66 : decode cX12_doubted 66 = .ok (.iadd, 1) := by decide +kernel
theorem dX12_doubted_67 : decode cX12_doubted 67 = .ok (.istore_n 3, 1) := by decide +kernel
theorem dX12_doubted_68 : decode cX12_doubted 68 = .ok (.iinc 4 1, 3) := by decide +kernel
theorem dX12_doubted_71 : decode cX12_doubted 71 = .ok (.goto (-41), 3) := by decide +kernel
theorem dX12_doubted_74 : decode cX12_doubted 74 = .ok (.iload_n 3, 1) := by decide +kernel
theorem dX12_doubted_75 : decode cX12_doubted 75 = .ok (.ireturn, 1) := by decide +kernel
theorem dX12_parts_0 : decode cX12_parts 0 = .ok (.aload_n 0, 1) := by decide +kernel
theorem dX12_parts_1 : decode cX12_parts 1 = .ok (.iconst 0, 1) := by decide +kernel
theorem dX12_parts_2 : decode cX12_parts 2 = .ok (.putfield 127, 3) := by decide +kernel
theorem dX12_parts_5 : decode cX12_parts 5 = .ok (.iload_n 1, 1) := by decide +kernel
theorem dX12_parts_6 : decode cX12_parts 6 = .ok (.invokestatic 144, 3) := by decide +kernel
theorem dX12_parts_9 : decode cX12_parts 9 = .ok (.ifCond .ne 5, 3) := by decide +kernel
theorem dX12_parts_12 : decode cX12_parts 12 = .ok (.iconst (-1), 1) := by decide +kernel
theorem dX12_parts_13 : decode cX12_parts 13 = .ok (.ireturn, 1) := by decide +kernel
theorem dX12_parts_14 : decode cX12_parts 14 = .ok (.aload_n 0, 1) := by decide +kernel
theorem dX12_parts_15 : decode cX12_parts 15 = .ok (.invokevirtual 399, 3) := by decide +kernel
theorem dX12_parts_18 : decode cX12_parts 18 = .ok (.iconst (-1), 1) := by decide +kernel
theorem dX12_parts_19 : decode cX12_parts 19 = .ok (.istore_n 2, 1) := by decide +kernel
theorem dX12_parts_20 : decode cX12_parts 20 = .ok (.iconst 0, 1) := by decide +kernel
theorem dX12_parts_21 : decode cX12_parts 21 = .ok (.istore_n 3, 1) := by decide +kernel
theorem dX12_parts_22 : decode cX12_parts 22 = .ok (.iconst 1, 1) := by decide +kernel
theorem dX12_parts_23 : decode cX12_parts 23 = .ok (.istore 4, 2) := by decide +kernel
theorem dX12_parts_25 : decode cX12_parts 25 = .ok (.iload 4, 2) := by decide +kernel
theorem dX12_parts_27 : decode cX12_parts 27 = .ok (.aload_n 0, 1) := by decide +kernel
theorem dX12_parts_28 : decode cX12_parts 28 = .ok (.getfield 13, 3) := by decide +kernel
theorem dX12_parts_31 : decode cX12_parts 31 = .ok (.if_icmp .gt 124, 3) := by decide +kernel
theorem dX12_parts_34 : decode cX12_parts 34 = .ok (.iconst 0, 1) := by decide +kernel
theorem dX12_parts_35 : decode cX12_parts 35 = .ok (.istore 5, 2) := by decide +kernel
theorem dX12_parts_37 : decode cX12_parts 37 = .ok (.iconst 0, 1) := by decide +kernel
theorem dX12_parts_38 : decode cX12_parts 38 = .ok (.istore 6, 2) := by decide +kernel
theorem dX12_parts_40 : decode cX12_parts 40 = .ok (.iconst 0, 1) := by decide +kernel
theorem dX12_parts_41 : decode cX12_parts 41 = .ok (.istore 7, 2) := by decide +kernel
theorem dX12_parts_43 : decode cX12_parts 43 = .ok (.iload 7, 2) := by decide +kernel
theorem dX12_parts_45 : decode cX12_parts 45 = .ok (.aload_n 0, 1) := by decide +kernel
theorem dX12_parts_46 : decode cX12_parts 46 = .ok (.getfield 13, 3) := by decide +kernel
theorem dX12_parts_49 : decode cX12_parts 49 = .ok (.if_icmp .gt 60, 3) := by decide +kernel
theorem dX12_parts_52 : decode cX12_parts 52 = .ok (.aload_n 0, 1) := by decide +kernel
theorem dX12_parts_53 : decode cX12_parts 53 = .ok (.iload 7, 2) := by decide +kernel
theorem dX12_parts_55 : decode cX12_parts 55 = .ok (.invokevirtual 402, 3) := by decide +kernel
theorem dX12_parts_58 : decode cX12_parts 58 = .ok (.ifCond .le 6, 3) := by decide +kernel
theorem dX12_parts_61 : decode cX12_parts 61 = .ok (.goto 42, 3) := by decide +kernel
theorem dX12_parts_64 : decode cX12_parts 64 = .ok (.iconst 1, 1) := by decide +kernel
theorem dX12_parts_65 : decode cX12_parts 65 = .ok (.istore 6, 2) := by decide +kernel
theorem dX12_parts_67 : decode cX12_parts 67 = .ok (.iload 5, 2) := by decide +kernel
theorem dX12_parts_69 : decode cX12_parts 69 = .ok (.aload_n 0, 1) := by decide +kernel
theorem dX12_parts_70 : decode cX12_parts 70 = .ok (.iload 7, 2) := by decide +kernel
theorem dX12_parts_72 : decode cX12_parts 72 = .ok (.iload_n 1, 1) := by decide +kernel
theorem dX12_parts_73 : decode cX12_parts 73 = .ok (.iload 4, 2) := by decide +kernel
theorem dX12_parts_75 : decode cX12_parts 75 = .ok (.i2l, 1) := by decide +kernel
theorem dX12_parts_76 : decode cX12_parts 76 = .ok (.invokevirtual 326, 3) := by decide +kernel
theorem dX12_parts_79 : decode cX12_parts 79 = .ok (.ifCond .eq 13, 3) := by decide +kernel
theorem dX12_parts_82 : decode cX12_parts 82 = .ok (.aload_n 0, 1) := by decide +kernel
theorem dX12_parts_83 : decode cX12_parts 83 = .ok (.getfield 26, 3) := by decide +kernel
theorem dX12_parts_86 : decode cX12_parts 86 = .ok (.iload 7, 2) := by decide +kernel
theorem dX12_parts_88 : decode cX12_parts 88 = .ok (.iaload, 1) := by decide +kernel
theorem dX12_parts_89 : decode cX12_parts 89 = .ok (.goto 11, 3) := by decide +kernel
theorem dX12_parts_92 : decode cX12_parts 92 = .ok (.aload_n 0, 1) := by decide +kernel
theorem dX12_parts_93 : decode cX12_parts 93 = .ok (.getfield 26, 3) := by decide +kernel
theorem dX12_parts_96 : decode cX12_parts 96 = .ok (.iload 7, 2) := by decide +kernel
theorem dX12_parts_98 : decode cX12_parts 98 = .ok (.iaload, 1) := by decide +kernel
theorem dX12_parts_99 : decode cX12_parts 99 = .ok (.ineg, 1) := by decide +kernel
theorem dX12_parts_100 : decode cX12_parts 100 = .ok (.iadd, 1) := by decide +kernel
theorem dX12_parts_101 : decode cX12_parts 101 = .ok (.istore 5, 2) := by decide +kernel
theorem dX12_parts_103 : decode cX12_parts 103 = .ok (.iinc 7 1, 3) := by decide +kernel
theorem dX12_parts_106 : decode cX12_parts 106 = .ok (.goto (-63), 3) := by decide +kernel
theorem dX12_parts_109 : decode cX12_parts 109 = .ok (.iload 5, 2) := by decide +kernel
theorem dX12_parts_111 : decode cX12_parts 111 = .ok (.ifCond .ge 9, 3) := by decide +kernel
theorem dX12_parts_114 : decode cX12_parts 114 = .ok (.iload 5, 2) := by decide +kernel
theorem dX12_parts_116 : decode cX12_parts 116 = .ok (.ineg, 1) := by decide +kernel
theorem dX12_parts_117 : decode cX12_parts 117 = .ok (.goto 5, 3) := by decide +kernel
theorem dX12_parts_120 : decode cX12_parts 120 = .ok (.iload 5, 2) := by decide +kernel
theorem dX12_parts_122 : decode cX12_parts 122 = .ok (.istore 5, 2) := by decide +kernel
theorem dX12_parts_124 : decode cX12_parts 124 = .ok (.iload 6, 2) := by decide +kernel
theorem dX12_parts_126 : decode cX12_parts 126 = .ok (.ifCond .eq 23, 3) := by decide +kernel
theorem dX12_parts_129 : decode cX12_parts 129 = .ok (.iload_n 2, 1) := by decide +kernel
theorem dX12_parts_130 : decode cX12_parts 130 = .ok (.iconst (-1), 1) := by decide +kernel
theorem dX12_parts_131 : decode cX12_parts 131 = .ok (.if_icmp .eq 12, 3) := by decide +kernel
theorem dX12_parts_134 : decode cX12_parts 134 = .ok (.iload 5, 2) := by decide +kernel
theorem dX12_parts_136 : decode cX12_parts 136 = .ok (.iload_n 3, 1) := by decide +kernel
theorem dX12_parts_137 : decode cX12_parts 137 = .ok (.if_icmp .lt 6, 3) := by decide +kernel
theorem dX12_parts_140 : decode cX12_parts 140 = .ok (.goto 9, 3) := by decide +kernel
theorem dX12_parts_143 : decode cX12_parts 143 = .ok (.iload 4, 2) := by decide +kernel
theorem dX12_parts_145 : decode cX12_parts 145 = .ok (.istore_n 2, 1) := by decide +kernel
theorem dX12_parts_146 : decode cX12_parts 146 = .ok (.iload 5, 2) := by decide +kernel
theorem dX12_parts_148 : decode cX12_parts 148 = .ok (.istore_n 3, 1) := by decide +kernel
theorem dX12_parts_149 : decode cX12_parts 149 = .ok (.iinc 4 1, 3) := by decide +kernel
theorem dX12_parts_152 : decode cX12_parts 152 = .ok (.goto (-127), 3) := by decide +kernel
theorem dX12_parts_155 : decode cX12_parts 155 = .ok (.iload_n 2, 1) := by decide +kernel
theorem dX12_parts_156 : decode cX12_parts 156 = .ok (.ireturn, 1) := by decide +kernel
theorem dX12_begin_0 : decode cX12_begin 0 = .ok (.aload_n 0, 1) := by decide +kernel
theorem dX12_begin_1 : decode cX12_begin 1 = .ok (.iconst 0, 1) := by decide +kernel
theorem dX12_begin_2 : decode cX12_begin 2 = .ok (.putfield 127, 3) := by decide +kernel
theorem dX12_begin_5 : decode cX12_begin 5 = .ok (.aload_n 0, 1) := by decide +kernel
theorem dX12_begin_6 : decode cX12_begin 6 = .ok (.iconst 0, 1) := by decide +kernel
theorem dX12_begin_7 : decode cX12_begin 7 = .ok (.aload_n 0, 1) := by decide +kernel
theorem dX12_begin_8 : decode cX12_begin 8 = .ok (.getfield 13, 3) := by decide +kernel
theorem dX12_begin_11 : decode cX12_begin 11 = .ok (.invokevirtual 408, 3) := by decide +kernel
theorem dX12_begin_14 : decode cX12_begin 14 = .ok (.istore_n 2, 1) := by decide +kernel
theorem dX12_begin_15 : decode cX12_begin 15 = .ok (.iload_n 1, 1) := by decide +kernel
theorem dX12_begin_16 : decode cX12_begin 16 = .ok (.ifCond .lt 7, 3) := by decide +kernel
theorem dX12_begin_19 : decode cX12_begin 19 = .ok (.iload_n 2, 1) := by decide +kernel
theorem dX12_begin_20 : decode cX12_begin 20 = .ok (.ifCond .ne 5, 3) := by decide +kernel
theorem dX12_begin_23 : decode cX12_begin 23 = .ok (.iconst 0, 1) := by decide +kernel
theorem dX12_begin_24 : decode cX12_begin 24 = .ok (.ireturn, 1) := by decide +kernel
theorem dX12_begin_25 : decode cX12_begin 25 = .ok (.iload_n 1, 1) := by decide +kernel
theorem dX12_begin_26 : decode cX12_begin 26 = .ok (.i2l, 1) := by decide +kernel
theorem dX12_begin_27 : decode cX12_begin 27 = .ok (.ldc2_w 411, 3) := by decide +kernel
theorem dX12_begin_30 : decode cX12_begin 30 = .ok (.lmul, 1) := by decide +kernel
theorem dX12_begin_31 : decode cX12_begin 31 = .ok (.ldc2_w 413, 3) := by decide +kernel
theorem dX12_begin_34 : decode cX12_begin 34 = .ok (.ladd, 1) := by decide +kernel
theorem dX12_begin_35 : decode cX12_begin 35 = .ok (.ldc2_w 415, 3) := by decide +kernel
theorem dX12_begin_38 : decode cX12_begin 38 = .ok (.land, 1) := by decide +kernel
theorem dX12_begin_39 : decode cX12_begin 39 = .ok (.lstore_n 3, 1) := by decide +kernel
theorem dX12_begin_40 : decode cX12_begin 40 = .ok (.lload_n 3, 1) := by decide +kernel
theorem dX12_begin_41 : decode cX12_begin 41 = .ok (.ldc2_w 417, 3) := by decide +kernel
theorem dX12_begin_44 : decode cX12_begin 44 = .ok (.ldiv, 1) := by decide +kernel
theorem dX12_begin_45 : decode cX12_begin 45 = .ok (.iload_n 2, 1) := by decide +kernel
theorem dX12_begin_46 : decode cX12_begin 46 = .ok (.i2l, 1) := by decide +kernel
theorem dX12_begin_47 : decode cX12_begin 47 = .ok (.lrem, 1) := by decide +kernel
theorem dX12_begin_48 : decode cX12_begin 48 = .ok (.l2i, 1) := by decide +kernel
theorem dX12_begin_49 : decode cX12_begin 49 = .ok (.istore 5, 2) := by decide +kernel
theorem dX12_begin_51 : decode cX12_begin 51 = .ok (.aload_n 0, 1) := by decide +kernel
theorem dX12_begin_52 : decode cX12_begin 52 = .ok (.iconst 0, 1) := by decide +kernel
theorem dX12_begin_53 : decode cX12_begin 53 = .ok (.putfield 419, 3) := by decide +kernel
theorem dX12_begin_56 : decode cX12_begin 56 = .ok (.aload_n 0, 1) := by decide +kernel
theorem dX12_begin_57 : decode cX12_begin 57 = .ok (.iconst 0, 1) := by decide +kernel
theorem dX12_begin_58 : decode cX12_begin 58 = .ok (.aload_n 0, 1) := by decide +kernel
theorem dX12_begin_59 : decode cX12_begin 59 = .ok (.getfield 419, 3) := by decide +kernel
theorem dX12_begin_62 : decode cX12_begin 62 = .ok (.invokevirtual 408, 3) := by decide +kernel
theorem dX12_begin_65 : decode cX12_begin 65 = .ok (.iload 5, 2) := by decide +kernel
theorem dX12_begin_67 : decode cX12_begin 67 = .ok (.if_icmp .gt 16, 3) := by decide +kernel
theorem dX12_begin_70 : decode cX12_begin 70 = .ok (.aload_n 0, 1) := by decide +kernel
theorem dX12_begin_71 : decode cX12_begin 71 = .ok (.dup, 1) := by decide +kernel
theorem dX12_begin_72 : decode cX12_begin 72 = .ok (.getfield 419, 3) := by decide +kernel
theorem dX12_begin_75 : decode cX12_begin 75 = .ok (.iconst 1, 1) := by decide +kernel
theorem dX12_begin_76 : decode cX12_begin 76 = .ok (.iadd, 1) := by decide +kernel
theorem dX12_begin_77 : decode cX12_begin 77 = .ok (.putfield 419, 3) := by decide +kernel
theorem dX12_begin_80 : decode cX12_begin 80 = .ok (.goto (-24), 3) := by decide +kernel
theorem dX12_begin_83 : decode cX12_begin 83 = .ok (.aload_n 0, 1) := by decide +kernel
theorem dX12_begin_84 : decode cX12_begin 84 = .ok (.iconst 1, 1) := by decide +kernel
theorem dX12_begin_85 : decode cX12_begin 85 = .ok (.putfield 140, 3) := by decide +kernel
theorem dX12_begin_88 : decode cX12_begin 88 = .ok (.aload_n 0, 1) := by decide +kernel
theorem dX12_begin_89 : decode cX12_begin 89 = .ok (.iconst 0, 1) := by decide +kernel
theorem dX12_begin_90 : decode cX12_begin 90 = .ok (.putfield 422, 3) := by decide +kernel
theorem dX12_begin_93 : decode cX12_begin 93 = .ok (.iconst 1, 1) := by decide +kernel
theorem dX12_begin_94 : decode cX12_begin 94 = .ok (.ireturn, 1) := by decide +kernel
theorem dX12_leftNow_0 : decode cX12_leftNow 0 = .ok (.aload_n 0, 1) := by decide +kernel
theorem dX12_leftNow_1 : decode cX12_leftNow 1 = .ok (.getfield 20, 3) := by decide +kernel
theorem dX12_leftNow_4 : decode cX12_leftNow 4 = .ok (.iload_n 1, 1) := by decide +kernel
theorem dX12_leftNow_5 : decode cX12_leftNow 5 = .ok (.iaload, 1) := by decide +kernel
theorem dX12_leftNow_6 : decode cX12_leftNow 6 = .ok (.istore_n 2, 1) := by decide +kernel
theorem dX12_leftNow_7 : decode cX12_leftNow 7 = .ok (.iconst 0, 1) := by decide +kernel
theorem dX12_leftNow_8 : decode cX12_leftNow 8 = .ok (.istore_n 3, 1) := by decide +kernel
theorem dX12_leftNow_9 : decode cX12_leftNow 9 = .ok (.iload_n 3, 1) := by decide +kernel
theorem dX12_leftNow_10 : decode cX12_leftNow 10 = .ok (.aload_n 0, 1) := by decide +kernel
theorem dX12_leftNow_11 : decode cX12_leftNow 11 = .ok (.getfield 422, 3) := by decide +kernel
theorem dX12_leftNow_14 : decode cX12_leftNow 14 = .ok (.if_icmp .ge 46, 3) := by decide +kernel
theorem dX12_leftNow_17 : decode cX12_leftNow 17 = .ok (.iload_n 2, 1) := by decide +kernel
theorem dX12_leftNow_18 : decode cX12_leftNow 18 = .ok (.aload_n 0, 1) := by decide +kernel
theorem dX12_leftNow_19 : decode cX12_leftNow 19 = .ok (.getfield 118, 3) := by decide +kernel
theorem dX12_leftNow_22 : decode cX12_leftNow 22 = .ok (.iload_n 3, 1) := by decide +kernel
theorem dX12_leftNow_23 : decode cX12_leftNow 23 = .ok (.iaload, 1) := by decide +kernel
theorem dX12_leftNow_24 : decode cX12_leftNow 24 = .ok (.iload_n 1, 1) := by decide +kernel
theorem dX12_leftNow_25 : decode cX12_leftNow 25 = .ok (.if_icmp .ne 26, 3) := by decide +kernel
theorem dX12_leftNow_28 : decode cX12_leftNow 28 = .ok (.aload_n 0, 1) := by decide +kernel
theorem dX12_leftNow_29 : decode cX12_leftNow 29 = .ok (.aload_n 0, 1) := by decide +kernel
theorem dX12_leftNow_30 : decode cX12_leftNow 30 = .ok (.getfield 419, 3) := by decide +kernel
theorem dX12_leftNow_33 : decode cX12_leftNow 33 = .ok (.iload_n 1, 1) := by decide +kernel
theorem dX12_leftNow_34 : decode cX12_leftNow 34 = .ok (.aload_n 0, 1) := by decide +kernel
theorem dX12_leftNow_35 : decode cX12_leftNow 35 = .ok (.getfield 121, 3) := by decide +kernel
theorem dX12_leftNow_38 : decode cX12_leftNow 38 = .ok (.iload_n 3, 1) := by decide +kernel
theorem dX12_leftNow_39 : decode cX12_leftNow 39 = .ok (.iaload, 1) := by decide +kernel
theorem dX12_leftNow_40 : decode cX12_leftNow 40 = .ok (.i2l, 1) := by decide +kernel
theorem dX12_leftNow_41 : decode cX12_leftNow 41 = .ok (.invokevirtual 326, 3) := by decide +kernel
theorem dX12_leftNow_44 : decode cX12_leftNow 44 = .ok (.ifCond .eq 7, 3) := by decide +kernel
theorem dX12_leftNow_47 : decode cX12_leftNow 47 = .ok (.iconst 1, 1) := by decide +kernel
theorem dX12_leftNow_48 : decode cX12_leftNow 48 = .ok (.goto 4, 3) := by decide +kernel
theorem dX12_leftNow_51 : decode cX12_leftNow 51 = .ok (.iconst 0, 1) := by decide +kernel
theorem dX12_leftNow_52 : decode cX12_leftNow 52 = .ok (.isub, 1) := by decide +kernel
theorem dX12_leftNow_53 : decode cX12_leftNow 53 = .ok (.istore_n 2, 1) := by decide +kernel
theorem dX12_leftNow_54 : decode cX12_leftNow 54 = .ok (.iinc 3 1, 3) := by decide +kernel
theorem dX12_leftNow_57 : decode cX12_leftNow 57 = .ok (.goto (-48), 3) := by decide +kernel
theorem dX12_leftNow_60 : decode cX12_leftNow 60 = .ok (.iload_n 2, 1) := by decide +kernel
theorem dX12_leftNow_61 : decode cX12_leftNow 61 = .ok (.ireturn, 1) := by decide +kernel
theorem dX12_drop_0 : decode cX12_drop 0 = .ok (.aload_n 0, 1) := by decide +kernel
theorem dX12_drop_1 : decode cX12_drop 1 = .ok (.iconst 0, 1) := by decide +kernel
theorem dX12_drop_2 : decode cX12_drop 2 = .ok (.putfield 127, 3) := by decide +kernel
theorem dX12_drop_5 : decode cX12_drop 5 = .ok (.aload_n 0, 1) := by decide +kernel
theorem dX12_drop_6 : decode cX12_drop 6 = .ok (.getfield 140, 3) := by decide +kernel
theorem dX12_drop_9 : decode cX12_drop 9 = .ok (.ifCond .eq 35, 3) := by decide +kernel
theorem dX12_drop_12 : decode cX12_drop 12 = .ok (.aload_n 0, 1) := by decide +kernel
theorem dX12_drop_13 : decode cX12_drop 13 = .ok (.getfield 422, 3) := by decide +kernel
theorem dX12_drop_16 : decode cX12_drop 16 = .ok (.bipush 100, 2) := by decide +kernel
theorem dX12_drop_18 : decode cX12_drop 18 = .ok (.if_icmp .eq 26, 3) := by decide +kernel
theorem dX12_drop_21 : decode cX12_drop 21 = .ok (.iload_n 1, 1) := by decide +kernel
theorem dX12_drop_22 : decode cX12_drop 22 = .ok (.invokestatic 144, 3) := by decide +kernel
theorem dX12_drop_25 : decode cX12_drop 25 = .ok (.ifCond .eq 19, 3) := by decide +kernel
theorem dX12_drop_28 : decode cX12_drop 28 = .ok (.aload_n 0, 1) := by decide +kernel
theorem dX12_drop_29 : decode cX12_drop 29 = .ok (.iload_n 2, 1) := by decide +kernel
theorem dX12_drop_30 : decode cX12_drop 30 = .ok (.invokevirtual 393, 3) := by decide +kernel
theorem dX12_drop_33 : decode cX12_drop 33 = .ok (.ifCond .eq 11, 3) := by decide +kernel
theorem dX12_drop_36 : decode cX12_drop 36 = .ok (.aload_n 0, 1) := by decide +kernel
theorem dX12_drop_37 : decode cX12_drop 37 = .ok (.iload_n 1, 1) := by decide +kernel
theorem dX12_drop_38 : decode cX12_drop 38 = .ok (.invokevirtual 425, 3) := by decide +kernel
theorem dX12_drop_41 : decode cX12_drop 41 = .ok (.ifCond .ne 5, 3) := by decide +kernel
theorem dX12_drop_44 : decode cX12_drop 44 = .ok (.iconst (-1), 1) := by decide +kernel
theorem dX12_drop_45 : decode cX12_drop 45 = .ok (.ireturn, 1) := by decide +kernel
theorem dX12_drop_46 : decode cX12_drop 46 = .ok (.aload_n 0, 1) := by decide +kernel
theorem dX12_drop_47 : decode cX12_drop 47 = .ok (.aload_n 0, 1) := by decide +kernel
theorem dX12_drop_48 : decode cX12_drop 48 = .ok (.getfield 419, 3) := by decide +kernel
theorem dX12_drop_51 : decode cX12_drop 51 = .ok (.iload_n 1, 1) := by decide +kernel
theorem dX12_drop_52 : decode cX12_drop 52 = .ok (.iload_n 2, 1) := by decide +kernel
theorem dX12_drop_53 : decode cX12_drop 53 = .ok (.i2l, 1) := by decide +kernel
theorem dX12_drop_54 : decode cX12_drop 54 = .ok (.invokevirtual 326, 3) := by decide +kernel
theorem dX12_drop_57 : decode cX12_drop 57 = .ok (.istore_n 3, 1) := by decide +kernel
theorem dX12_drop_58 : decode cX12_drop 58 = .ok (.aload_n 0, 1) := by decide +kernel
theorem dX12_drop_59 : decode cX12_drop 59 = .ok (.getfield 118, 3) := by decide +kernel
theorem dX12_drop_62 : decode cX12_drop 62 = .ok (.aload_n 0, 1) := by decide +kernel
theorem dX12_drop_63 : decode cX12_drop 63 = .ok (.getfield 422, 3) := by decide +kernel
theorem dX12_drop_66 : decode cX12_drop 66 = .ok (.iload_n 1, 1) := by decide +kernel
theorem dX12_drop_67 : decode cX12_drop 67 = .ok (.iastore, 1) := by decide +kernel
theorem dX12_drop_68 : decode cX12_drop 68 = .ok (.aload_n 0, 1) := by decide +kernel
theorem dX12_drop_69 : decode cX12_drop 69 = .ok (.getfield 121, 3) := by decide +kernel
theorem dX12_drop_72 : decode cX12_drop 72 = .ok (.aload_n 0, 1) := by decide +kernel
theorem dX12_drop_73 : decode cX12_drop 73 = .ok (.getfield 422, 3) := by decide +kernel
theorem dX12_drop_76 : decode cX12_drop 76 = .ok (.iload_n 2, 1) := by decide +kernel
theorem dX12_drop_77 : decode cX12_drop 77 = .ok (.iastore, 1) := by decide +kernel
theorem dX12_drop_78 : decode cX12_drop 78 = .ok (.aload_n 0, 1) := by decide +kernel
theorem dX12_drop_79 : decode cX12_drop 79 = .ok (.getfield 124, 3) := by decide +kernel
theorem dX12_drop_82 : decode cX12_drop 82 = .ok (.aload_n 0, 1) := by decide +kernel
theorem dX12_drop_83 : decode cX12_drop 83 = .ok (.getfield 422, 3) := by decide +kernel
theorem dX12_drop_86 : decode cX12_drop 86 = .ok (.aload_n 0, 1) := by decide +kernel
theorem dX12_drop_87 : decode cX12_drop 87 = .ok (.iload_n 2, 1) := by decide +kernel
theorem dX12_drop_88 : decode cX12_drop 88 = .ok (.invokevirtual 342, 3) := by decide +kernel
theorem dX12_drop_91 : decode cX12_drop 91 = .ok (.iload_n 3, 1) := by decide +kernel
theorem dX12_drop_92 : decode cX12_drop 92 = .ok (.ifCond .eq 12, 3) := by decide +kernel
theorem dX12_drop_95 : decode cX12_drop 95 = .ok (.aload_n 0, 1) := by decide +kernel
theorem dX12_drop_96 : decode cX12_drop 96 = .ok (.getfield 23, 3) := by decide +kernel
theorem dX12_drop_99 : decode cX12_drop 99 = .ok (.iload_n 1, 1) := by decide +kernel
theorem dX12_drop_100 : decode cX12_drop 100 = .ok (.iaload, 1) := by decide +kernel
theorem dX12_drop_101 : decode cX12_drop 101 = .ok (.goto 4, 3) := by decide +kernel
theorem dX12_drop_104 : decode cX12_drop 104 = .ok (.iconst 0, 1) := by decide +kernel
theorem dX12_drop_105 : decode cX12_drop 105 = .ok (.iadd, 1) := by decide +kernel
theorem dX12_drop_106 : decode cX12_drop 106 = .ok (.iastore, 1) := by decide +kernel
theorem dX12_drop_107 : decode cX12_drop 107 = .ok (.aload_n 0, 1) := by decide +kernel
theorem dX12_drop_108 : decode cX12_drop 108 = .ok (.dup, 1) := by decide +kernel
theorem dX12_drop_109 : decode cX12_drop 109 = .ok (.getfield 422, 3) := by decide +kernel
theorem dX12_drop_112 : decode cX12_drop 112 = .ok (.iconst 1, 1) := by decide +kernel
theorem dX12_drop_113 : decode cX12_drop 113 = .ok (.iadd, 1) := by decide +kernel
theorem dX12_drop_114 : decode cX12_drop 114 = .ok (.putfield 422, 3) := by decide +kernel
theorem dX12_drop_117 : decode cX12_drop 117 = .ok (.iload_n 3, 1) := by decide +kernel
theorem dX12_drop_118 : decode cX12_drop 118 = .ok (.ifCond .eq 7, 3) := by decide +kernel
theorem dX12_drop_121 : decode cX12_drop 121 = .ok (.iconst 2, 1) := by decide +kernel
theorem dX12_drop_122 : decode cX12_drop 122 = .ok (.goto 4, 3) := by decide +kernel
theorem dX12_drop_125 : decode cX12_drop 125 = .ok (.iconst 1, 1) := by decide +kernel
theorem dX12_drop_126 : decode cX12_drop 126 = .ok (.ireturn, 1) := by decide +kernel
theorem dX12_back_0 : decode cX12_back 0 = .ok (.aload_n 0, 1) := by decide +kernel
theorem dX12_back_1 : decode cX12_back 1 = .ok (.iconst 0, 1) := by decide +kernel
theorem dX12_back_2 : decode cX12_back 2 = .ok (.putfield 127, 3) := by decide +kernel
theorem dX12_back_5 : decode cX12_back 5 = .ok (.aload_n 0, 1) := by decide +kernel
theorem dX12_back_6 : decode cX12_back 6 = .ok (.getfield 140, 3) := by decide +kernel
theorem dX12_back_9 : decode cX12_back 9 = .ok (.ifCond .eq 10, 3) := by decide +kernel
theorem dX12_back_12 : decode cX12_back 12 = .ok (.aload_n 0, 1) := by decide +kernel
theorem dX12_back_13 : decode cX12_back 13 = .ok (.getfield 422, 3) := by decide +kernel
theorem dX12_back_16 : decode cX12_back 16 = .ok (.ifCond .ne 5, 3) := by decide +kernel
theorem dX12_back_19 : decode cX12_back 19 = .ok (.iconst (-1), 1) := by decide +kernel
theorem dX12_back_20 : decode cX12_back 20 = .ok (.ireturn, 1) := by decide +kernel
theorem dX12_back_21 : decode cX12_back 21 = .ok (.aload_n 0, 1) := by decide +kernel
theorem dX12_back_22 : decode cX12_back 22 = .ok (.dup, 1) := by decide +kernel
theorem dX12_back_23 : decode cX12_back 23 = .ok (.getfield 422, 3) := by decide +kernel
theorem dX12_back_26 : decode cX12_back 26 = .ok (.iconst 1, 1) := by decide +kernel
theorem dX12_back_27 : decode cX12_back 27 = .ok (.isub, 1) := by decide +kernel
theorem dX12_back_28 : decode cX12_back 28 = .ok (.putfield 422, 3) := by decide +kernel
theorem dX12_back_31 : decode cX12_back 31 = .ok (.aload_n 0, 1) := by decide +kernel
theorem dX12_back_32 : decode cX12_back 32 = .ok (.getfield 422, 3) := by decide +kernel
theorem dX12_back_35 : decode cX12_back 35 = .ok (.ireturn, 1) := by decide +kernel
theorem dX12_bound_0 : decode cX12_bound 0 = .ok (.iload_n 1, 1) := by decide +kernel
theorem dX12_bound_1 : decode cX12_bound 1 = .ok (.ifCond .eq 10, 3) := by decide +kernel
theorem dX12_bound_4 : decode cX12_bound 4 = .ok (.aload_n 0, 1) := by decide +kernel
theorem dX12_bound_5 : decode cX12_bound 5 = .ok (.getfield 13, 3) := by decide +kernel
theorem dX12_bound_8 : decode cX12_bound 8 = .ok (.goto 4, 3) := by decide +kernel
theorem dX12_bound_11 : decode cX12_bound 11 = .ok (.iconst 0, 1) := by decide +kernel
theorem dX12_bound_12 : decode cX12_bound 12 = .ok (.istore_n 2, 1) := by decide +kernel
theorem dX12_bound_13 : decode cX12_bound 13 = .ok (.iconst 0, 1) := by decide +kernel
theorem dX12_bound_14 : decode cX12_bound 14 = .ok (.istore_n 3, 1) := by decide +kernel
theorem dX12_bound_15 : decode cX12_bound 15 = .ok (.iload_n 3, 1) := by decide +kernel
theorem dX12_bound_16 : decode cX12_bound 16 = .ok (.aload_n 0, 1) := by decide +kernel
theorem dX12_bound_17 : decode cX12_bound 17 = .ok (.getfield 422, 3) := by decide +kernel
theorem dX12_bound_20 : decode cX12_bound 20 = .ok (.if_icmp .ge 100, 3) := by decide +kernel
theorem dX12_bound_23 : decode cX12_bound 23 = .ok (.aload_n 0, 1) := by decide +kernel
theorem dX12_bound_24 : decode cX12_bound 24 = .ok (.getfield 121, 3) := by decide +kernel
theorem dX12_bound_27 : decode cX12_bound 27 = .ok (.iload_n 3, 1) := by decide +kernel
theorem dX12_bound_28 : decode cX12_bound 28 = .ok (.iaload, 1) := by decide +kernel
theorem dX12_bound_29 : decode cX12_bound 29 = .ok (.aload_n 0, 1) := by decide +kernel
theorem dX12_bound_30 : decode cX12_bound 30 = .ok (.getfield 17, 3) := by decide +kernel
theorem dX12_bound_33 : decode cX12_bound 33 = .ok (.aload_n 0, 1) := by decide +kernel
theorem dX12_bound_34 : decode cX12_bound 34 = .ok (.getfield 118, 3) := by decide +kernel
theorem dX12_bound_37 : decode cX12_bound 37 = .ok (.iload_n 3, 1) := by decide +kernel
theorem dX12_bound_38 : decode cX12_bound 38 = .ok (.iaload, 1) := by decide +kernel
theorem dX12_bound_39 : decode cX12_bound 39 = .ok (.iaload, 1) := by decide +kernel
theorem dX12_bound_40 : decode cX12_bound 40 = .ok (.isub, 1) := by decide +kernel
theorem dX12_bound_41 : decode cX12_bound 41 = .ok (.istore 4, 2) := by decide +kernel
theorem dX12_bound_43 : decode cX12_bound 43 = .ok (.aload_n 0, 1) := by decide +kernel
theorem dX12_bound_44 : decode cX12_bound 44 = .ok (.aload_n 0, 1) := by decide +kernel
theorem dX12_bound_45 : decode cX12_bound 45 = .ok (.getfield 419, 3) := by decide +kernel
theorem dX12_bound_48 : decode cX12_bound 48 = .ok (.aload_n 0, 1) := by decide +kernel
theorem dX12_bound_49 : decode cX12_bound 49 = .ok (.getfield 118, 3) := by decide +kernel
theorem dX12_bound_52 : decode cX12_bound 52 = .ok (.iload_n 3, 1) := by decide +kernel
theorem dX12_bound_53 : decode cX12_bound 53 = .ok (.iaload, 1) := by decide +kernel
theorem dX12_bound_54 : decode cX12_bound 54 = .ok (.aload_n 0, 1) := by decide +kernel
theorem dX12_bound_55 : decode cX12_bound 55 = .ok (.getfield 121, 3) := by decide +kernel
theorem dX12_bound_58 : decode cX12_bound 58 = .ok (.iload_n 3, 1) := by decide +kernel
theorem dX12_bound_59 : decode cX12_bound 59 = .ok (.iaload, 1) := by decide +kernel
theorem dX12_bound_60 : decode cX12_bound 60 = .ok (.i2l, 1) := by decide +kernel
theorem dX12_bound_61 : decode cX12_bound 61 = .ok (.invokevirtual 326, 3) := by decide +kernel
theorem dX12_bound_64 : decode cX12_bound 64 = .ok (.istore 5, 2) := by decide +kernel
theorem dX12_bound_66 : decode cX12_bound 66 = .ok (.iload_n 1, 1) := by decide +kernel
theorem dX12_bound_67 : decode cX12_bound 67 = .ok (.ifCond .eq 25, 3) := by decide +kernel
theorem dX12_bound_70 : decode cX12_bound 70 = .ok (.iload 5, 2) := by decide +kernel
theorem dX12_bound_72 : decode cX12_bound 72 = .ok (.ifCond .eq 20, 3) := by decide +kernel
theorem dX12_bound_75 : decode cX12_bound 75 = .ok (.iload 4, 2) := by decide +kernel
theorem dX12_bound_77 : decode cX12_bound 77 = .ok (.iconst 1, 1) := by decide +kernel
theorem dX12_bound_78 : decode cX12_bound 78 = .ok (.isub, 1) := by decide +kernel
theorem dX12_bound_79 : decode cX12_bound 79 = .ok (.iload_n 2, 1) := by decide +kernel
theorem dX12_bound_80 : decode cX12_bound 80 = .ok (.if_icmp .ge 10, 3) := by decide +kernel
theorem dX12_bound_83 : decode cX12_bound 83 = .ok (.iload 4, 2) := by decide +kernel
theorem dX12_bound_85 : decode cX12_bound 85 = .ok (.iconst 1, 1) := by decide +kernel
theorem dX12_bound_86 : decode cX12_bound 86 = .ok (.isub, 1) := by decide +kernel
theorem dX12_bound_87 : decode cX12_bound 87 = .ok (.goto 4, 3) := by decide +kernel
theorem dX12_bound_90 : decode cX12_bound 90 = .ok (.iload_n 2, 1) := by decide +kernel
theorem dX12_bound_91 : decode cX12_bound 91 = .ok (.istore_n 2, 1) := by decide +kernel
theorem dX12_bound_92 : decode cX12_bound 92 = .ok (.iload_n 1, 1) := by decide +kernel
theorem dX12_bound_93 : decode cX12_bound 93 = .ok (.ifCond .ne 21, 3) := by decide +kernel
theorem dX12_bound_96 : decode cX12_bound 96 = .ok (.iload 5, 2) := by decide +kernel
theorem dX12_bound_98 : decode cX12_bound 98 = .ok (.ifCond .ne 16, 3) := by decide +kernel
theorem dX12_bound_101 : decode cX12_bound 101 = .ok (.iload 4, 2) := by decide +kernel
theorem dX12_bound_103 : decode cX12_bound 103 = .ok (.iload_n 2, 1) := by decide +kernel
theorem dX12_bound_104 : decode cX12_bound 104 = .ok (.if_icmp .le 8, 3) := by decide +kernel
theorem dX12_bound_107 : decode cX12_bound 107 = .ok (.iload 4, 2) := by decide +kernel
theorem dX12_bound_109 : decode cX12_bound 109 = .ok (.goto 4, 3) := by decide +kernel
theorem dX12_bound_112 : decode cX12_bound 112 = .ok (.iload_n 2, 1) := by decide +kernel
theorem dX12_bound_113 : decode cX12_bound 113 = .ok (.istore_n 2, 1) := by decide +kernel
theorem dX12_bound_114 : decode cX12_bound 114 = .ok (.iinc 3 1, 3) := by decide +kernel
theorem dX12_bound_117 : decode cX12_bound 117 = .ok (.goto (-102), 3) := by decide +kernel
theorem dX12_bound_120 : decode cX12_bound 120 = .ok (.iload_n 2, 1) := by decide +kernel
theorem dX12_bound_121 : decode cX12_bound 121 = .ok (.ireturn, 1) := by decide +kernel
theorem dX12_now_0 : decode cX12_now 0 = .ok (.aload_n 0, 1) := by decide +kernel
theorem dX12_now_1 : decode cX12_now 1 = .ok (.iconst 0, 1) := by decide +kernel
theorem dX12_now_2 : decode cX12_now 2 = .ok (.putfield 127, 3) := by decide +kernel
theorem dX12_now_5 : decode cX12_now 5 = .ok (.aload_n 0, 1) := by decide +kernel
theorem dX12_now_6 : decode cX12_now 6 = .ok (.getfield 140, 3) := by decide +kernel
theorem dX12_now_9 : decode cX12_now 9 = .ok (.ifCond .ne 5, 3) := by decide +kernel
theorem dX12_now_12 : decode cX12_now 12 = .ok (.iconst (-1), 1) := by decide +kernel
theorem dX12_now_13 : decode cX12_now 13 = .ok (.ireturn, 1) := by decide +kernel
theorem dX12_now_14 : decode cX12_now 14 = .ok (.iconst 0, 1) := by decide +kernel
theorem dX12_now_15 : decode cX12_now 15 = .ok (.istore_n 2, 1) := by decide +kernel
theorem dX12_now_16 : decode cX12_now 16 = .ok (.iload_n 1, 1) := by decide +kernel
theorem dX12_now_17 : decode cX12_now 17 = .ok (.tableswitch 111 0 5 #[39, 45, 51, 56, 79, 106], 39) := by decide +kernel
theorem dX12_now_56 : decode cX12_now 56 = .ok (.aload_n 0, 1) := by decide +kernel
theorem dX12_now_57 : decode cX12_now 57 = .ok (.iconst 0, 1) := by decide +kernel
theorem dX12_now_58 : decode cX12_now 58 = .ok (.invokevirtual 428, 3) := by decide +kernel
theorem dX12_now_61 : decode cX12_now 61 = .ok (.ireturn, 1) := by decide +kernel
theorem dX12_now_62 : decode cX12_now 62 = .ok (.aload_n 0, 1) := by decide +kernel
theorem dX12_now_63 : decode cX12_now 63 = .ok (.iconst 1, 1) := by decide +kernel
theorem dX12_now_64 : decode cX12_now 64 = .ok (.invokevirtual 428, 3) := by decide +kernel
theorem dX12_now_67 : decode cX12_now 67 = .ok (.ireturn, 1) := by decide +kernel
theorem dX12_now_68 : decode cX12_now 68 = .ok (.aload_n 0, 1) := by decide +kernel
theorem dX12_now_69 : decode cX12_now 69 = .ok (.getfield 422, 3) := by decide +kernel
theorem dX12_now_72 : decode cX12_now 72 = .ok (.ireturn, 1) := by decide +kernel
theorem dX12_now_73 : decode cX12_now 73 = .ok (.aload_n 0, 1) := by decide +kernel
theorem dX12_now_74 : decode cX12_now 74 = .ok (.iconst 0, 1) := by decide +kernel
theorem dX12_now_75 : decode cX12_now 75 = .ok (.invokevirtual 425, 3) := by decide +kernel
theorem dX12_now_78 : decode cX12_now 78 = .ok (.iconst 5, 1) := by decide +kernel
theorem dX12_now_79 : decode cX12_now 79 = .ok (.aload_n 0, 1) := by decide +kernel
theorem dX12_now_80 : decode cX12_now 80 = .ok (.iconst 1, 1) := by decide +kernel
theorem dX12_now_81 : decode cX12_now 81 = .ok (.invokevirtual 425, 3) := by decide +kernel
theorem dX12_now_84 : decode cX12_now 84 = .ok (.imul, 1) := by decide +kernel
theorem dX12_now_85 : decode cX12_now 85 = .ok (.iadd, 1) := by decide +kernel
theorem dX12_now_86 : decode cX12_now 86 = .ok (.bipush 25, 2) := by decide +kernel
theorem dX12_now_88 : decode cX12_now 88 = .ok (.aload_n 0, 1) := by decide +kernel
theorem dX12_now_89 : decode cX12_now 89 = .ok (.iconst 2, 1) := by decide +kernel
theorem dX12_now_90 : decode cX12_now 90 = .ok (.invokevirtual 425, 3) := by decide +kernel
theorem dX12_now_93 : decode cX12_now 93 = .ok (.imul, 1) := by decide +kernel
theorem dX12_now_94 : decode cX12_now 94 = .ok (.iadd, 1) := by decide +kernel
theorem dX12_now_95 : decode cX12_now 95 = .ok (.ireturn, 1) := by decide +kernel
theorem dX12_now_96 : decode cX12_now 96 = .ok (.iconst 0, 1) := by decide +kernel
theorem dX12_now_97 : decode cX12_now 97 = .ok (.istore_n 3, 1) := by decide +kernel
theorem dX12_now_98 : decode cX12_now 98 = .ok (.iload_n 3, 1) := by decide +kernel
theorem dX12_now_99 : decode cX12_now 99 = .ok (.aload_n 0, 1) := by decide +kernel
theorem dX12_now_100 : decode cX12_now 100 = .ok (.getfield 422, 3) := by decide +kernel
theorem dX12_now_103 : decode cX12_now 103 = .ok (.if_icmp .ge 18, 3) := by decide +kernel
theorem dX12_now_106 : decode cX12_now 106 = .ok (.iload_n 2, 1) := by decide +kernel
theorem dX12_now_107 : decode cX12_now 107 = .ok (.aload_n 0, 1) := by decide +kernel
theorem dX12_now_108 : decode cX12_now 108 = .ok (.getfield 124, 3) := by decide +kernel
theorem dX12_now_111 : decode cX12_now 111 = .ok (.iload_n 3, 1) := by decide +kernel
theorem dX12_now_112 : decode cX12_now 112 = .ok (.iaload, 1) := by decide +kernel
theorem dX12_now_113 : decode cX12_now 113 = .ok (.iadd, 1) := by decide +kernel
theorem dX12_now_114 : decode cX12_now 114 = .ok (.istore_n 2, 1) := by decide +kernel
theorem dX12_now_115 : decode cX12_now 115 = .ok (.iinc 3 1, 3) := by decide +kernel
theorem dX12_now_118 : decode cX12_now 118 = .ok (.goto (-20), 3) := by decide +kernel
theorem dX12_now_121 : decode cX12_now 121 = .ok (.iload_n 2, 1) := by decide +kernel
theorem dX12_now_122 : decode cX12_now 122 = .ok (.ireturn, 1) := by decide +kernel
theorem dX12_now_123 : decode cX12_now 123 = .ok (.aload_n 0, 1) := by decide +kernel
theorem dX12_now_124 : decode cX12_now 124 = .ok (.getfield 419, 3) := by decide +kernel
theorem dX12_now_127 : decode cX12_now 127 = .ok (.ireturn, 1) := by decide +kernel
theorem dX12_now_128 : decode cX12_now 128 = .ok (.iconst (-1), 1) := by decide +kernel
theorem dX12_now_129 : decode cX12_now 129 = .ok (.ireturn, 1) := by decide +kernel
theorem dX12_count_0 : decode cX12_count 0 = .ok (.aload_n 0, 1) := by decide +kernel
theorem dX12_count_1 : decode cX12_count 1 = .ok (.iconst 0, 1) := by decide +kernel
theorem dX12_count_2 : decode cX12_count 2 = .ok (.putfield 127, 3) := by decide +kernel
theorem dX12_count_5 : decode cX12_count 5 = .ok (.iload_n 1, 1) := by decide +kernel
theorem dX12_count_6 : decode cX12_count 6 = .ok (.tableswitch 82 0 6 #[42, 47, 52, 57, 62, 67, 72], 42) := by decide +kernel
theorem dX12_count_48 : decode cX12_count 48 = .ok (.aload_n 0, 1) := by decide +kernel
theorem dX12_count_49 : decode cX12_count 49 = .ok (.getfield 13, 3) := by decide +kernel
theorem dX12_count_52 : decode cX12_count 52 = .ok (.ireturn, 1) := by decide +kernel
theorem dX12_count_53 : decode cX12_count 53 = .ok (.aload_n 0, 1) := by decide +kernel
theorem dX12_count_54 : decode cX12_count 54 = .ok (.getfield 269, 3) := by decide +kernel
theorem dX12_count_57 : decode cX12_count 57 = .ok (.ireturn, 1) := by decide +kernel
theorem dX12_count_58 : decode cX12_count 58 = .ok (.aload_n 0, 1) := by decide +kernel
theorem dX12_count_59 : decode cX12_count 59 = .ok (.getfield 272, 3) := by decide +kernel
theorem dX12_count_62 : decode cX12_count 62 = .ok (.ireturn, 1) := by decide +kernel
theorem dX12_count_63 : decode cX12_count 63 = .ok (.aload_n 0, 1) := by decide +kernel
theorem dX12_count_64 : decode cX12_count 64 = .ok (.getfield 137, 3) := by decide +kernel
theorem dX12_count_67 : decode cX12_count 67 = .ok (.ireturn, 1) := by decide +kernel
theorem dX12_count_68 : decode cX12_count 68 = .ok (.aload_n 0, 1) := by decide +kernel
theorem dX12_count_69 : decode cX12_count 69 = .ok (.getfield 29, 3) := by decide +kernel
theorem dX12_count_72 : decode cX12_count 72 = .ok (.ireturn, 1) := by decide +kernel
theorem dX12_count_73 : decode cX12_count 73 = .ok (.aload_n 0, 1) := by decide +kernel
theorem dX12_count_74 : decode cX12_count 74 = .ok (.getfield 148, 3) := by decide +kernel
theorem dX12_count_77 : decode cX12_count 77 = .ok (.ireturn, 1) := by decide +kernel
theorem dX12_count_78 : decode cX12_count 78 = .ok (.aload_n 0, 1) := by decide +kernel
theorem dX12_count_79 : decode cX12_count 79 = .ok (.iconst 0, 1) := by decide +kernel
theorem dX12_count_80 : decode cX12_count 80 = .ok (.aload_n 0, 1) := by decide +kernel
theorem dX12_count_81 : decode cX12_count 81 = .ok (.getfield 13, 3) := by decide +kernel
theorem dX12_count_84 : decode cX12_count 84 = .ok (.invokevirtual 408, 3) := by decide +kernel
theorem dX12_count_87 : decode cX12_count 87 = .ok (.ireturn, 1) := by decide +kernel
theorem dX12_count_88 : decode cX12_count 88 = .ok (.iconst (-1), 1) := by decide +kernel
theorem dX12_count_89 : decode cX12_count 89 = .ok (.ireturn, 1) := by decide +kernel
