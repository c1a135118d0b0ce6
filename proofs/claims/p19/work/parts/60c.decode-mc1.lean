/-! decode rows -/
theorem dX12_init_0 : decode cX12_init 0 = .ok (.aload_n 0, 1) := by decide +kernel
theorem dX12_init_1 : decode cX12_init 1 = .ok (.invokespecial 996, 3) := by decide +kernel
theorem dX12_init_4 : decode cX12_init 4 = .ok (.aload_n 0, 1) := by decide +kernel
theorem dX12_init_5 : decode cX12_init 5 = .ok (.sipush 264, 3) := by decide +kernel
theorem dX12_init_8 : decode cX12_init 8 = .ok (.newarray .int, 2) := by decide +kernel
theorem dX12_init_10 : decode cX12_init 10 = .ok (.dup, 1) := by decide +kernel
theorem dX12_init_11 : decode cX12_init 11 = .ok (.iconst 0, 1) := by decide +kernel
theorem dX12_init_12 : decode cX12_init 12 = .ok (.bipush 118, 2) := by decide +kernel
theorem dX12_init_14 : decode cX12_init 14 = .ok (.iastore, 1) := by decide +kernel
theorem dX12_init_15 : decode cX12_init 15 = .ok (.dup, 1) := by decide +kernel
theorem dX12_init_16 : decode cX12_init 16 = .ok (.iconst 1, 1) := by decide +kernel
theorem dX12_init_17 : decode cX12_init 17 = .ok (.bipush 97, 2) := by decide +kernel
theorem dX12_init_19 : decode cX12_init 19 = .ok (.iastore, 1) := by decide +kernel
theorem dX12_init_20 : decode cX12_init 20 = .ok (.dup, 1) := by decide +kernel
theorem dX12_init_21 : decode cX12_init 21 = .ok (.iconst 2, 1) := by decide +kernel
theorem dX12_init_22 : decode cX12_init 22 = .ok (.bipush 114, 2) := by decide +kernel
theorem dX12_init_24 : decode cX12_init 24 = .ok (.iastore, 1) := by decide +kernel
theorem dX12_init_25 : decode cX12_init 25 = .ok (.dup, 1) := by decide +kernel
theorem dX12_init_26 : decode cX12_init 26 = .ok (.iconst 3, 1) := by decide +kernel
theorem dX12_init_27 : decode cX12_init 27 = .ok (.bipush 32, 2) := by decide +kernel
theorem dX12_init_29 : decode cX12_init 29 = .ok (.iastore, 1) := by decide +kernel
theorem dX12_init_30 : decode cX12_init 30 = .ok (.dup, 1) := by decide +kernel
theorem dX12_init_31 : decode cX12_init 31 = .ok (.iconst 4, 1) := by decide +kernel
theorem dX12_init_32 : decode cX12_init 32 = .ok (.bipush 112, 2) := by decide +kernel
theorem dX12_init_34 : decode cX12_init 34 = .ok (.iastore, 1) := by decide +kernel
theorem dX12_init_35 : decode cX12_init 35 = .ok (.dup, 1) := by decide +kernel
theorem dX12_init_36 : decode cX12_init 36 = .ok (.iconst 5, 1) := by decide +kernel
theorem dX12_init_37 : decode cX12_init 37 = .ok (.bipush 114, 2) := by decide +kernel
theorem dX12_init_39 : decode cX12_init 39 = .ok (.iastore, 1) := by decide +kernel
theorem dX12_init_40 : decode cX12_init 40 = .ok (.dup, 1) := by decide +kernel
theorem dX12_init_41 : decode cX12_init 41 = .ok (.bipush 6, 2) := by decide +kernel
theorem dX12_init_43 : decode cX12_init 43 = .ok (.bipush 111, 2) := by decide +kernel
theorem dX12_init_45 : decode cX12_init 45 = .ok (.iastore, 1) := by decide +kernel
theorem dX12_init_46 : decode cX12_init 46 = .ok (.dup, 1) := by decide +kernel
theorem dX12_init_47 : decode cX12_init 47 = .ok (.bipush 7, 2) := by decide +kernel
theorem dX12_init_49 : decode cX12_init 49 = .ok (.bipush 99, 2) := by decide +kernel
theorem dX12_init_51 : decode cX12_init 51 = .ok (.iastore, 1) := by decide +kernel
theorem dX12_init_52 : decode cX12_init 52 = .ok (.dup, 1) := by decide +kernel
theorem dX12_init_53 : decode cX12_init 53 = .ok (.bipush 8, 2) := by decide +kernel
theorem dX12_init_55 : decode cX12_init 55 = .ok (.bipush 32, 2) := by decide +kernel
theorem dX12_init_57 : decode cX12_init 57 = .ok (.iastore, 1) := by decide +kernel
theorem dX12_init_58 : decode cX12_init 58 = .ok (.dup, 1) := by decide +kernel
theorem dX12_init_59 : decode cX12_init 59 = .ok (.bipush 9, 2) := by decide +kernel
theorem dX12_init_61 : decode cX12_init 61 = .ok (.bipush 102, 2) := by decide +kernel
theorem dX12_init_63 : decode cX12_init 63 = .ok (.iastore, 1) := by decide +kernel
theorem dX12_init_64 : decode cX12_init 64 = .ok (.dup, 1) := by decide +kernel
theorem dX12_init_65 : decode cX12_init 65 = .ok (.bipush 10, 2) := by decide +kernel
theorem dX12_init_67 : decode cX12_init 67 = .ok (.bipush 117, 2) := by decide +kernel
theorem dX12_init_69 : decode cX12_init 69 = .ok (.iastore, 1) := by decide +kernel
theorem dX12_init_70 : decode cX12_init 70 = .ok (.dup, 1) := by decide +kernel
theorem dX12_init_71 : decode cX12_init 71 = .ok (.bipush 11, 2) := by decide +kernel
theorem dX12_init_73 : decode cX12_init 73 = .ok (.bipush 110, 2) := by decide +kernel
theorem dX12_init_75 : decode cX12_init 75 = .ok (.iastore, 1) := by decide +kernel
theorem dX12_init_76 : decode cX12_init 76 = .ok (.dup, 1) := by decide +kernel
theorem dX12_init_77 : decode cX12_init 77 = .ok (.bipush 12, 2) := by decide +kernel
theorem dX12_init_79 : decode cX12_init 79 = .ok (.bipush 99, 2) := by decide +kernel
theorem dX12_init_81 : decode cX12_init 81 = .ok (.iastore, 1) := by decide +kernel
theorem dX12_init_82 : decode cX12_init 82 = .ok (.dup, 1) := by decide +kernel
theorem dX12_init_83 : decode cX12_init 83 = .ok (.bipush 13, 2) := by decide +kernel
theorem dX12_init_85 : decode cX12_init 85 = .ok (.bipush 32, 2) := by decide +kernel
theorem dX12_init_87 : decode cX12_init 87 = .ok (.iastore, 1) := by decide +kernel
theorem dX12_init_88 : decode cX12_init 88 = .ok (.dup, 1) := by decide +kernel
theorem dX12_init_89 : decode cX12_init 89 = .ok (.bipush 14, 2) := by decide +kernel
theorem dX12_init_91 : decode cX12_init 91 = .ok (.bipush 114, 2) := by decide +kernel
theorem dX12_init_93 : decode cX12_init 93 = .ok (.iastore, 1) := by decide +kernel
theorem dX12_init_94 : decode cX12_init 94 = .ok (.dup, 1) := by decide +kernel
theorem dX12_init_95 : decode cX12_init 95 = .ok (.bipush 15, 2) := by decide +kernel
theorem dX12_init_97 : decode cX12_init 97 = .ok (.bipush 100, 2) := by decide +kernel
theorem dX12_init_99 : decode cX12_init 99 = .ok (.iastore, 1) := by decide +kernel
theorem dX12_init_100 : decode cX12_init 100 = .ok (.dup, 1) := by decide +kernel
theorem dX12_init_101 : decode cX12_init 101 = .ok (.bipush 16, 2) := by decide +kernel
theorem dX12_init_103 : decode cX12_init 103 = .ok (.bipush 32, 2) := by decide +kernel
theorem dX12_init_105 : decode cX12_init 105 = .ok (.iastore, 1) := by decide +kernel
theorem dX12_init_106 : decode cX12_init 106 = .ok (.dup, 1) := by decide +kernel
theorem dX12_init_107 : decode cX12_init 107 = .ok (.bipush 17, 2) := by decide +kernel
theorem dX12_init_109 : decode cX12_init 109 = .ok (.bipush 119, 2) := by decide +kernel
theorem dX12_init_111 : decode cX12_init 111 = .ok (.iastore, 1) := by decide +kernel
theorem dX12_init_112 : decode cX12_init 112 = .ok (.dup, 1) := by decide +kernel
theorem dX12_init_113 : decode cX12_init 113 = .ok (.bipush 18, 2) := by decide +kernel
theorem dX12_init_115 : decode cX12_init 115 = .ok (.bipush 114, 2) := by decide +kernel
theorem dX12_init_117 : decode cX12_init 117 = .ok (.iastore, 1) := by decide +kernel
theorem dX12_init_118 : decode cX12_init 118 = .ok (.dup, 1) := by decide +kernel
theorem dX12_init_119 : decode cX12_init 119 = .ok (.bipush 19, 2) := by decide +kernel
theorem dX12_init_121 : decode cX12_init 121 = .ok (.bipush 32, 2) := by decide +kernel
theorem dX12_init_123 : decode cX12_init 123 = .ok (.iastore, 1) := by decide +kernel
theorem dX12_init_124 : decode cX12_init 124 = .ok (.dup, 1) := by decide +kernel
theorem dX12_init_125 : decode cX12_init 125 = .ok (.bipush 20, 2) := by decide +kernel
theorem dX12_init_127 : decode cX12_init 127 = .ok (.bipush 114, 2) := by decide +kernel
theorem dX12_init_129 : decode cX12_init 129 = .ok (.iastore, 1) := by decide +kernel
theorem dX12_init_130 : decode cX12_init 130 = .ok (.dup, 1) := by decide +kernel
theorem dX12_init_131 : decode cX12_init 131 = .ok (.bipush 21, 2) := by decide +kernel
theorem dX12_init_133 : decode cX12_init 133 = .ok (.bipush 119, 2) := by decide +kernel
theorem dX12_init_135 : decode cX12_init 135 = .ok (.iastore, 1) := by decide +kernel
theorem dX12_init_136 : decode cX12_init 136 = .ok (.dup, 1) := by decide +kernel
theorem dX12_init_137 : decode cX12_init 137 = .ok (.bipush 22, 2) := by decide +kernel
theorem dX12_init_139 : decode cX12_init 139 = .ok (.bipush 32, 2) := by decide +kernel
theorem dX12_init_141 : decode cX12_init 141 = .ok (.iastore, 1) := by decide +kernel
theorem dX12_init_142 : decode cX12_init 142 = .ok (.dup, 1) := by decide +kernel
theorem dX12_init_143 : decode cX12_init 143 = .ok (.bipush 23, 2) := by decide +kernel
theorem dX12_init_145 : decode cX12_init 145 = .ok (.bipush 101, 2) := by decide +kernel
theorem dX12_init_147 : decode cX12_init 147 = .ok (.iastore, 1) := by decide +kernel
theorem dX12_init_148 : decode cX12_init 148 = .ok (.dup, 1) := by decide +kernel
theorem dX12_init_149 : decode cX12_init 149 = .ok (.bipush 24, 2) := by decide +kernel
theorem dX12_init_151 : decode cX12_init 151 = .ok (.bipush 110, 2) := by decide +kernel
theorem dX12_init_153 : decode cX12_init 153 = .ok (.iastore, 1) := by decide +kernel
theorem dX12_init_154 : decode cX12_init 154 = .ok (.dup, 1) := by decide +kernel
theorem dX12_init_155 : decode cX12_init 155 = .ok (.bipush 25, 2) := by decide +kernel
theorem dX12_init_157 : decode cX12_init 157 = .ok (.bipush 100, 2) := by decide +kernel
theorem dX12_init_159 : decode cX12_init 159 = .ok (.iastore, 1) := by decide +kernel
theorem dX12_init_160 : decode cX12_init 160 = .ok (.dup, 1) := by decide +kernel
theorem dX12_init_161 : decode cX12_init 161 = .ok (.bipush 26, 2) := by decide +kernel
theorem dX12_init_163 : decode cX12_init 163 = .ok (.bipush 32, 2) := by decide +kernel
theorem dX12_init_165 : decode cX12_init 165 = .ok (.iastore, 1) := by decide +kernel
theorem dX12_init_166 : decode cX12_init 166 = .ok (.dup, 1) := by decide +kernel
theorem dX12_init_167 : decode cX12_init 167 = .ok (.bipush 27, 2) := by decide +kernel
theorem dX12_init_169 : decode cX12_init 169 = .ok (.bipush 105, 2) := by decide +kernel
theorem dX12_init_171 : decode cX12_init 171 = .ok (.iastore, 1) := by decide +kernel
theorem dX12_init_172 : decode cX12_init 172 = .ok (.dup, 1) := by decide +kernel
theorem dX12_init_173 : decode cX12_init 173 = .ok (.bipush 28, 2) := by decide +kernel
theorem dX12_init_175 : decode cX12_init 175 = .ok (.bipush 102, 2) := by decide +kernel
theorem dX12_init_177 : decode cX12_init 177 = .ok (.iastore, 1) := by decide +kernel
theorem dX12_init_178 : decode cX12_init 178 = .ok (.dup, 1) := by decide +kernel
theorem dX12_init_179 : decode cX12_init 179 = .ok (.bipush 29, 2) := by decide +kernel
theorem dX12_init_181 : decode cX12_init 181 = .ok (.bipush 32, 2) := by decide +kernel
theorem dX12_init_183 : decode cX12_init 183 = .ok (.iastore, 1) := by decide +kernel
theorem dX12_init_184 : decode cX12_init 184 = .ok (.dup, 1) := by decide +kernel
theorem dX12_init_185 : decode cX12_init 185 = .ok (.bipush 30, 2) := by decide +kernel
theorem dX12_init_187 : decode cX12_init 187 = .ok (.bipush 116, 2) := by decide +kernel
theorem dX12_init_189 : decode cX12_init 189 = .ok (.iastore, 1) := by decide +kernel
theorem dX12_init_190 : decode cX12_init 190 = .ok (.dup, 1) := by decide +kernel
theorem dX12_init_191 : decode cX12_init 191 = .ok (.bipush 31, 2) := by decide +kernel
theorem dX12_init_193 : decode cX12_init 193 = .ok (.bipush 104, 2) := by decide +kernel
theorem dX12_init_195 : decode cX12_init 195 = .ok (.iastore, 1) := by decide +kernel
theorem dX12_init_196 : decode cX12_init 196 = .ok (.dup, 1) := by decide +kernel
theorem dX12_init_197 : decode cX12_init 197 = .ok (.bipush 32, 2) := by decide +kernel
theorem dX12_init_199 : decode cX12_init 199 = .ok (.bipush 101, 2) := by decide +kernel
theorem dX12_init_201 : decode cX12_init 201 = .ok (.iastore, 1) := by decide +kernel
theorem dX12_init_202 : decode cX12_init 202 = .ok (.dup, 1) := by decide +kernel
theorem dX12_init_203 : decode cX12_init 203 = .ok (.bipush 33, 2) := by decide +kernel
theorem dX12_init_205 : decode cX12_init 205 = .ok (.bipush 110, 2) := by decide +kernel
theorem dX12_init_207 : decode cX12_init 207 = .ok (.iastore, 1) := by decide +kernel
theorem dX12_init_208 : decode cX12_init 208 = .ok (.dup, 1) := by decide +kernel
theorem dX12_init_209 : decode cX12_init 209 = .ok (.bipush 34, 2) := by decide +kernel
theorem dX12_init_211 : decode cX12_init 211 = .ok (.bipush 32, 2) := by decide +kernel
theorem dX12_init_213 : decode cX12_init 213 = .ok (.iastore, 1) := by decide +kernel
theorem dX12_init_214 : decode cX12_init 214 = .ok (.dup, 1) := by decide +kernel
theorem dX12_init_215 : decode cX12_init 215 = .ok (.bipush 35, 2) := by decide +kernel
theorem dX12_init_217 : decode cX12_init 217 = .ok (.bipush 101, 2) := by decide +kernel
theorem dX12_init_219 : decode cX12_init 219 = .ok (.iastore, 1) := by decide +kernel
theorem dX12_init_220 : decode cX12_init 220 = .ok (.dup, 1) := by decide +kernel
theorem dX12_init_221 : decode cX12_init 221 = .ok (.bipush 36, 2) := by decide +kernel
theorem dX12_init_223 : decode cX12_init 223 = .ok (.bipush 108, 2) := by decide +kernel
theorem dX12_init_225 : decode cX12_init 225 = .ok (.iastore, 1) := by decide +kernel
theorem dX12_init_226 : decode cX12_init 226 = .ok (.dup, 1) := by decide +kernel
theorem dX12_init_227 : decode cX12_init 227 = .ok (.bipush 37, 2) := by decide +kernel
theorem dX12_init_229 : decode cX12_init 229 = .ok (.bipush 115, 2) := by decide +kernel
theorem dX12_init_231 : decode cX12_init 231 = .ok (.iastore, 1) := by decide +kernel
theorem dX12_init_232 : decode cX12_init 232 = .ok (.dup, 1) := by decide +kernel
theorem dX12_init_233 : decode cX12_init 233 = .ok (.bipush 38, 2) := by decide +kernel
theorem dX12_init_235 : decode cX12_init 235 = .ok (.bipush 101, 2) := by decide +kernel
theorem dX12_init_237 : decode cX12_init 237 = .ok (.iastore, 1) := by decide +kernel
theorem dX12_init_238 : decode cX12_init 238 = .ok (.dup, 1) := by decide +kernel
theorem dX12_init_239 : decode cX12_init 239 = .ok (.bipush 39, 2) := by decide +kernel
theorem dX12_init_241 : decode cX12_init 241 = .ok (.bipush 105, 2) := by decide +kernel
theorem dX12_init_243 : decode cX12_init 243 = .ok (.iastore, 1) := by decide +kernel
theorem dX12_init_244 : decode cX12_init 244 = .ok (.dup, 1) := by decide +kernel
theorem dX12_init_245 : decode cX12_init 245 = .ok (.bipush 40, 2) := by decide +kernel
theorem dX12_init_247 : decode cX12_init 247 = .ok (.bipush 102, 2) := by decide +kernel
theorem dX12_init_249 : decode cX12_init 249 = .ok (.iastore, 1) := by decide +kernel
theorem dX12_init_250 : decode cX12_init 250 = .ok (.dup, 1) := by decide +kernel
theorem dX12_init_251 : decode cX12_init 251 = .ok (.bipush 41, 2) := by decide +kernel
theorem dX12_init_253 : decode cX12_init 253 = .ok (.bipush 32, 2) := by decide +kernel
theorem dX12_init_255 : decode cX12_init 255 = .ok (.iastore, 1) := by decide +kernel
theorem dX12_init_256 : decode cX12_init 256 = .ok (.dup, 1) := by decide +kernel
theorem dX12_init_257 : decode cX12_init 257 = .ok (.bipush 42, 2) := by decide +kernel
theorem dX12_init_259 : decode cX12_init 259 = .ok (.bipush 101, 2) := by decide +kernel
theorem dX12_init_261 : decode cX12_init 261 = .ok (.iastore, 1) := by decide +kernel
theorem dX12_init_262 : decode cX12_init 262 = .ok (.dup, 1) := by decide +kernel
theorem dX12_init_263 : decode cX12_init 263 = .ok (.bipush 43, 2) := by decide +kernel
theorem dX12_init_265 : decode cX12_init 265 = .ok (.bipush 108, 2) := by decide +kernel
theorem dX12_init_267 : decode cX12_init 267 = .ok (.iastore, 1) := by decide +kernel
theorem dX12_init_268 : decode cX12_init 268 = .ok (.dup, 1) := by decide +kernel
theorem dX12_init_269 : decode cX12_init 269 = .ok (.bipush 44, 2) := by decide +kernel
theorem dX12_init_271 : decode cX12_init 271 = .ok (.bipush 115, 2) := by decide +kernel
theorem dX12_init_273 : decode cX12_init 273 = .ok (.iastore, 1) := by decide +kernel
theorem dX12_init_274 : decode cX12_init 274 = .ok (.dup, 1) := by decide +kernel
theorem dX12_init_275 : decode cX12_init 275 = .ok (.bipush 45, 2) := by decide +kernel
theorem dX12_init_277 : decode cX12_init 277 = .ok (.bipush 101, 2) := by decide +kernel
theorem dX12_init_279 : decode cX12_init 279 = .ok (.iastore, 1) := by decide +kernel
theorem dX12_init_280 : decode cX12_init 280 = .ok (.dup, 1) := by decide +kernel
theorem dX12_init_281 : decode cX12_init 281 = .ok (.bipush 46, 2) := by decide +kernel
theorem dX12_init_283 : decode cX12_init 283 = .ok (.bipush 32, 2) := by decide +kernel
theorem dX12_init_285 : decode cX12_init 285 = .ok (.iastore, 1) := by decide +kernel
theorem dX12_init_286 : decode cX12_init 286 = .ok (.dup, 1) := by decide +kernel
theorem dX12_init_287 : decode cX12_init 287 = .ok (.bipush 47, 2) := by decide +kernel
theorem dX12_init_289 : decode cX12_init 289 = .ok (.bipush 119, 2) := by decide +kernel
theorem dX12_init_291 : decode cX12_init 291 = .ok (.iastore, 1) := by decide +kernel
theorem dX12_init_292 : decode cX12_init 292 = .ok (.dup, 1) := by decide +kernel
theorem dX12_init_293 : decode cX12_init 293 = .ok (.bipush 48, 2) := by decide +kernel
theorem dX12_init_295 : decode cX12_init 295 = .ok (.bipush 104, 2) := by decide +kernel
theorem dX12_init_297 : decode cX12_init 297 = .ok (.iastore, 1) := by decide +kernel
theorem dX12_init_298 : decode cX12_init 298 = .ok (.dup, 1) := by decide +kernel
theorem dX12_init_299 : decode cX12_init 299 = .ok (.bipush 49, 2) := by decide +kernel
theorem dX12_init_301 : decode cX12_init 301 = .ok (.bipush 105, 2) := by decide +kernel
theorem dX12_init_303 : decode cX12_init 303 = .ok (.iastore, 1) := by decide +kernel
theorem dX12_init_304 : decode cX12_init 304 = .ok (.dup, 1) := by decide +kernel
theorem dX12_init_305 : decode cX12_init 305 = .ok (.bipush 50, 2) := by decide +kernel
theorem dX12_init_307 : decode cX12_init 307 = .ok (.bipush 108, 2) := by decide +kernel
theorem dX12_init_309 : decode cX12_init 309 = .ok (.iastore, 1) := by decide +kernel
theorem dX12_init_310 : decode cX12_init 310 = .ok (.dup, 1) := by decide +kernel
theorem dX12_init_311 : decode cX12_init 311 = .ok (.bipush 51, 2) := by decide +kernel
theorem dX12_init_313 : decode cX12_init 313 = .ok (.bipush 101, 2) := by decide +kernel
theorem dX12_init_315 : decode cX12_init 315 = .ok (.iastore, 1) := by decide +kernel
theorem dX12_init_316 : decode cX12_init 316 = .ok (.dup, 1) := by decide +kernel
theorem dX12_init_317 : decode cX12_init 317 = .ok (.bipush 52, 2) := by decide +kernel
theorem dX12_init_319 : decode cX12_init 319 = .ok (.bipush 32, 2) := by decide +kernel
theorem dX12_init_321 : decode cX12_init 321 = .ok (.iastore, 1) := by decide +kernel
theorem dX12_init_322 : decode cX12_init 322 = .ok (.dup, 1) := by decide +kernel
theorem dX12_init_323 : decode cX12_init 323 = .ok (.bipush 53, 2) := by decide +kernel
theorem dX12_init_325 : decode cX12_init 325 = .ok (.bipush 100, 2) := by decide +kernel
theorem dX12_init_327 : decode cX12_init 327 = .ok (.iastore, 1) := by decide +kernel
theorem dX12_init_328 : decode cX12_init 328 = .ok (.dup, 1) := by decide +kernel
theorem dX12_init_329 : decode cX12_init 329 = .ok (.bipush 54, 2) := by decide +kernel
theorem dX12_init_331 : decode cX12_init 331 = .ok (.bipush 111, 2) := by decide +kernel
theorem dX12_init_333 : decode cX12_init 333 = .ok (.iastore, 1) := by decide +kernel
theorem dX12_init_334 : decode cX12_init 334 = .ok (.dup, 1) := by decide +kernel
theorem dX12_init_335 : decode cX12_init 335 = .ok (.bipush 55, 2) := by decide +kernel
theorem dX12_init_337 : decode cX12_init 337 = .ok (.bipush 32, 2) := by decide +kernel
theorem dX12_init_339 : decode cX12_init 339 = .ok (.iastore, 1) := by decide +kernel
theorem dX12_init_340 : decode cX12_init 340 = .ok (.dup, 1) := by decide +kernel
theorem dX12_init_341 : decode cX12_init 341 = .ok (.bipush 56, 2) := by decide +kernel
theorem dX12_init_343 : decode cX12_init 343 = .ok (.bipush 102, 2) := by decide +kernel
theorem dX12_init_345 : decode cX12_init 345 = .ok (.iastore, 1) := by decide +kernel
theorem dX12_init_346 : decode cX12_init 346 = .ok (.dup, 1) := by decide +kernel
theorem dX12_init_347 : decode cX12_init 347 = .ok (.bipush 57, 2) := by decide +kernel
theorem dX12_init_349 : decode cX12_init 349 = .ok (.bipush 111, 2) := by decide +kernel
theorem dX12_init_351 : decode cX12_init 351 = .ok (.iastore, 1) := by decide +kernel
theorem dX12_init_352 : decode cX12_init 352 = .ok (.dup, 1) := by decide +kernel
theorem dX12_init_353 : decode cX12_init 353 = .ok (.bipush 58, 2) := by decide +kernel
theorem dX12_init_355 : decode cX12_init 355 = .ok (.bipush 114, 2) := by decide +kernel
theorem dX12_init_357 : decode cX12_init 357 = .ok (.iastore, 1) := by decide +kernel
theorem dX12_init_358 : decode cX12_init 358 = .ok (.dup, 1) := by decide +kernel
theorem dX12_init_359 : decode cX12_init 359 = .ok (.bipush 59, 2) := by decide +kernel
theorem dX12_init_361 : decode cX12_init 361 = .ok (.bipush 32, 2) := by decide +kernel
theorem dX12_init_363 : decode cX12_init 363 = .ok (.iastore, 1) := by decide +kernel
theorem dX12_init_364 : decode cX12_init 364 = .ok (.dup, 1) := by decide +kernel
theorem dX12_init_365 : decode cX12_init 365 = .ok (.bipush 60, 2) := by decide +kernel
theorem dX12_init_367 : decode cX12_init 367 = .ok (.bipush 105, 2) := by decide +kernel
theorem dX12_init_369 : decode cX12_init 369 = .ok (.iastore, 1) := by decide +kernel
theorem dX12_init_370 : decode cX12_init 370 = .ok (.dup, 1) := by decide +kernel
theorem dX12_init_371 : decode cX12_init 371 = .ok (.bipush 61, 2) := by decide +kernel
theorem dX12_init_373 : decode cX12_init 373 = .ok (.bipush 110, 2) := by decide +kernel
theorem dX12_init_375 : decode cX12_init 375 = .ok (.iastore, 1) := by decide +kernel
theorem dX12_init_376 : decode cX12_init 376 = .ok (.dup, 1) := by decide +kernel
theorem dX12_init_377 : decode cX12_init 377 = .ok (.bipush 62, 2) := by decide +kernel
theorem dX12_init_379 : decode cX12_init 379 = .ok (.bipush 32, 2) := by decide +kernel
theorem dX12_init_381 : decode cX12_init 381 = .ok (.iastore, 1) := by decide +kernel
theorem dX12_init_382 : decode cX12_init 382 = .ok (.dup, 1) := by decide +kernel
theorem dX12_init_383 : decode cX12_init 383 = .ok (.bipush 63, 2) := by decide +kernel
theorem dX12_init_385 : decode cX12_init 385 = .ok (.bipush 110, 2) := by decide +kernel
theorem dX12_init_387 : decode cX12_init 387 = .ok (.iastore, 1) := by decide +kernel
theorem dX12_init_388 : decode cX12_init 388 = .ok (.dup, 1) := by decide +kernel
theorem dX12_init_389 : decode cX12_init 389 = .ok (.bipush 64, 2) := by decide +kernel
theorem dX12_init_391 : decode cX12_init 391 = .ok (.bipush 111, 2) := by decide +kernel
theorem dX12_init_393 : decode cX12_init 393 = .ok (.iastore, 1) := by decide +kernel
theorem dX12_init_394 : decode cX12_init 394 = .ok (.dup, 1) := by decide +kernel
theorem dX12_init_395 : decode cX12_init 395 = .ok (.bipush 65, 2) := by decide +kernel
theorem dX12_init_397 : decode cX12_init 397 = .ok (.bipush 116, 2) := by decide +kernel
theorem dX12_init_399 : decode cX12_init 399 = .ok (.iastore, 1) := by decide +kernel
theorem dX12_init_400 : decode cX12_init 400 = .ok (.dup, 1) := by decide +kernel
theorem dX12_init_401 : decode cX12_init 401 = .ok (.bipush 66, 2) := by decide +kernel
theorem dX12_init_403 : decode cX12_init 403 = .ok (.bipush 105, 2) := by decide +kernel
theorem dX12_init_405 : decode cX12_init 405 = .ok (.iastore, 1) := by decide +kernel
theorem dX12_init_406 : decode cX12_init 406 = .ok (.dup, 1) := by decide +kernel
theorem dX12_init_407 : decode cX12_init 407 = .ok (.bipush 67, 2) := by decide +kernel
theorem dX12_init_409 : decode cX12_init 409 = .ok (.bipush 110, 2) := by decide +kernel
theorem dX12_init_411 : decode cX12_init 411 = .ok (.iastore, 1) := by decide +kernel
theorem dX12_init_412 : decode cX12_init 412 = .ok (.dup, 1) := by decide +kernel
theorem dX12_init_413 : decode cX12_init 413 = .ok (.bipush 68, 2) := by decide +kernel
theorem dX12_init_415 : decode cX12_init 415 = .ok (.bipush 32, 2) := by decide +kernel
theorem dX12_init_417 : decode cX12_init 417 = .ok (.iastore, 1) := by decide +kernel
theorem dX12_init_418 : decode cX12_init 418 = .ok (.dup, 1) := by decide +kernel
theorem dX12_init_419 : decode cX12_init 419 = .ok (.bipush 69, 2) := by decide +kernel
theorem dX12_init_421 : decode cX12_init 421 = .ok (.bipush 115, 2) := by decide +kernel
theorem dX12_init_423 : decode cX12_init 423 = .ok (.iastore, 1) := by decide +kernel
theorem dX12_init_424 : decode cX12_init 424 = .ok (.dup, 1) := by decide +kernel
theorem dX12_init_425 : decode cX12_init 425 = .ok (.bipush 70, 2) := by decide +kernel
theorem dX12_init_427 : decode cX12_init 427 = .ok (.bipush 117, 2) := by decide +kernel
theorem dX12_init_429 : decode cX12_init 429 = .ok (.iastore, 1) := by decide +kernel
theorem dX12_init_430 : decode cX12_init 430 = .ok (.dup, 1) := by decide +kernel
theorem dX12_init_431 : decode cX12_init 431 = .ok (.bipush 71, 2) := by decide +kernel
theorem dX12_init_433 : decode cX12_init 433 = .ok (.bipush 98, 2) := by decide +kernel
theorem dX12_init_435 : decode cX12_init 435 = .ok (.iastore, 1) := by decide +kernel
theorem dX12_init_436 : decode cX12_init 436 = .ok (.dup, 1) := by decide +kernel
theorem dX12_init_437 : decode cX12_init 437 = .ok (.bipush 72, 2) := by decide +kernel
theorem dX12_init_439 : decode cX12_init 439 = .ok (.bipush 115, 2) := by decide +kernel
theorem dX12_init_441 : decode cX12_init 441 = .ok (.iastore, 1) := by decide +kernel
theorem dX12_init_442 : decode cX12_init 442 = .ok (.dup, 1) := by decide +kernel
theorem dX12_init_443 : decode cX12_init 443 = .ok (.bipush 73, 2) := by decide +kernel
theorem dX12_init_445 : decode cX12_init 445 = .ok (.bipush 101, 2) := by decide +kernel
theorem dX12_init_447 : decode cX12_init 447 = .ok (.iastore, 1) := by decide +kernel
theorem dX12_init_448 : decode cX12_init 448 = .ok (.dup, 1) := by decide +kernel
theorem dX12_init_449 : decode cX12_init 449 = .ok (.bipush 74, 2) := by decide +kernel
theorem dX12_init_451 : decode cX12_init 451 = .ok (.bipush 116, 2) := by decide +kernel
theorem dX12_init_453 : decode cX12_init 453 = .ok (.iastore, 1) := by decide +kernel
theorem dX12_init_454 : decode cX12_init 454 = .ok (.dup, 1) := by decide +kernel
theorem dX12_init_455 : decode cX12_init 455 = .ok (.bipush 75, 2) := by decide +kernel
theorem dX12_init_457 : decode cX12_init 457 = .ok (.bipush 32, 2) := by decide +kernel
theorem dX12_init_459 : decode cX12_init 459 = .ok (.iastore, 1) := by decide +kernel
theorem dX12_init_460 : decode cX12_init 460 = .ok (.dup, 1) := by decide +kernel
theorem dX12_init_461 : decode cX12_init 461 = .ok (.bipush 76, 2) := by decide +kernel
theorem dX12_init_463 : decode cX12_init 463 = .ok (.bipush 113, 2) := by decide +kernel
theorem dX12_init_465 : decode cX12_init 465 = .ok (.iastore, 1) := by decide +kernel
theorem dX12_init_466 : decode cX12_init 466 = .ok (.dup, 1) := by decide +kernel
theorem dX12_init_467 : decode cX12_init 467 = .ok (.bipush 77, 2) := by decide +kernel
theorem dX12_init_469 : decode cX12_init 469 = .ok (.bipush 117, 2) := by decide +kernel
theorem dX12_init_471 : decode cX12_init 471 = .ok (.iastore, 1) := by decide +kernel
theorem dX12_init_472 : decode cX12_init 472 = .ok (.dup, 1) := by decide +kernel
theorem dX12_init_473 : decode cX12_init 473 = .ok (.bipush 78, 2) := by decide +kernel
theorem dX12_init_475 : decode cX12_init 475 = .ok (.bipush 105, 2) := by decide +kernel
theorem dX12_init_477 : decode cX12_init 477 = .ok (.iastore, 1) := by decide +kernel
theorem dX12_init_478 : decode cX12_init 478 = .ok (.dup, 1) := by decide +kernel
theorem dX12_init_479 : decode cX12_init 479 = .ok (.bipush 79, 2) := by decide +kernel
theorem dX12_init_481 : decode cX12_init 481 = .ok (.bipush 116, 2) := by decide +kernel
theorem dX12_init_483 : decode cX12_init 483 = .ok (.iastore, 1) := by decide +kernel
theorem dX12_init_484 : decode cX12_init 484 = .ok (.dup, 1) := by decide +kernel
theorem dX12_init_485 : decode cX12_init 485 = .ok (.bipush 80, 2) := by decide +kernel
theorem dX12_init_487 : decode cX12_init 487 = .ok (.bipush 32, 2) := by decide +kernel
theorem dX12_init_489 : decode cX12_init 489 = .ok (.iastore, 1) := by decide +kernel
theorem dX12_init_490 : decode cX12_init 490 = .ok (.dup, 1) := by decide +kernel
theorem dX12_init_491 : decode cX12_init 491 = .ok (.bipush 81, 2) := by decide +kernel
theorem dX12_init_493 : decode cX12_init 493 = .ok (.bipush 99, 2) := by decide +kernel
theorem dX12_init_495 : decode cX12_init 495 = .ok (.iastore, 1) := by decide +kernel
theorem dX12_init_496 : decode cX12_init 496 = .ok (.dup, 1) := by decide +kernel
theorem dX12_init_497 : decode cX12_init 497 = .ok (.bipush 82, 2) := by decide +kernel
theorem dX12_init_499 : decode cX12_init 499 = .ok (.bipush 111, 2) := by decide +kernel
theorem dX12_init_501 : decode cX12_init 501 = .ok (.iastore, 1) := by decide +kernel
theorem dX12_init_502 : decode cX12_init 502 = .ok (.dup, 1) := by decide +kernel
theorem dX12_init_503 : decode cX12_init 503 = .ok (.bipush 83, 2) := by decide +kernel
theorem dX12_init_505 : decode cX12_init 505 = .ok (.bipush 110, 2) := by decide +kernel
theorem dX12_init_507 : decode cX12_init 507 = .ok (.iastore, 1) := by decide +kernel
theorem dX12_init_508 : decode cX12_init 508 = .ok (.dup, 1) := by decide +kernel
theorem dX12_init_509 : decode cX12_init 509 = .ok (.bipush 84, 2) := by decide +kernel
theorem dX12_init_511 : decode cX12_init 511 = .ok (.bipush 116, 2) := by decide +kernel
theorem dX12_init_513 : decode cX12_init 513 = .ok (.iastore, 1) := by decide +kernel
theorem dX12_init_514 : decode cX12_init 514 = .ok (.dup, 1) := by decide +kernel
theorem dX12_init_515 : decode cX12_init 515 = .ok (.bipush 85, 2) := by decide +kernel
theorem dX12_init_517 : decode cX12_init 517 = .ok (.bipush 105, 2) := by decide +kernel
theorem dX12_init_519 : decode cX12_init 519 = .ok (.iastore, 1) := by decide +kernel
theorem dX12_init_520 : decode cX12_init 520 = .ok (.dup, 1) := by decide +kernel
theorem dX12_init_521 : decode cX12_init 521 = .ok (.bipush 86, 2) := by decide +kernel
theorem dX12_init_523 : decode cX12_init 523 = .ok (.bipush 110, 2) := by decide +kernel
theorem dX12_init_525 : decode cX12_init 525 = .ok (.iastore, 1) := by decide +kernel
theorem dX12_init_526 : decode cX12_init 526 = .ok (.dup, 1) := by decide +kernel
theorem dX12_init_527 : decode cX12_init 527 = .ok (.bipush 87, 2) := by decide +kernel
theorem dX12_init_529 : decode cX12_init 529 = .ok (.bipush 117, 2) := by decide +kernel
theorem dX12_init_531 : decode cX12_init 531 = .ok (.iastore, 1) := by decide +kernel
theorem dX12_init_532 : decode cX12_init 532 = .ok (.dup, 1) := by decide +kernel
theorem dX12_init_533 : decode cX12_init 533 = .ok (.bipush 88, 2) := by decide +kernel
