/-! decode rows -/
theorem dX0_setOf_0 : decode cX0_setOf 0 = .ok (.iload_n 2, 1) := by decide +kernel
theorem dX0_setOf_1 : decode cX0_setOf 1 = .ok (.istore 4, 2) := by decide +kernel
theorem dX0_setOf_3 : decode cX0_setOf 3 = .ok (.iload 4, 2) := by decide +kernel
theorem dX0_setOf_5 : decode cX0_setOf 5 = .ok (.iload_n 2, 1) := by decide +kernel
theorem dX0_setOf_6 : decode cX0_setOf 6 = .ok (.iload_n 3, 1) := by decide +kernel
theorem dX0_setOf_7 : decode cX0_setOf 7 = .ok (.iadd, 1) := by decide +kernel
theorem dX0_setOf_8 : decode cX0_setOf 8 = .ok (.if_icmp .ge 21, 3) := by decide +kernel
theorem dX0_setOf_11 : decode cX0_setOf 11 = .ok (.aload_n 1, 1) := by decide +kernel
theorem dX0_setOf_12 : decode cX0_setOf 12 = .ok (.iload 4, 2) := by decide +kernel
theorem dX0_setOf_14 : decode cX0_setOf 14 = .ok (.iaload, 1) := by decide +kernel
theorem dX0_setOf_15 : decode cX0_setOf 15 = .ok (.ldc 167, 2) := by decide +kernel
theorem dX0_setOf_17 : decode cX0_setOf 17 = .ok (.if_icmp .ne 6, 3) := by decide +kernel
theorem dX0_setOf_20 : decode cX0_setOf 20 = .ok (.ldc 174, 2) := by decide +kernel
theorem dX0_setOf_22 : decode cX0_setOf 22 = .ok (.ireturn, 1) := by decide +kernel
theorem dX0_setOf_23 : decode cX0_setOf 23 = .ok (.iinc 4 1, 3) := by decide +kernel
theorem dX0_setOf_26 : decode cX0_setOf 26 = .ok (.goto (-23), 3) := by decide +kernel
theorem dX0_setOf_29 : decode cX0_setOf 29 = .ok (.iconst 0, 1) := by decide +kernel
theorem dX0_setOf_30 : decode cX0_setOf 30 = .ok (.istore 4, 2) := by decide +kernel
theorem dX0_setOf_32 : decode cX0_setOf 32 = .ok (.iconst 1, 1) := by decide +kernel
theorem dX0_setOf_33 : decode cX0_setOf 33 = .ok (.istore 5, 2) := by decide +kernel
theorem dX0_setOf_35 : decode cX0_setOf 35 = .ok (.iconst 0, 1) := by decide +kernel
theorem dX0_setOf_36 : decode cX0_setOf 36 = .ok (.istore 6, 2) := by decide +kernel
theorem dX0_setOf_38 : decode cX0_setOf 38 = .ok (.iload 6, 2) := by decide +kernel
theorem dX0_setOf_40 : decode cX0_setOf 40 = .ok (.iload_n 3, 1) := by decide +kernel
theorem dX0_setOf_41 : decode cX0_setOf 41 = .ok (.if_icmp .ge 62, 3) := by decide +kernel
theorem dX0_setOf_44 : decode cX0_setOf 44 = .ok (.aload_n 1, 1) := by decide +kernel
theorem dX0_setOf_45 : decode cX0_setOf 45 = .ok (.iload_n 2, 1) := by decide +kernel
theorem dX0_setOf_46 : decode cX0_setOf 46 = .ok (.iload 6, 2) := by decide +kernel
theorem dX0_setOf_48 : decode cX0_setOf 48 = .ok (.iadd, 1) := by decide +kernel
theorem dX0_setOf_49 : decode cX0_setOf 49 = .ok (.iaload, 1) := by decide +kernel
theorem dX0_setOf_50 : decode cX0_setOf 50 = .ok (.istore 7, 2) := by decide +kernel
theorem dX0_setOf_52 : decode cX0_setOf 52 = .ok (.aload_n 0, 1) := by decide +kernel
theorem dX0_setOf_53 : decode cX0_setOf 53 = .ok (.aload_n 1, 1) := by decide +kernel
theorem dX0_setOf_54 : decode cX0_setOf 54 = .ok (.iload_n 2, 1) := by decide +kernel
theorem dX0_setOf_55 : decode cX0_setOf 55 = .ok (.iload 4, 2) := by decide +kernel
theorem dX0_setOf_57 : decode cX0_setOf 57 = .ok (.iload_n 2, 1) := by decide +kernel
theorem dX0_setOf_58 : decode cX0_setOf 58 = .ok (.iload 4, 2) := by decide +kernel
theorem dX0_setOf_60 : decode cX0_setOf 60 = .ok (.iadd, 1) := by decide +kernel
theorem dX0_setOf_61 : decode cX0_setOf 61 = .ok (.iload 7, 2) := by decide +kernel
theorem dX0_setOf_63 : decode cX0_setOf 63 = .ok (.invokevirtual 175, 3) := by decide +kernel
theorem dX0_setOf_66 : decode cX0_setOf 66 = .ok (.ifCond .eq 31, 3) := by decide +kernel
theorem dX0_setOf_69 : decode cX0_setOf 69 = .ok (.iinc 4 1, 3) := by decide +kernel
theorem dX0_setOf_72 : decode cX0_setOf 72 = .ok (.iload 5, 2) := by decide +kernel
theorem dX0_setOf_74 : decode cX0_setOf 74 = .ok (.aload_n 0, 1) := by decide +kernel
theorem dX0_setOf_75 : decode cX0_setOf 75 = .ok (.getfield 22, 3) := by decide +kernel
theorem dX0_setOf_78 : decode cX0_setOf 78 = .ok (.iload 7, 2) := by decide +kernel
theorem dX0_setOf_80 : decode cX0_setOf 80 = .ok (.invokevirtual 179, 3) := by decide +kernel
theorem dX0_setOf_83 : decode cX0_setOf 83 = .ok (.iadd, 1) := by decide +kernel
theorem dX0_setOf_84 : decode cX0_setOf 84 = .ok (.istore 5, 2) := by decide +kernel
theorem dX0_setOf_86 : decode cX0_setOf 86 = .ok (.iload 5, 2) := by decide +kernel
theorem dX0_setOf_88 : decode cX0_setOf 88 = .ok (.sipush 1000, 3) := by decide +kernel
theorem dX0_setOf_91 : decode cX0_setOf 91 = .ok (.if_icmp .le 6, 3) := by decide +kernel
theorem dX0_setOf_94 : decode cX0_setOf 94 = .ok (.ldc 139, 2) := by decide +kernel
theorem dX0_setOf_96 : decode cX0_setOf 96 = .ok (.ireturn, 1) := by decide +kernel
theorem dX0_setOf_97 : decode cX0_setOf 97 = .ok (.iinc 6 1, 3) := by decide +kernel
theorem dX0_setOf_100 : decode cX0_setOf 100 = .ok (.goto (-62), 3) := by decide +kernel
theorem dX0_setOf_103 : decode cX0_setOf 103 = .ok (.aload_n 0, 1) := by decide +kernel
theorem dX0_setOf_104 : decode cX0_setOf 104 = .ok (.getfield 22, 3) := by decide +kernel
theorem dX0_setOf_107 : decode cX0_setOf 107 = .ok (.bipush 6, 2) := by decide +kernel
theorem dX0_setOf_109 : decode cX0_setOf 109 = .ok (.aload_n 1, 1) := by decide +kernel
theorem dX0_setOf_110 : decode cX0_setOf 110 = .ok (.iload_n 2, 1) := by decide +kernel
theorem dX0_setOf_111 : decode cX0_setOf 111 = .ok (.iload 4, 2) := by decide +kernel
theorem dX0_setOf_113 : decode cX0_setOf 113 = .ok (.invokevirtual 160, 3) := by decide +kernel
theorem dX0_setOf_116 : decode cX0_setOf 116 = .ok (.ireturn, 1) := by decide +kernel
theorem dX0_unary_0 : decode cX0_unary 0 = .ok (.aload_n 0, 1) := by decide +kernel
theorem dX0_unary_1 : decode cX0_unary 1 = .ok (.getfield 22, 3) := by decide +kernel
theorem dX0_unary_4 : decode cX0_unary 4 = .ok (.iload_n 2, 1) := by decide +kernel
theorem dX0_unary_5 : decode cX0_unary 5 = .ok (.invokevirtual 87, 3) := by decide +kernel
theorem dX0_unary_8 : decode cX0_unary 8 = .ok (.istore_n 3, 1) := by decide +kernel
theorem dX0_unary_9 : decode cX0_unary 9 = .ok (.iload_n 1, 1) := by decide +kernel
theorem dX0_unary_10 : decode cX0_unary 10 = .ok (.tableswitch 260 160 170 #[58, 96, 77, 118, 139, 161, 183, 200, 212, 228, 244], 58) := by decide +kernel
theorem dX0_unary_68 : decode cX0_unary 68 = .ok (.iload_n 3, 1) := by decide +kernel
theorem dX0_unary_69 : decode cX0_unary 69 = .ok (.iconst 2, 1) := by decide +kernel
theorem dX0_unary_70 : decode cX0_unary 70 = .ok (.if_icmp .ne 14, 3) := by decide +kernel
theorem dX0_unary_73 : decode cX0_unary 73 = .ok (.aload_n 0, 1) := by decide +kernel
theorem dX0_unary_74 : decode cX0_unary 74 = .ok (.getfield 26, 3) := by decide +kernel
theorem dX0_unary_77 : decode cX0_unary 77 = .ok (.iload_n 2, 1) := by decide +kernel
theorem dX0_unary_78 : decode cX0_unary 78 = .ok (.invokevirtual 182, 3) := by decide +kernel
theorem dX0_unary_81 : decode cX0_unary 81 = .ok (.goto 5, 3) := by decide +kernel
theorem dX0_unary_84 : decode cX0_unary 84 = .ok (.ldc 56, 2) := by decide +kernel
theorem dX0_unary_86 : decode cX0_unary 86 = .ok (.ireturn, 1) := by decide +kernel
theorem dX0_unary_87 : decode cX0_unary 87 = .ok (.iload_n 3, 1) := by decide +kernel
theorem dX0_unary_88 : decode cX0_unary 88 = .ok (.iconst 2, 1) := by decide +kernel
theorem dX0_unary_89 : decode cX0_unary 89 = .ok (.if_icmp .ne 14, 3) := by decide +kernel
theorem dX0_unary_92 : decode cX0_unary 92 = .ok (.aload_n 0, 1) := by decide +kernel
theorem dX0_unary_93 : decode cX0_unary 93 = .ok (.getfield 26, 3) := by decide +kernel
theorem dX0_unary_96 : decode cX0_unary 96 = .ok (.iload_n 2, 1) := by decide +kernel
theorem dX0_unary_97 : decode cX0_unary 97 = .ok (.invokevirtual 185, 3) := by decide +kernel
theorem dX0_unary_100 : decode cX0_unary 100 = .ok (.goto 5, 3) := by decide +kernel
theorem dX0_unary_103 : decode cX0_unary 103 = .ok (.ldc 56, 2) := by decide +kernel
theorem dX0_unary_105 : decode cX0_unary 105 = .ok (.ireturn, 1) := by decide +kernel
theorem dX0_unary_106 : decode cX0_unary 106 = .ok (.iload_n 3, 1) := by decide +kernel
theorem dX0_unary_107 : decode cX0_unary 107 = .ok (.iconst 4, 1) := by decide +kernel
theorem dX0_unary_108 : decode cX0_unary 108 = .ok (.if_icmp .lt 17, 3) := by decide +kernel
theorem dX0_unary_111 : decode cX0_unary 111 = .ok (.aload_n 0, 1) := by decide +kernel
theorem dX0_unary_112 : decode cX0_unary 112 = .ok (.getfield 22, 3) := by decide +kernel
theorem dX0_unary_115 : decode cX0_unary 115 = .ok (.iload_n 2, 1) := by decide +kernel
theorem dX0_unary_116 : decode cX0_unary 116 = .ok (.invokevirtual 100, 3) := by decide +kernel
theorem dX0_unary_119 : decode cX0_unary 119 = .ok (.invokestatic 188, 3) := by decide +kernel
theorem dX0_unary_122 : decode cX0_unary 122 = .ok (.goto 5, 3) := by decide +kernel
theorem dX0_unary_125 : decode cX0_unary 125 = .ok (.ldc 56, 2) := by decide +kernel
theorem dX0_unary_127 : decode cX0_unary 127 = .ok (.ireturn, 1) := by decide +kernel
theorem dX0_unary_128 : decode cX0_unary 128 = .ok (.iload_n 3, 1) := by decide +kernel
theorem dX0_unary_129 : decode cX0_unary 129 = .ok (.bipush 6, 2) := by decide +kernel
theorem dX0_unary_131 : decode cX0_unary 131 = .ok (.if_icmp .ne 15, 3) := by decide +kernel
theorem dX0_unary_134 : decode cX0_unary 134 = .ok (.aload_n 0, 1) := by decide +kernel
theorem dX0_unary_135 : decode cX0_unary 135 = .ok (.getfield 22, 3) := by decide +kernel
theorem dX0_unary_138 : decode cX0_unary 138 = .ok (.iload_n 2, 1) := by decide +kernel
theorem dX0_unary_139 : decode cX0_unary 139 = .ok (.iconst 0, 1) := by decide +kernel
theorem dX0_unary_140 : decode cX0_unary 140 = .ok (.invokevirtual 154, 3) := by decide +kernel
theorem dX0_unary_143 : decode cX0_unary 143 = .ok (.goto 5, 3) := by decide +kernel
theorem dX0_unary_146 : decode cX0_unary 146 = .ok (.ldc 56, 2) := by decide +kernel
theorem dX0_unary_148 : decode cX0_unary 148 = .ok (.ireturn, 1) := by decide +kernel
theorem dX0_unary_149 : decode cX0_unary 149 = .ok (.aload_n 0, 1) := by decide +kernel
theorem dX0_unary_150 : decode cX0_unary 150 = .ok (.getfield 22, 3) := by decide +kernel
theorem dX0_unary_153 : decode cX0_unary 153 = .ok (.iload_n 2, 1) := by decide +kernel
theorem dX0_unary_154 : decode cX0_unary 154 = .ok (.invokevirtual 191, 3) := by decide +kernel
theorem dX0_unary_157 : decode cX0_unary 157 = .ok (.ifCond .eq 11, 3) := by decide +kernel
theorem dX0_unary_160 : decode cX0_unary 160 = .ok (.aload_n 0, 1) := by decide +kernel
theorem dX0_unary_161 : decode cX0_unary 161 = .ok (.iload_n 2, 1) := by decide +kernel
theorem dX0_unary_162 : decode cX0_unary 162 = .ok (.invokevirtual 194, 3) := by decide +kernel
theorem dX0_unary_165 : decode cX0_unary 165 = .ok (.goto 5, 3) := by decide +kernel
theorem dX0_unary_168 : decode cX0_unary 168 = .ok (.ldc 56, 2) := by decide +kernel
theorem dX0_unary_170 : decode cX0_unary 170 = .ok (.ireturn, 1) := by decide +kernel
theorem dX0_unary_171 : decode cX0_unary 171 = .ok (.aload_n 0, 1) := by decide +kernel
theorem dX0_unary_172 : decode cX0_unary 172 = .ok (.getfield 22, 3) := by decide +kernel
theorem dX0_unary_175 : decode cX0_unary 175 = .ok (.iload_n 2, 1) := by decide +kernel
theorem dX0_unary_176 : decode cX0_unary 176 = .ok (.invokevirtual 191, 3) := by decide +kernel
theorem dX0_unary_179 : decode cX0_unary 179 = .ok (.ifCond .eq 11, 3) := by decide +kernel
theorem dX0_unary_182 : decode cX0_unary 182 = .ok (.aload_n 0, 1) := by decide +kernel
theorem dX0_unary_183 : decode cX0_unary 183 = .ok (.iload_n 2, 1) := by decide +kernel
theorem dX0_unary_184 : decode cX0_unary 184 = .ok (.invokevirtual 197, 3) := by decide +kernel
theorem dX0_unary_187 : decode cX0_unary 187 = .ok (.goto 5, 3) := by decide +kernel
theorem dX0_unary_190 : decode cX0_unary 190 = .ok (.ldc 56, 2) := by decide +kernel
theorem dX0_unary_192 : decode cX0_unary 192 = .ok (.ireturn, 1) := by decide +kernel
theorem dX0_unary_193 : decode cX0_unary 193 = .ok (.iload_n 3, 1) := by decide +kernel
theorem dX0_unary_194 : decode cX0_unary 194 = .ok (.bipush 6, 2) := by decide +kernel
theorem dX0_unary_196 : decode cX0_unary 196 = .ok (.if_icmp .ne 11, 3) := by decide +kernel
theorem dX0_unary_199 : decode cX0_unary 199 = .ok (.aload_n 0, 1) := by decide +kernel
theorem dX0_unary_200 : decode cX0_unary 200 = .ok (.iload_n 2, 1) := by decide +kernel
theorem dX0_unary_201 : decode cX0_unary 201 = .ok (.invokevirtual 200, 3) := by decide +kernel
theorem dX0_unary_204 : decode cX0_unary 204 = .ok (.goto 5, 3) := by decide +kernel
theorem dX0_unary_207 : decode cX0_unary 207 = .ok (.ldc 56, 2) := by decide +kernel
theorem dX0_unary_209 : decode cX0_unary 209 = .ok (.ireturn, 1) := by decide +kernel
theorem dX0_unary_210 : decode cX0_unary 210 = .ok (.aload_n 0, 1) := by decide +kernel
theorem dX0_unary_211 : decode cX0_unary 211 = .ok (.getfield 30, 3) := by decide +kernel
theorem dX0_unary_214 : decode cX0_unary 214 = .ok (.iload_n 3, 1) := by decide +kernel
theorem dX0_unary_215 : decode cX0_unary 215 = .ok (.invokestatic 203, 3) := by decide +kernel
theorem dX0_unary_218 : decode cX0_unary 218 = .ok (.invokevirtual 207, 3) := by decide +kernel
theorem dX0_unary_221 : decode cX0_unary 221 = .ok (.ireturn, 1) := by decide +kernel
theorem dX0_unary_222 : decode cX0_unary 222 = .ok (.aload_n 0, 1) := by decide +kernel
theorem dX0_unary_223 : decode cX0_unary 223 = .ok (.getfield 30, 3) := by decide +kernel
theorem dX0_unary_226 : decode cX0_unary 226 = .ok (.iload_n 2, 1) := by decide +kernel
theorem dX0_unary_227 : decode cX0_unary 227 = .ok (.invokevirtual 213, 3) := by decide +kernel
theorem dX0_unary_230 : decode cX0_unary 230 = .ok (.aload_n 0, 1) := by decide +kernel
theorem dX0_unary_231 : decode cX0_unary 231 = .ok (.getfield 30, 3) := by decide +kernel
theorem dX0_unary_234 : decode cX0_unary 234 = .ok (.invokevirtual 217, 3) := by decide +kernel
theorem dX0_unary_237 : decode cX0_unary 237 = .ok (.ireturn, 1) := by decide +kernel
theorem dX0_unary_238 : decode cX0_unary 238 = .ok (.iload_n 3, 1) := by decide +kernel
theorem dX0_unary_239 : decode cX0_unary 239 = .ok (.iconst 2, 1) := by decide +kernel
theorem dX0_unary_240 : decode cX0_unary 240 = .ok (.if_icmp .ne 11, 3) := by decide +kernel
theorem dX0_unary_243 : decode cX0_unary 243 = .ok (.aload_n 0, 1) := by decide +kernel
theorem dX0_unary_244 : decode cX0_unary 244 = .ok (.iload_n 2, 1) := by decide +kernel
theorem dX0_unary_245 : decode cX0_unary 245 = .ok (.invokevirtual 221, 3) := by decide +kernel
theorem dX0_unary_248 : decode cX0_unary 248 = .ok (.goto 5, 3) := by decide +kernel
theorem dX0_unary_251 : decode cX0_unary 251 = .ok (.ldc 56, 2) := by decide +kernel
theorem dX0_unary_253 : decode cX0_unary 253 = .ok (.ireturn, 1) := by decide +kernel
theorem dX0_unary_254 : decode cX0_unary 254 = .ok (.iload_n 3, 1) := by decide +kernel
theorem dX0_unary_255 : decode cX0_unary 255 = .ok (.iconst 4, 1) := by decide +kernel
theorem dX0_unary_256 : decode cX0_unary 256 = .ok (.if_icmp .ne 11, 3) := by decide +kernel
theorem dX0_unary_259 : decode cX0_unary 259 = .ok (.aload_n 0, 1) := by decide +kernel
theorem dX0_unary_260 : decode cX0_unary 260 = .ok (.iload_n 2, 1) := by decide +kernel
theorem dX0_unary_261 : decode cX0_unary 261 = .ok (.invokevirtual 224, 3) := by decide +kernel
theorem dX0_unary_264 : decode cX0_unary 264 = .ok (.goto 5, 3) := by decide +kernel
theorem dX0_unary_267 : decode cX0_unary 267 = .ok (.ldc 56, 2) := by decide +kernel
theorem dX0_unary_269 : decode cX0_unary 269 = .ok (.ireturn, 1) := by decide +kernel
theorem dX0_unary_270 : decode cX0_unary 270 = .ok (.iload_n 3, 1) := by decide +kernel
theorem dX0_unary_271 : decode cX0_unary 271 = .ok (.iconst 4, 1) := by decide +kernel
theorem dX0_unary_272 : decode cX0_unary 272 = .ok (.if_icmp .eq 8, 3) := by decide +kernel
theorem dX0_unary_275 : decode cX0_unary 275 = .ok (.iload_n 3, 1) := by decide +kernel
theorem dX0_unary_276 : decode cX0_unary 276 = .ok (.iconst 5, 1) := by decide +kernel
theorem dX0_unary_277 : decode cX0_unary 277 = .ok (.if_icmp .ne 12, 3) := by decide +kernel
theorem dX0_unary_280 : decode cX0_unary 280 = .ok (.aload_n 0, 1) := by decide +kernel
theorem dX0_unary_281 : decode cX0_unary 281 = .ok (.iload_n 2, 1) := by decide +kernel
theorem dX0_unary_282 : decode cX0_unary 282 = .ok (.iload_n 3, 1) := by decide +kernel
theorem dX0_unary_283 : decode cX0_unary 283 = .ok (.invokevirtual 227, 3) := by decide +kernel
theorem dX0_unary_286 : decode cX0_unary 286 = .ok (.goto 5, 3) := by decide +kernel
theorem dX0_unary_289 : decode cX0_unary 289 = .ok (.ldc 56, 2) := by decide +kernel
theorem dX0_unary_291 : decode cX0_unary 291 = .ok (.ireturn, 1) := by decide +kernel
theorem dX10_readDigits_0 : decode cX10_readDigits 0 = .ok (.iconst 0, 1) := by decide +kernel
theorem dX10_readDigits_1 : decode cX10_readDigits 1 = .ok (.istore 4, 2) := by decide +kernel
theorem dX10_readDigits_3 : decode cX10_readDigits 3 = .ok (.iload_n 2, 1) := by decide +kernel
theorem dX10_readDigits_4 : decode cX10_readDigits 4 = .ok (.istore 5, 2) := by decide +kernel
theorem dX10_readDigits_6 : decode cX10_readDigits 6 = .ok (.iload 5, 2) := by decide +kernel
theorem dX10_readDigits_8 : decode cX10_readDigits 8 = .ok (.iload_n 3, 1) := by decide +kernel
theorem dX10_readDigits_9 : decode cX10_readDigits 9 = .ok (.if_icmp .ge 100, 3) := by decide +kernel
theorem dX10_readDigits_12 : decode cX10_readDigits 12 = .ok (.aload_n 1, 1) := by decide +kernel
theorem dX10_readDigits_13 : decode cX10_readDigits 13 = .ok (.iload 5, 2) := by decide +kernel
theorem dX10_readDigits_15 : decode cX10_readDigits 15 = .ok (.baload, 1) := by decide +kernel
theorem dX10_readDigits_16 : decode cX10_readDigits 16 = .ok (.bipush 48, 2) := by decide +kernel
theorem dX10_readDigits_18 : decode cX10_readDigits 18 = .ok (.isub, 1) := by decide +kernel
theorem dX10_readDigits_19 : decode cX10_readDigits 19 = .ok (.i2l, 1) := by decide +kernel
theorem dX10_readDigits_20 : decode cX10_readDigits 20 = .ok (.lstore 6, 2) := by decide +kernel
theorem dX10_readDigits_22 : decode cX10_readDigits 22 = .ok (.iconst 0, 1) := by decide +kernel
theorem dX10_readDigits_23 : decode cX10_readDigits 23 = .ok (.istore 8, 2) := by decide +kernel
theorem dX10_readDigits_25 : decode cX10_readDigits 25 = .ok (.iload 8, 2) := by decide +kernel
theorem dX10_readDigits_27 : decode cX10_readDigits 27 = .ok (.iload 4, 2) := by decide +kernel
theorem dX10_readDigits_29 : decode cX10_readDigits 29 = .ok (.if_icmp .ge 47, 3) := by decide +kernel
theorem dX10_readDigits_32 : decode cX10_readDigits 32 = .ok (.lload 6, 2) := by decide +kernel
theorem dX10_readDigits_34 : decode cX10_readDigits 34 = .ok (.aload_n 0, 1) := by decide +kernel
theorem dX10_readDigits_35 : decode cX10_readDigits 35 = .ok (.getfield 18, 3) := by decide +kernel
theorem dX10_readDigits_38 : decode cX10_readDigits 38 = .ok (.iload 8, 2) := by decide +kernel
theorem dX10_readDigits_40 : decode cX10_readDigits 40 = .ok (.iaload, 1) := by decide +kernel
theorem dX10_readDigits_41 : decode cX10_readDigits 41 = .ok (.i2l, 1) := by decide +kernel
theorem dX10_readDigits_42 : decode cX10_readDigits 42 = .ok (.ldc2_w 105, 3) := by decide +kernel
theorem dX10_readDigits_45 : decode cX10_readDigits 45 = .ok (.land, 1) := by decide +kernel
theorem dX10_readDigits_46 : decode cX10_readDigits 46 = .ok (.ldc2_w 167, 3) := by decide +kernel
theorem dX10_readDigits_49 : decode cX10_readDigits 49 = .ok (.lmul, 1) := by decide +kernel
theorem dX10_readDigits_50 : decode cX10_readDigits 50 = .ok (.ladd, 1) := by decide +kernel
theorem dX10_readDigits_51 : decode cX10_readDigits 51 = .ok (.lstore 6, 2) := by decide +kernel
theorem dX10_readDigits_53 : decode cX10_readDigits 53 = .ok (.aload_n 0, 1) := by decide +kernel
theorem dX10_readDigits_54 : decode cX10_readDigits 54 = .ok (.getfield 18, 3) := by decide +kernel
theorem dX10_readDigits_57 : decode cX10_readDigits 57 = .ok (.iload 8, 2) := by decide +kernel
theorem dX10_readDigits_59 : decode cX10_readDigits 59 = .ok (.lload 6, 2) := by decide +kernel
theorem dX10_readDigits_61 : decode cX10_readDigits 61 = .ok (.l2i, 1) := by decide +kernel
theorem dX10_readDigits_62 : decode cX10_readDigits 62 = .ok (.iastore, 1) := by decide +kernel
theorem dX10_readDigits_63 : decode cX10_readDigits 63 = .ok (.lload 6, 2) := by decide +kernel
theorem dX10_readDigits_65 : decode cX10_readDigits 65 = .ok (.bipush 32, 2) := by decide +kernel
theorem dX10_readDigits_67 : decode cX10_readDigits 67 = .ok (.lushr, 1) := by decide +kernel
theorem dX10_readDigits_68 : decode cX10_readDigits 68 = .ok (.lstore 6, 2) := by decide +kernel
theorem dX10_readDigits_70 : decode cX10_readDigits 70 = .ok (.iinc 8 1, 3) := by decide +kernel
theorem dX10_readDigits_73 : decode cX10_readDigits 73 = .ok (.goto (-48), 3) := by decide +kernel
theorem dX10_readDigits_76 : decode cX10_readDigits 76 = .ok (.lload 6, 2) := by decide +kernel
theorem dX10_readDigits_78 : decode cX10_readDigits 78 = .ok (.lconst 0, 1) := by decide +kernel
theorem dX10_readDigits_79 : decode cX10_readDigits 79 = .ok (.lcmp, 1) := by decide +kernel
theorem dX10_readDigits_80 : decode cX10_readDigits 80 = .ok (.ifCond .eq 23, 3) := by decide +kernel
theorem dX10_readDigits_83 : decode cX10_readDigits 83 = .ok (.iload 4, 2) := by decide +kernel
theorem dX10_readDigits_85 : decode cX10_readDigits 85 = .ok (.bipush 32, 2) := by decide +kernel
theorem dX10_readDigits_87 : decode cX10_readDigits 87 = .ok (.if_icmp .ge 16, 3) := by decide +kernel
theorem dX10_readDigits_90 : decode cX10_readDigits 90 = .ok (.aload_n 0, 1) := by decide +kernel
theorem dX10_readDigits_91 : decode cX10_readDigits 91 = .ok (.getfield 18, 3) := by decide +kernel
theorem dX10_readDigits_94 : decode cX10_readDigits 94 = .ok (.iload 4, 2) := by decide +kernel
theorem dX10_readDigits_96 : decode cX10_readDigits 96 = .ok (.lload 6, 2) := by decide +kernel
theorem dX10_readDigits_98 : decode cX10_readDigits 98 = .ok (.l2i, 1) := by decide +kernel
theorem dX10_readDigits_99 : decode cX10_readDigits 99 = .ok (.iastore, 1) := by decide +kernel
theorem dX10_readDigits_100 : decode cX10_readDigits 100 = .ok (.iinc 4 1, 3) := by decide +kernel
theorem dX10_readDigits_103 : decode cX10_readDigits 103 = .ok (.iinc 5 1, 3) := by decide +kernel
theorem dX10_readDigits_106 : decode cX10_readDigits 106 = .ok (.goto (-100), 3) := by decide +kernel
theorem dX10_readDigits_109 : decode cX10_readDigits 109 = .ok (.aload_n 0, 1) := by decide +kernel
theorem dX10_readDigits_110 : decode cX10_readDigits 110 = .ok (.iload 4, 2) := by decide +kernel
theorem dX10_readDigits_112 : decode cX10_readDigits 112 = .ok (.putfield 169, 3) := by decide +kernel
theorem dX10_readDigits_115 : decode cX10_readDigits 115 = .ok (.iload 4, 2) := by decide +kernel
theorem dX10_readDigits_117 : decode cX10_readDigits 117 = .ok (.ireturn, 1) := by decide +kernel
theorem dX10_writeChunk_0 : decode cX10_writeChunk 0 = .ok (.bipush 9, 2) := by decide +kernel
theorem dX10_writeChunk_2 : decode cX10_writeChunk 2 = .ok (.istore 4, 2) := by decide +kernel
theorem dX10_writeChunk_4 : decode cX10_writeChunk 4 = .ok (.ldc 182, 2) := by decide +kernel
theorem dX10_writeChunk_6 : decode cX10_writeChunk 6 = .ok (.istore 5, 2) := by decide +kernel
theorem dX10_writeChunk_8 : decode cX10_writeChunk 8 = .ok (.iconst 0, 1) := by decide +kernel
theorem dX10_writeChunk_9 : decode cX10_writeChunk 9 = .ok (.istore 6, 2) := by decide +kernel
theorem dX10_writeChunk_11 : decode cX10_writeChunk 11 = .ok (.iload_n 1, 1) := by decide +kernel
theorem dX10_writeChunk_12 : decode cX10_writeChunk 12 = .ok (.ifCond .eq 32, 3) := by decide +kernel
theorem dX10_writeChunk_15 : decode cX10_writeChunk 15 = .ok (.iload 6, 2) := by decide +kernel
theorem dX10_writeChunk_17 : decode cX10_writeChunk 17 = .ok (.bipush 8, 2) := by decide +kernel
theorem dX10_writeChunk_19 : decode cX10_writeChunk 19 = .ok (.if_icmp .ge 25, 3) := by decide +kernel
theorem dX10_writeChunk_22 : decode cX10_writeChunk 22 = .ok (.iload_n 0, 1) := by decide +kernel
theorem dX10_writeChunk_23 : decode cX10_writeChunk 23 = .ok (.iload 5, 2) := by decide +kernel
theorem dX10_writeChunk_25 : decode cX10_writeChunk 25 = .ok (.if_icmp .ge 19, 3) := by decide +kernel
theorem dX10_writeChunk_28 : decode cX10_writeChunk 28 = .ok (.iload 5, 2) := by decide +kernel
theorem dX10_writeChunk_30 : decode cX10_writeChunk 30 = .ok (.bipush 10, 2) := by decide +kernel
theorem dX10_writeChunk_32 : decode cX10_writeChunk 32 = .ok (.idiv, 1) := by decide +kernel
theorem dX10_writeChunk_33 : decode cX10_writeChunk 33 = .ok (.istore 5, 2) := by decide +kernel
theorem dX10_writeChunk_35 : decode cX10_writeChunk 35 = .ok (.iinc 4 (-1), 3) := by decide +kernel
theorem dX10_writeChunk_38 : decode cX10_writeChunk 38 = .ok (.iinc 6 1, 3) := by decide +kernel
theorem dX10_writeChunk_41 : decode cX10_writeChunk 41 = .ok (.goto (-30), 3) := by decide +kernel
theorem dX10_writeChunk_44 : decode cX10_writeChunk 44 = .ok (.iload_n 0, 1) := by decide +kernel
theorem dX10_writeChunk_45 : decode cX10_writeChunk 45 = .ok (.istore 6, 2) := by decide +kernel
theorem dX10_writeChunk_47 : decode cX10_writeChunk 47 = .ok (.iload 4, 2) := by decide +kernel
theorem dX10_writeChunk_49 : decode cX10_writeChunk 49 = .ok (.iconst 1, 1) := by decide +kernel
theorem dX10_writeChunk_50 : decode cX10_writeChunk 50 = .ok (.isub, 1) := by decide +kernel
theorem dX10_writeChunk_51 : decode cX10_writeChunk 51 = .ok (.istore 7, 2) := by decide +kernel
theorem dX10_writeChunk_53 : decode cX10_writeChunk 53 = .ok (.iload 7, 2) := by decide +kernel
theorem dX10_writeChunk_55 : decode cX10_writeChunk 55 = .ok (.ifCond .lt 31, 3) := by decide +kernel
theorem dX10_writeChunk_58 : decode cX10_writeChunk 58 = .ok (.aload_n 2, 1) := by decide +kernel
theorem dX10_writeChunk_59 : decode cX10_writeChunk 59 = .ok (.iload_n 3, 1) := by decide +kernel
theorem dX10_writeChunk_60 : decode cX10_writeChunk 60 = .ok (.iload 7, 2) := by decide +kernel
theorem dX10_writeChunk_62 : decode cX10_writeChunk 62 = .ok (.iadd, 1) := by decide +kernel
theorem dX10_writeChunk_63 : decode cX10_writeChunk 63 = .ok (.bipush 48, 2) := by decide +kernel
theorem dX10_writeChunk_65 : decode cX10_writeChunk 65 = .ok (.iload 6, 2) := by decide +kernel
theorem dX10_writeChunk_67 : decode cX10_writeChunk 67 = .ok (.bipush 10, 2) := by decide +kernel
theorem dX10_writeChunk_69 : decode cX10_writeChunk 69 = .ok (.irem, 1) := by decide +kernel
theorem dX10_writeChunk_70 : decode cX10_writeChunk 70 = .ok (.iadd, 1) := by decide +kernel
theorem dX10_writeChunk_71 : decode cX10_writeChunk 71 = .ok (.i2b, 1) := by decide +kernel
theorem dX10_writeChunk_72 : decode cX10_writeChunk 72 = .ok (.bastore, 1) := by decide +kernel
theorem dX10_writeChunk_73 : decode cX10_writeChunk 73 = .ok (.iload 6, 2) := by decide +kernel
theorem dX10_writeChunk_75 : decode cX10_writeChunk 75 = .ok (.bipush 10, 2) := by decide +kernel
theorem dX10_writeChunk_77 : decode cX10_writeChunk 77 = .ok (.idiv, 1) := by decide +kernel
theorem dX10_writeChunk_78 : decode cX10_writeChunk 78 = .ok (.istore 6, 2) := by decide +kernel
theorem dX10_writeChunk_80 : decode cX10_writeChunk 80 = .ok (.iinc 7 (-1), 3) := by decide +kernel
theorem dX10_writeChunk_83 : decode cX10_writeChunk 83 = .ok (.goto (-30), 3) := by decide +kernel
theorem dX10_writeChunk_86 : decode cX10_writeChunk 86 = .ok (.iload_n 3, 1) := by decide +kernel
theorem dX10_writeChunk_87 : decode cX10_writeChunk 87 = .ok (.iload 4, 2) := by decide +kernel
theorem dX10_writeChunk_89 : decode cX10_writeChunk 89 = .ok (.iadd, 1) := by decide +kernel
theorem dX10_writeChunk_90 : decode cX10_writeChunk 90 = .ok (.ireturn, 1) := by decide +kernel
theorem dX10_writeDigits_0 : decode cX10_writeDigits 0 = .ok (.iload_n 3, 1) := by decide +kernel
theorem dX10_writeDigits_1 : decode cX10_writeDigits 1 = .ok (.istore 4, 2) := by decide +kernel
theorem dX10_writeDigits_3 : decode cX10_writeDigits 3 = .ok (.iload 4, 2) := by decide +kernel
theorem dX10_writeDigits_5 : decode cX10_writeDigits 5 = .ok (.ifCond .lt 14, 3) := by decide +kernel
theorem dX10_writeDigits_8 : decode cX10_writeDigits 8 = .ok (.iload 4, 2) := by decide +kernel
theorem dX10_writeDigits_10 : decode cX10_writeDigits 10 = .ok (.aload_n 2, 1) := by decide +kernel
theorem dX10_writeDigits_11 : decode cX10_writeDigits 11 = .ok (.arraylength, 1) := by decide +kernel
theorem dX10_writeDigits_12 : decode cX10_writeDigits 12 = .ok (.sipush 320, 3) := by decide +kernel
theorem dX10_writeDigits_15 : decode cX10_writeDigits 15 = .ok (.isub, 1) := by decide +kernel
theorem dX10_writeDigits_16 : decode cX10_writeDigits 16 = .ok (.if_icmp .le 6, 3) := by decide +kernel
theorem dX10_writeDigits_19 : decode cX10_writeDigits 19 = .ok (.iload 4, 2) := by decide +kernel
theorem dX10_writeDigits_21 : decode cX10_writeDigits 21 = .ok (.ireturn, 1) := by decide +kernel
theorem dX10_writeDigits_22 : decode cX10_writeDigits 22 = .ok (.aload_n 0, 1) := by decide +kernel
theorem dX10_writeDigits_23 : decode cX10_writeDigits 23 = .ok (.iload_n 1, 1) := by decide +kernel
theorem dX10_writeDigits_24 : decode cX10_writeDigits 24 = .ok (.invokevirtual 68, 3) := by decide +kernel
theorem dX10_writeDigits_27 : decode cX10_writeDigits 27 = .ok (.ifCond .eq 12, 3) := by decide +kernel
theorem dX10_writeDigits_30 : decode cX10_writeDigits 30 = .ok (.aload_n 2, 1) := by decide +kernel
theorem dX10_writeDigits_31 : decode cX10_writeDigits 31 = .ok (.iload 4, 2) := by decide +kernel
theorem dX10_writeDigits_33 : decode cX10_writeDigits 33 = .ok (.bipush 45, 2) := by decide +kernel
theorem dX10_writeDigits_35 : decode cX10_writeDigits 35 = .ok (.bastore, 1) := by decide +kernel
theorem dX10_writeDigits_36 : decode cX10_writeDigits 36 = .ok (.iinc 4 1, 3) := by decide +kernel
theorem dX10_writeDigits_39 : decode cX10_writeDigits 39 = .ok (.aload_n 0, 1) := by decide +kernel
theorem dX10_writeDigits_40 : decode cX10_writeDigits 40 = .ok (.iload_n 1, 1) := by decide +kernel
theorem dX10_writeDigits_41 : decode cX10_writeDigits 41 = .ok (.aload_n 0, 1) := by decide +kernel
theorem dX10_writeDigits_42 : decode cX10_writeDigits 42 = .ok (.getfield 9, 3) := by decide +kernel
theorem dX10_writeDigits_45 : decode cX10_writeDigits 45 = .ok (.invokevirtual 64, 3) := by decide +kernel
theorem dX10_writeDigits_48 : decode cX10_writeDigits 48 = .ok (.istore 5, 2) := by decide +kernel
theorem dX10_writeDigits_50 : decode cX10_writeDigits 50 = .ok (.iconst 0, 1) := by decide +kernel
theorem dX10_writeDigits_51 : decode cX10_writeDigits 51 = .ok (.istore 6, 2) := by decide +kernel
theorem dX10_writeDigits_53 : decode cX10_writeDigits 53 = .ok (.iconst 0, 1) := by decide +kernel
theorem dX10_writeDigits_54 : decode cX10_writeDigits 54 = .ok (.istore 7, 2) := by decide +kernel
theorem dX10_writeDigits_56 : decode cX10_writeDigits 56 = .ok (.iload 7, 2) := by decide +kernel
theorem dX10_writeDigits_58 : decode cX10_writeDigits 58 = .ok (.aload_n 0, 1) := by decide +kernel
theorem dX10_writeDigits_59 : decode cX10_writeDigits 59 = .ok (.getfield 30, 3) := by decide +kernel
theorem dX10_writeDigits_62 : decode cX10_writeDigits 62 = .ok (.arraylength, 1) := by decide +kernel
theorem dX10_writeDigits_63 : decode cX10_writeDigits 63 = .ok (.if_icmp .ge 63, 3) := by decide +kernel
theorem dX10_writeDigits_66 : decode cX10_writeDigits 66 = .ok (.iload 5, 2) := by decide +kernel
theorem dX10_writeDigits_68 : decode cX10_writeDigits 68 = .ok (.ifCond .gt 8, 3) := by decide +kernel
theorem dX10_writeDigits_71 : decode cX10_writeDigits 71 = .ok (.iload 7, 2) := by decide +kernel
theorem dX10_writeDigits_73 : decode cX10_writeDigits 73 = .ok (.ifCond .ne 53, 3) := by decide +kernel
theorem dX10_writeDigits_76 : decode cX10_writeDigits 76 = .ok (.aload_n 0, 1) := by decide +kernel
theorem dX10_writeDigits_77 : decode cX10_writeDigits 77 = .ok (.getfield 30, 3) := by decide +kernel
theorem dX10_writeDigits_80 : decode cX10_writeDigits 80 = .ok (.iload 6, 2) := by decide +kernel
theorem dX10_writeDigits_82 : decode cX10_writeDigits 82 = .ok (.aload_n 0, 1) := by decide +kernel
theorem dX10_writeDigits_83 : decode cX10_writeDigits 83 = .ok (.iload 5, 2) := by decide +kernel
theorem dX10_writeDigits_85 : decode cX10_writeDigits 85 = .ok (.invokevirtual 173, 3) := by decide +kernel
theorem dX10_writeDigits_88 : decode cX10_writeDigits 88 = .ok (.iastore, 1) := by decide +kernel
theorem dX10_writeDigits_89 : decode cX10_writeDigits 89 = .ok (.iinc 6 1, 3) := by decide +kernel
theorem dX10_writeDigits_92 : decode cX10_writeDigits 92 = .ok (.iload 5, 2) := by decide +kernel
theorem dX10_writeDigits_94 : decode cX10_writeDigits 94 = .ok (.ifCond .le 22, 3) := by decide +kernel
theorem dX10_writeDigits_97 : decode cX10_writeDigits 97 = .ok (.aload_n 0, 1) := by decide +kernel
theorem dX10_writeDigits_98 : decode cX10_writeDigits 98 = .ok (.getfield 9, 3) := by decide +kernel
theorem dX10_writeDigits_101 : decode cX10_writeDigits 101 = .ok (.iload 5, 2) := by decide +kernel
theorem dX10_writeDigits_103 : decode cX10_writeDigits 103 = .ok (.iconst 1, 1) := by decide +kernel
theorem dX10_writeDigits_104 : decode cX10_writeDigits 104 = .ok (.isub, 1) := by decide +kernel
theorem dX10_writeDigits_105 : decode cX10_writeDigits 105 = .ok (.iaload, 1) := by decide +kernel
theorem dX10_writeDigits_106 : decode cX10_writeDigits 106 = .ok (.ifCond .ne 10, 3) := by decide +kernel
theorem dX10_writeDigits_109 : decode cX10_writeDigits 109 = .ok (.iload 5, 2) := by decide +kernel
theorem dX10_writeDigits_111 : decode cX10_writeDigits 111 = .ok (.iconst 1, 1) := by decide +kernel
theorem dX10_writeDigits_112 : decode cX10_writeDigits 112 = .ok (.isub, 1) := by decide +kernel
theorem dX10_writeDigits_113 : decode cX10_writeDigits 113 = .ok (.goto 5, 3) := by decide +kernel
theorem dX10_writeDigits_116 : decode cX10_writeDigits 116 = .ok (.iload 5, 2) := by decide +kernel
theorem dX10_writeDigits_118 : decode cX10_writeDigits 118 = .ok (.istore 5, 2) := by decide +kernel
theorem dX10_writeDigits_120 : decode cX10_writeDigits 120 = .ok (.iinc 7 1, 3) := by decide +kernel
theorem dX10_writeDigits_123 : decode cX10_writeDigits 123 = .ok (.goto (-67), 3) := by decide +kernel
theorem dX10_writeDigits_126 : decode cX10_writeDigits 126 = .ok (.iload 6, 2) := by decide +kernel
theorem dX10_writeDigits_128 : decode cX10_writeDigits 128 = .ok (.iconst 1, 1) := by decide +kernel
theorem dX10_writeDigits_129 : decode cX10_writeDigits 129 = .ok (.isub, 1) := by decide +kernel
theorem dX10_writeDigits_130 : decode cX10_writeDigits 130 = .ok (.istore 7, 2) := by decide +kernel
theorem dX10_writeDigits_132 : decode cX10_writeDigits 132 = .ok (.iload 7, 2) := by decide +kernel
theorem dX10_writeDigits_134 : decode cX10_writeDigits 134 = .ok (.ifCond .lt 38, 3) := by decide +kernel
theorem dX10_writeDigits_137 : decode cX10_writeDigits 137 = .ok (.aload_n 0, 1) := by decide +kernel
theorem dX10_writeDigits_138 : decode cX10_writeDigits 138 = .ok (.getfield 30, 3) := by decide +kernel
theorem dX10_writeDigits_141 : decode cX10_writeDigits 141 = .ok (.iload 7, 2) := by decide +kernel
theorem dX10_writeDigits_143 : decode cX10_writeDigits 143 = .ok (.iaload, 1) := by decide +kernel
theorem dX10_writeDigits_144 : decode cX10_writeDigits 144 = .ok (.iload 7, 2) := by decide +kernel
theorem dX10_writeDigits_146 : decode cX10_writeDigits 146 = .ok (.iload 6, 2) := by decide +kernel
theorem dX10_writeDigits_148 : decode cX10_writeDigits 148 = .ok (.iconst 1, 1) := by decide +kernel
theorem dX10_writeDigits_149 : decode cX10_writeDigits 149 = .ok (.isub, 1) := by decide +kernel
theorem dX10_writeDigits_150 : decode cX10_writeDigits 150 = .ok (.if_icmp .ne 7, 3) := by decide +kernel
theorem dX10_writeDigits_153 : decode cX10_writeDigits 153 = .ok (.iconst 1, 1) := by decide +kernel
theorem dX10_writeDigits_154 : decode cX10_writeDigits 154 = .ok (.goto 4, 3) := by decide +kernel
theorem dX10_writeDigits_157 : decode cX10_writeDigits 157 = .ok (.iconst 0, 1) := by decide +kernel
theorem dX10_writeDigits_158 : decode cX10_writeDigits 158 = .ok (.aload_n 2, 1) := by decide +kernel
theorem dX10_writeDigits_159 : decode cX10_writeDigits 159 = .ok (.iload 4, 2) := by decide +kernel
theorem dX10_writeDigits_161 : decode cX10_writeDigits 161 = .ok (.invokestatic 176, 3) := by decide +kernel
theorem dX10_writeDigits_164 : decode cX10_writeDigits 164 = .ok (.istore 4, 2) := by decide +kernel
theorem dX10_writeDigits_166 : decode cX10_writeDigits 166 = .ok (.iinc 7 (-1), 3) := by decide +kernel
theorem dX10_writeDigits_169 : decode cX10_writeDigits 169 = .ok (.goto (-37), 3) := by decide +kernel
theorem dX10_writeDigits_172 : decode cX10_writeDigits 172 = .ok (.iload 4, 2) := by decide +kernel
theorem dX10_writeDigits_174 : decode cX10_writeDigits 174 = .ok (.ireturn, 1) := by decide +kernel
theorem dX11_back_0 : decode cX11_back 0 = .ok (.aload_n 0, 1) := by decide +kernel
theorem dX11_back_1 : decode cX11_back 1 = .ok (.invokevirtual 175, 3) := by decide +kernel
theorem dX11_back_4 : decode cX11_back 4 = .ok (.iload_n 1, 1) := by decide +kernel
theorem dX11_back_5 : decode cX11_back 5 = .ok (.ifCond .lt 17, 3) := by decide +kernel
theorem dX11_back_8 : decode cX11_back 8 = .ok (.iload_n 1, 1) := by decide +kernel
theorem dX11_back_9 : decode cX11_back 9 = .ok (.aload_n 0, 1) := by decide +kernel
theorem dX11_back_10 : decode cX11_back 10 = .ok (.getfield 65, 3) := by decide +kernel
theorem dX11_back_13 : decode cX11_back 13 = .ok (.getfield 178, 3) := by decide +kernel
theorem dX11_back_16 : decode cX11_back 16 = .ok (.getfield 187, 3) := by decide +kernel
theorem dX11_back_19 : decode cX11_back 19 = .ok (.if_icmp .le 11, 3) := by decide +kernel
theorem dX11_back_22 : decode cX11_back 22 = .ok (.new 127, 3) := by decide +kernel
theorem dX11_back_25 : decode cX11_back 25 = .ok (.dup, 1) := by decide +kernel
theorem dX11_back_26 : decode cX11_back 26 = .ok (.invokespecial 129, 3) := by decide +kernel
theorem dX11_back_29 : decode cX11_back 29 = .ok (.athrow, 1) := by decide +kernel
theorem dX11_back_30 : decode cX11_back 30 = .ok (.iload_n 1, 1) := by decide +kernel
theorem dX11_back_31 : decode cX11_back 31 = .ok (.ifCond .le 29, 3) := by decide +kernel
theorem dX11_back_34 : decode cX11_back 34 = .ok (.aload_n 0, 1) := by decide +kernel
theorem dX11_back_35 : decode cX11_back 35 = .ok (.getfield 65, 3) := by decide +kernel
theorem dX11_back_38 : decode cX11_back 38 = .ok (.aload_n 0, 1) := by decide +kernel
theorem dX11_back_39 : decode cX11_back 39 = .ok (.getfield 65, 3) := by decide +kernel
theorem dX11_back_42 : decode cX11_back 42 = .ok (.aload_n 0, 1) := by decide +kernel
theorem dX11_back_43 : decode cX11_back 43 = .ok (.getfield 65, 3) := by decide +kernel
theorem dX11_back_46 : decode cX11_back 46 = .ok (.getfield 178, 3) := by decide +kernel
theorem dX11_back_49 : decode cX11_back 49 = .ok (.getfield 187, 3) := by decide +kernel
theorem dX11_back_52 : decode cX11_back 52 = .ok (.iload_n 1, 1) := by decide +kernel
theorem dX11_back_53 : decode cX11_back 53 = .ok (.isub, 1) := by decide +kernel
theorem dX11_back_54 : decode cX11_back 54 = .ok (.invokevirtual 190, 3) := by decide +kernel
theorem dX11_back_57 : decode cX11_back 57 = .ok (.invokevirtual 172, 3) := by decide +kernel
theorem dX11_back_60 : decode cX11_back 60 = .ok (.aload_n 0, 1) := by decide +kernel
theorem dX11_back_61 : decode cX11_back 61 = .ok (.getfield 65, 3) := by decide +kernel
theorem dX11_back_64 : decode cX11_back 64 = .ok (.getfield 178, 3) := by decide +kernel
theorem dX11_back_67 : decode cX11_back 67 = .ok (.getfield 187, 3) := by decide +kernel
theorem dX11_back_70 : decode cX11_back 70 = .ok (.ireturn, 1) := by decide +kernel
theorem dX11_count_0 : decode cX11_count 0 = .ok (.iload_n 1, 1) := by decide +kernel
theorem dX11_count_1 : decode cX11_count 1 = .ok (.tableswitch 74 0 4 #[35, 43, 51, 61, 69], 35) := by decide +kernel
theorem dX11_count_36 : decode cX11_count 36 = .ok (.aload_n 0, 1) := by decide +kernel
theorem dX11_count_37 : decode cX11_count 37 = .ok (.getfield 72, 3) := by decide +kernel
theorem dX11_count_40 : decode cX11_count 40 = .ok (.getfield 115, 3) := by decide +kernel
theorem dX11_count_43 : decode cX11_count 43 = .ok (.ireturn, 1) := by decide +kernel
theorem dX11_count_44 : decode cX11_count 44 = .ok (.aload_n 0, 1) := by decide +kernel
theorem dX11_count_45 : decode cX11_count 45 = .ok (.getfield 88, 3) := by decide +kernel
theorem dX11_count_48 : decode cX11_count 48 = .ok (.getfield 162, 3) := by decide +kernel
theorem dX11_count_51 : decode cX11_count 51 = .ok (.ireturn, 1) := by decide +kernel
theorem dX11_count_52 : decode cX11_count 52 = .ok (.aload_n 0, 1) := by decide +kernel
theorem dX11_count_53 : decode cX11_count 53 = .ok (.getfield 88, 3) := by decide +kernel
theorem dX11_count_56 : decode cX11_count 56 = .ok (.getfield 336, 3) := by decide +kernel
theorem dX11_count_59 : decode cX11_count 59 = .ok (.iconst 0, 1) := by decide +kernel
theorem dX11_count_60 : decode cX11_count 60 = .ok (.iaload, 1) := by decide +kernel
theorem dX11_count_61 : decode cX11_count 61 = .ok (.ireturn, 1) := by decide +kernel
theorem dX11_count_62 : decode cX11_count 62 = .ok (.aload_n 0, 1) := by decide +kernel
theorem dX11_count_63 : decode cX11_count 63 = .ok (.getfield 88, 3) := by decide +kernel
theorem dX11_count_66 : decode cX11_count 66 = .ok (.getfield 339, 3) := by decide +kernel
theorem dX11_count_69 : decode cX11_count 69 = .ok (.ireturn, 1) := by decide +kernel
theorem dX11_count_70 : decode cX11_count 70 = .ok (.aload_n 0, 1) := by decide +kernel
theorem dX11_count_71 : decode cX11_count 71 = .ok (.getfield 159, 3) := by decide +kernel
theorem dX11_count_74 : decode cX11_count 74 = .ok (.ireturn, 1) := by decide +kernel
theorem dX11_count_75 : decode cX11_count 75 = .ok (.new 194, 3) := by decide +kernel
theorem dX11_count_78 : decode cX11_count 78 = .ok (.dup, 1) := by decide +kernel
theorem dX11_count_79 : decode cX11_count 79 = .ok (.invokespecial 196, 3) := by decide +kernel
theorem dX11_count_82 : decode cX11_count 82 = .ok (.athrow, 1) := by decide +kernel
theorem dX11_end_0 : decode cX11_end 0 = .ok (.iload_n 1, 1) := by decide +kernel
theorem dX11_end_1 : decode cX11_end 1 = .ok (.ifCond .lt 14, 3) := by decide +kernel
theorem dX11_end_4 : decode cX11_end 4 = .ok (.iload_n 1, 1) := by decide +kernel
theorem dX11_end_5 : decode cX11_end 5 = .ok (.aload_n 0, 1) := by decide +kernel
theorem dX11_end_6 : decode cX11_end 6 = .ok (.getfield 72, 3) := by decide +kernel
theorem dX11_end_9 : decode cX11_end 9 = .ok (.getfield 115, 3) := by decide +kernel
theorem dX11_end_12 : decode cX11_end 12 = .ok (.if_icmp .le 11, 3) := by decide +kernel
theorem dX11_end_15 : decode cX11_end 15 = .ok (.new 127, 3) := by decide +kernel
theorem dX11_end_18 : decode cX11_end 18 = .ok (.dup, 1) := by decide +kernel
theorem dX11_end_19 : decode cX11_end 19 = .ok (.invokespecial 129, 3) := by decide +kernel
theorem dX11_end_22 : decode cX11_end 22 = .ok (.athrow, 1) := by decide +kernel
theorem dX11_end_23 : decode cX11_end 23 = .ok (.aload_n 0, 1) := by decide +kernel
theorem dX11_end_24 : decode cX11_end 24 = .ok (.getfield 72, 3) := by decide +kernel
theorem dX11_end_27 : decode cX11_end 27 = .ok (.iload_n 1, 1) := by decide +kernel
theorem dX11_end_28 : decode cX11_end 28 = .ok (.putfield 115, 3) := by decide +kernel
theorem dX11_end_31 : decode cX11_end 31 = .ok (.return_, 1) := by decide +kernel
theorem dX11_feed_0 : decode cX11_feed 0 = .ok (.aload_n 0, 1) := by decide +kernel
theorem dX11_feed_1 : decode cX11_feed 1 = .ok (.getfield 72, 3) := by decide +kernel
theorem dX11_feed_4 : decode cX11_feed 4 = .ok (.getfield 115, 3) := by decide +kernel
theorem dX11_feed_7 : decode cX11_feed 7 = .ok (.bipush 20, 2) := by decide +kernel
theorem dX11_feed_9 : decode cX11_feed 9 = .ok (.iadd, 1) := by decide +kernel
theorem dX11_feed_10 : decode cX11_feed 10 = .ok (.ldc 119, 2) := by decide +kernel
theorem dX11_feed_12 : decode cX11_feed 12 = .ok (.if_icmp .le 11, 3) := by decide +kernel
theorem dX11_feed_15 : decode cX11_feed 15 = .ok (.new 120, 3) := by decide +kernel
theorem dX11_feed_18 : decode cX11_feed 18 = .ok (.dup, 1) := by decide +kernel
theorem dX11_feed_19 : decode cX11_feed 19 = .ok (.invokespecial 122, 3) := by decide +kernel
theorem dX11_feed_22 : decode cX11_feed 22 = .ok (.athrow, 1) := by decide +kernel
theorem dX11_feed_23 : decode cX11_feed 23 = .ok (.aload_n 0, 1) := by decide +kernel
theorem dX11_feed_24 : decode cX11_feed 24 = .ok (.getfield 72, 3) := by decide +kernel
theorem dX11_feed_27 : decode cX11_feed 27 = .ok (.iload_n 1, 1) := by decide +kernel
theorem dX11_feed_28 : decode cX11_feed 28 = .ok (.invokevirtual 123, 3) := by decide +kernel
theorem dX11_feed_31 : decode cX11_feed 31 = .ok (.aload_n 0, 1) := by decide +kernel
theorem dX11_feed_32 : decode cX11_feed 32 = .ok (.getfield 72, 3) := by decide +kernel
theorem dX11_feed_35 : decode cX11_feed 35 = .ok (.iload_n 2, 1) := by decide +kernel
theorem dX11_feed_36 : decode cX11_feed 36 = .ok (.invokevirtual 123, 3) := by decide +kernel
theorem dX11_feed_39 : decode cX11_feed 39 = .ok (.aload_n 0, 1) := by decide +kernel
theorem dX11_feed_40 : decode cX11_feed 40 = .ok (.getfield 72, 3) := by decide +kernel
theorem dX11_feed_43 : decode cX11_feed 43 = .ok (.iload_n 3, 1) := by decide +kernel
theorem dX11_feed_44 : decode cX11_feed 44 = .ok (.invokevirtual 123, 3) := by decide +kernel
theorem dX11_feed_47 : decode cX11_feed 47 = .ok (.aload_n 0, 1) := by decide +kernel
theorem dX11_feed_48 : decode cX11_feed 48 = .ok (.getfield 72, 3) := by decide +kernel
theorem dX11_feed_51 : decode cX11_feed 51 = .ok (.iload 4, 2) := by decide +kernel
theorem dX11_feed_53 : decode cX11_feed 53 = .ok (.invokevirtual 123, 3) := by decide +kernel
theorem dX11_feed_56 : decode cX11_feed 56 = .ok (.aload_n 0, 1) := by decide +kernel
theorem dX11_feed_57 : decode cX11_feed 57 = .ok (.getfield 72, 3) := by decide +kernel
theorem dX11_feed_60 : decode cX11_feed 60 = .ok (.iload 5, 2) := by decide +kernel
theorem dX11_feed_62 : decode cX11_feed 62 = .ok (.invokevirtual 123, 3) := by decide +kernel
theorem dX11_feed_65 : decode cX11_feed 65 = .ok (.aload_n 0, 1) := by decide +kernel
theorem dX11_feed_66 : decode cX11_feed 66 = .ok (.getfield 72, 3) := by decide +kernel
theorem dX11_feed_69 : decode cX11_feed 69 = .ok (.getfield 115, 3) := by decide +kernel
theorem dX11_feed_72 : decode cX11_feed 72 = .ok (.ireturn, 1) := by decide +kernel
theorem dX11_out_0 : decode cX11_out 0 = .ok (.aload_n 0, 1) := by decide +kernel
theorem dX11_out_1 : decode cX11_out 1 = .ok (.getfield 156, 3) := by decide +kernel
theorem dX11_out_4 : decode cX11_out 4 = .ok (.ifCond .eq 39, 3) := by decide +kernel
theorem dX11_out_7 : decode cX11_out 7 = .ok (.iload_n 1, 1) := by decide +kernel
theorem dX11_out_8 : decode cX11_out 8 = .ok (.ifCond .lt 35, 3) := by decide +kernel
theorem dX11_out_11 : decode cX11_out 11 = .ok (.iload_n 1, 1) := by decide +kernel
theorem dX11_out_12 : decode cX11_out 12 = .ok (.ldc 224, 2) := by decide +kernel
theorem dX11_out_14 : decode cX11_out 14 = .ok (.if_icmp .ge 29, 3) := by decide +kernel
theorem dX11_out_17 : decode cX11_out 17 = .ok (.iload_n 1, 1) := by decide +kernel
theorem dX11_out_18 : decode cX11_out 18 = .ok (.aload_n 0, 1) := by decide +kernel
theorem dX11_out_19 : decode cX11_out 19 = .ok (.getfield 65, 3) := by decide +kernel
theorem dX11_out_22 : decode cX11_out 22 = .ok (.getfield 178, 3) := by decide +kernel
theorem dX11_out_25 : decode cX11_out 25 = .ok (.getfield 197, 3) := by decide +kernel
theorem dX11_out_28 : decode cX11_out 28 = .ok (.if_icmp .ge 15, 3) := by decide +kernel
theorem dX11_out_31 : decode cX11_out 31 = .ok (.iload_n 1, 1) := by decide +kernel
theorem dX11_out_32 : decode cX11_out 32 = .ok (.aload_n 0, 1) := by decide +kernel
theorem dX11_out_33 : decode cX11_out 33 = .ok (.getfield 65, 3) := by decide +kernel
theorem dX11_out_36 : decode cX11_out 36 = .ok (.getfield 225, 3) := by decide +kernel
theorem dX11_out_39 : decode cX11_out 39 = .ok (.arraylength, 1) := by decide +kernel
theorem dX11_out_40 : decode cX11_out 40 = .ok (.if_icmp .lt 11, 3) := by decide +kernel
theorem dX11_out_43 : decode cX11_out 43 = .ok (.new 194, 3) := by decide +kernel
theorem dX11_out_46 : decode cX11_out 46 = .ok (.dup, 1) := by decide +kernel
theorem dX11_out_47 : decode cX11_out 47 = .ok (.invokespecial 196, 3) := by decide +kernel
theorem dX11_out_50 : decode cX11_out 50 = .ok (.athrow, 1) := by decide +kernel
theorem dX11_out_51 : decode cX11_out 51 = .ok (.aload_n 0, 1) := by decide +kernel
theorem dX11_out_52 : decode cX11_out 52 = .ok (.getfield 65, 3) := by decide +kernel
theorem dX11_out_55 : decode cX11_out 55 = .ok (.getfield 225, 3) := by decide +kernel
theorem dX11_out_58 : decode cX11_out 58 = .ok (.iload_n 1, 1) := by decide +kernel
theorem dX11_out_59 : decode cX11_out 59 = .ok (.baload, 1) := by decide +kernel
theorem dX11_out_60 : decode cX11_out 60 = .ok (.sipush 255, 3) := by decide +kernel
theorem dX11_out_63 : decode cX11_out 63 = .ok (.iand, 1) := by decide +kernel
theorem dX11_out_64 : decode cX11_out 64 = .ok (.ireturn, 1) := by decide +kernel
theorem dX11_program_0 : decode cX11_program 0 = .ok (.aload_n 0, 1) := by decide +kernel
theorem dX11_program_1 : decode cX11_program 1 = .ok (.getfield 92, 3) := by decide +kernel
theorem dX11_program_4 : decode cX11_program 4 = .ok (.aload_n 0, 1) := by decide +kernel
theorem dX11_program_5 : decode cX11_program 5 = .ok (.getfield 88, 3) := by decide +kernel
theorem dX11_program_8 : decode cX11_program 8 = .ok (.invokevirtual 111, 3) := by decide +kernel
theorem dX11_program_11 : decode cX11_program 11 = .ok (.aload_n 0, 1) := by decide +kernel
theorem dX11_program_12 : decode cX11_program 12 = .ok (.getfield 81, 3) := by decide +kernel
theorem dX11_program_15 : decode cX11_program 15 = .ok (.aload_n 0, 1) := by decide +kernel
theorem dX11_program_16 : decode cX11_program 16 = .ok (.getfield 92, 3) := by decide +kernel
theorem dX11_program_19 : decode cX11_program 19 = .ok (.invokevirtual 130, 3) := by decide +kernel
theorem dX11_program_22 : decode cX11_program 22 = .ok (.istore_n 1, 1) := by decide +kernel
theorem dX11_program_23 : decode cX11_program 23 = .ok (.aload_n 0, 1) := by decide +kernel
theorem dX11_program_24 : decode cX11_program 24 = .ok (.getfield 72, 3) := by decide +kernel
theorem dX11_program_27 : decode cX11_program 27 = .ok (.iconst 0, 1) := by decide +kernel
theorem dX11_program_28 : decode cX11_program 28 = .ok (.putfield 115, 3) := by decide +kernel
theorem dX11_program_31 : decode cX11_program 31 = .ok (.aload_n 0, 1) := by decide +kernel
theorem dX11_program_32 : decode cX11_program 32 = .ok (.aload_n 0, 1) := by decide +kernel
theorem dX11_program_33 : decode cX11_program 33 = .ok (.getfield 81, 3) := by decide +kernel
theorem dX11_program_36 : decode cX11_program 36 = .ok (.getfield 134, 3) := by decide +kernel
theorem dX11_program_39 : decode cX11_program 39 = .ok (.putfield 137, 3) := by decide +kernel
theorem dX11_program_42 : decode cX11_program 42 = .ok (.aload_n 0, 1) := by decide +kernel
theorem dX11_program_43 : decode cX11_program 43 = .ok (.getfield 88, 3) := by decide +kernel
theorem dX11_program_46 : decode cX11_program 46 = .ok (.aload_n 0, 1) := by decide +kernel
theorem dX11_program_47 : decode cX11_program 47 = .ok (.getfield 92, 3) := by decide +kernel
theorem dX11_program_50 : decode cX11_program 50 = .ok (.getfield 140, 3) := by decide +kernel
theorem dX11_program_53 : decode cX11_program 53 = .ok (.putfield 140, 3) := by decide +kernel
theorem dX11_program_56 : decode cX11_program 56 = .ok (.iload_n 1, 1) := by decide +kernel
theorem dX11_program_57 : decode cX11_program 57 = .ok (.ifCond .ne 13, 3) := by decide +kernel
theorem dX11_program_60 : decode cX11_program 60 = .ok (.iconst (-1), 1) := by decide +kernel
theorem dX11_program_61 : decode cX11_program 61 = .ok (.aload_n 0, 1) := by decide +kernel
theorem dX11_program_62 : decode cX11_program 62 = .ok (.getfield 81, 3) := by decide +kernel
theorem dX11_program_65 : decode cX11_program 65 = .ok (.getfield 143, 3) := by decide +kernel
theorem dX11_program_68 : decode cX11_program 68 = .ok (.isub, 1) := by decide +kernel
theorem dX11_program_69 : decode cX11_program 69 = .ok (.ireturn, 1) := by decide +kernel
theorem dX11_program_70 : decode cX11_program 70 = .ok (.aload_n 0, 1) := by decide +kernel
theorem dX11_program_71 : decode cX11_program 71 = .ok (.getfield 92, 3) := by decide +kernel
theorem dX11_program_74 : decode cX11_program 74 = .ok (.aload_n 0, 1) := by decide +kernel
theorem dX11_program_75 : decode cX11_program 75 = .ok (.getfield 88, 3) := by decide +kernel
theorem dX11_program_78 : decode cX11_program 78 = .ok (.getfield 146, 3) := by decide +kernel
theorem dX11_program_81 : decode cX11_program 81 = .ok (.invokevirtual 149, 3) := by decide +kernel
theorem dX11_program_84 : decode cX11_program 84 = .ok (.aload_n 0, 1) := by decide +kernel
theorem dX11_program_85 : decode cX11_program 85 = .ok (.getfield 88, 3) := by decide +kernel
theorem dX11_program_88 : decode cX11_program 88 = .ok (.astore_n 2, 1) := by decide +kernel
theorem dX11_program_89 : decode cX11_program 89 = .ok (.aload_n 0, 1) := by decide +kernel
theorem dX11_program_90 : decode cX11_program 90 = .ok (.aload_n 0, 1) := by decide +kernel
theorem dX11_program_91 : decode cX11_program 91 = .ok (.getfield 92, 3) := by decide +kernel
theorem dX11_program_94 : decode cX11_program 94 = .ok (.putfield 88, 3) := by decide +kernel
theorem dX11_program_97 : decode cX11_program 97 = .ok (.aload_n 0, 1) := by decide +kernel
theorem dX11_program_98 : decode cX11_program 98 = .ok (.aload_n 2, 1) := by decide +kernel
theorem dX11_program_99 : decode cX11_program 99 = .ok (.putfield 92, 3) := by decide +kernel
theorem dX11_program_102 : decode cX11_program 102 = .ok (.aload_n 0, 1) := by decide +kernel
theorem dX11_program_103 : decode cX11_program 103 = .ok (.iconst 1, 1) := by decide +kernel
theorem dX11_program_104 : decode cX11_program 104 = .ok (.putfield 152, 3) := by decide +kernel
theorem dX11_program_107 : decode cX11_program 107 = .ok (.aload_n 0, 1) := by decide +kernel
theorem dX11_program_108 : decode cX11_program 108 = .ok (.iconst 0, 1) := by decide +kernel
theorem dX11_program_109 : decode cX11_program 109 = .ok (.putfield 156, 3) := by decide +kernel
theorem dX11_program_112 : decode cX11_program 112 = .ok (.aload_n 0, 1) := by decide +kernel
theorem dX11_program_113 : decode cX11_program 113 = .ok (.iconst 0, 1) := by decide +kernel
theorem dX11_program_114 : decode cX11_program 114 = .ok (.putfield 159, 3) := by decide +kernel
theorem dX11_program_117 : decode cX11_program 117 = .ok (.aload_n 0, 1) := by decide +kernel
theorem dX11_program_118 : decode cX11_program 118 = .ok (.getfield 88, 3) := by decide +kernel
theorem dX11_program_121 : decode cX11_program 121 = .ok (.getfield 162, 3) := by decide +kernel
theorem dX11_program_124 : decode cX11_program 124 = .ok (.ireturn, 1) := by decide +kernel
theorem dX11_round_0 : decode cX11_round 0 = .ok (.aload_n 0, 1) := by decide +kernel
theorem dX11_round_1 : decode cX11_round 1 = .ok (.invokevirtual 175, 3) := by decide +kernel
theorem dX11_round_4 : decode cX11_round 4 = .ok (.iconst 0, 1) := by decide +kernel
theorem dX11_round_5 : decode cX11_round 5 = .ok (.istore_n 1, 1) := by decide +kernel
theorem dX11_round_6 : decode cX11_round 6 = .ok (.iconst 0, 1) := by decide +kernel
theorem dX11_round_7 : decode cX11_round 7 = .ok (.istore_n 2, 1) := by decide +kernel
theorem dX11_round_8 : decode cX11_round 8 = .ok (.iload_n 2, 1) := by decide +kernel
theorem dX11_round_9 : decode cX11_round 9 = .ok (.aload_n 0, 1) := by decide +kernel
theorem dX11_round_10 : decode cX11_round 10 = .ok (.getfield 159, 3) := by decide +kernel
theorem dX11_round_13 : decode cX11_round 13 = .ok (.if_icmp .ge 84, 3) := by decide +kernel
theorem dX11_round_16 : decode cX11_round 16 = .ok (.aload_n 0, 1) := by decide +kernel
theorem dX11_round_17 : decode cX11_round 17 = .ok (.getfield 65, 3) := by decide +kernel
theorem dX11_round_20 : decode cX11_round 20 = .ok (.aload_n 0, 1) := by decide +kernel
theorem dX11_round_21 : decode cX11_round 21 = .ok (.getfield 95, 3) := by decide +kernel
theorem dX11_round_24 : decode cX11_round 24 = .ok (.iload_n 2, 1) := by decide +kernel
theorem dX11_round_25 : decode cX11_round 25 = .ok (.iaload, 1) := by decide +kernel
theorem dX11_round_26 : decode cX11_round 26 = .ok (.invokevirtual 301, 3) := by decide +kernel
theorem dX11_round_29 : decode cX11_round 29 = .ok (.istore_n 3, 1) := by decide +kernel
theorem dX11_round_30 : decode cX11_round 30 = .ok (.aload_n 0, 1) := by decide +kernel
theorem dX11_round_31 : decode cX11_round 31 = .ok (.getfield 56, 3) := by decide +kernel
theorem dX11_round_34 : decode cX11_round 34 = .ok (.iconst 2, 1) := by decide +kernel
theorem dX11_round_35 : decode cX11_round 35 = .ok (.iload_n 3, 1) := by decide +kernel
theorem dX11_round_36 : decode cX11_round 36 = .ok (.invokestatic 307, 3) := by decide +kernel
theorem dX11_round_39 : decode cX11_round 39 = .ok (.ifCond .eq 8, 3) := by decide +kernel
theorem dX11_round_42 : decode cX11_round 42 = .ok (.ldc 106, 2) := by decide +kernel
theorem dX11_round_44 : decode cX11_round 44 = .ok (.goto 4, 3) := by decide +kernel
theorem dX11_round_47 : decode cX11_round 47 = .ok (.iload_n 3, 1) := by decide +kernel
theorem dX11_round_48 : decode cX11_round 48 = .ok (.iastore, 1) := by decide +kernel
theorem dX11_round_49 : decode cX11_round 49 = .ok (.aload_n 0, 1) := by decide +kernel
theorem dX11_round_50 : decode cX11_round 50 = .ok (.getfield 65, 3) := by decide +kernel
theorem dX11_round_53 : decode cX11_round 53 = .ok (.invokevirtual 311, 3) := by decide +kernel
theorem dX11_round_56 : decode cX11_round 56 = .ok (.iload_n 1, 1) := by decide +kernel
theorem dX11_round_57 : decode cX11_round 57 = .ok (.aload_n 0, 1) := by decide +kernel
theorem dX11_round_58 : decode cX11_round 58 = .ok (.iconst 3, 1) := by decide +kernel
theorem dX11_round_59 : decode cX11_round 59 = .ok (.iconst 3, 1) := by decide +kernel
theorem dX11_round_60 : decode cX11_round 60 = .ok (.iload_n 2, 1) := by decide +kernel
theorem dX11_round_61 : decode cX11_round 61 = .ok (.imul, 1) := by decide +kernel
theorem dX11_round_62 : decode cX11_round 62 = .ok (.iadd, 1) := by decide +kernel
theorem dX11_round_63 : decode cX11_round 63 = .ok (.invokevirtual 314, 3) := by decide +kernel
theorem dX11_round_66 : decode cX11_round 66 = .ok (.ifCond .eq 7, 3) := by decide +kernel
theorem dX11_round_69 : decode cX11_round 69 = .ok (.iconst 1, 1) := by decide +kernel
theorem dX11_round_70 : decode cX11_round 70 = .ok (.goto 4, 3) := by decide +kernel
theorem dX11_round_73 : decode cX11_round 73 = .ok (.iconst 0, 1) := by decide +kernel
theorem dX11_round_74 : decode cX11_round 74 = .ok (.iadd, 1) := by decide +kernel
theorem dX11_round_75 : decode cX11_round 75 = .ok (.istore_n 1, 1) := by decide +kernel
theorem dX11_round_76 : decode cX11_round 76 = .ok (.aload_n 0, 1) := by decide +kernel
theorem dX11_round_77 : decode cX11_round 77 = .ok (.getfield 56, 3) := by decide +kernel
theorem dX11_round_80 : decode cX11_round 80 = .ok (.iconst 2, 1) := by decide +kernel
theorem dX11_round_81 : decode cX11_round 81 = .ok (.ldc 106, 2) := by decide +kernel
theorem dX11_round_83 : decode cX11_round 83 = .ok (.iastore, 1) := by decide +kernel
theorem dX11_round_84 : decode cX11_round 84 = .ok (.aload_n 0, 1) := by decide +kernel
theorem dX11_round_85 : decode cX11_round 85 = .ok (.getfield 98, 3) := by decide +kernel
theorem dX11_round_88 : decode cX11_round 88 = .ok (.iload_n 2, 1) := by decide +kernel
theorem dX11_round_89 : decode cX11_round 89 = .ok (.iconst 1, 1) := by decide +kernel
theorem dX11_round_90 : decode cX11_round 90 = .ok (.bastore, 1) := by decide +kernel
theorem dX11_round_91 : decode cX11_round 91 = .ok (.iinc 2 1, 3) := by decide +kernel
theorem dX11_round_94 : decode cX11_round 94 = .ok (.goto (-86), 3) := by decide +kernel
theorem dX11_round_97 : decode cX11_round 97 = .ok (.iload_n 1, 1) := by decide +kernel
theorem dX11_round_98 : decode cX11_round 98 = .ok (.ireturn, 1) := by decide +kernel
theorem dX11_seen_0 : decode cX11_seen 0 = .ok (.iload_n 1, 1) := by decide +kernel
theorem dX11_seen_1 : decode cX11_seen 1 = .ok (.ifCond .lt 20, 3) := by decide +kernel
theorem dX11_seen_4 : decode cX11_seen 4 = .ok (.iload_n 1, 1) := by decide +kernel
theorem dX11_seen_5 : decode cX11_seen 5 = .ok (.aload_n 0, 1) := by decide +kernel
theorem dX11_seen_6 : decode cX11_seen 6 = .ok (.getfield 159, 3) := by decide +kernel
theorem dX11_seen_9 : decode cX11_seen 9 = .ok (.if_icmp .ge 12, 3) := by decide +kernel
theorem dX11_seen_12 : decode cX11_seen 12 = .ok (.iload_n 2, 1) := by decide +kernel
theorem dX11_seen_13 : decode cX11_seen 13 = .ok (.ifCond .lt 8, 3) := by decide +kernel
theorem dX11_seen_16 : decode cX11_seen 16 = .ok (.iload_n 2, 1) := by decide +kernel
theorem dX11_seen_17 : decode cX11_seen 17 = .ok (.iconst 2, 1) := by decide +kernel
theorem dX11_seen_18 : decode cX11_seen 18 = .ok (.if_icmp .le 11, 3) := by decide +kernel
theorem dX11_seen_21 : decode cX11_seen 21 = .ok (.new 194, 3) := by decide +kernel
theorem dX11_seen_24 : decode cX11_seen 24 = .ok (.dup, 1) := by decide +kernel
theorem dX11_seen_25 : decode cX11_seen 25 = .ok (.invokespecial 196, 3) := by decide +kernel
theorem dX11_seen_28 : decode cX11_seen 28 = .ok (.athrow, 1) := by decide +kernel
theorem dX11_seen_29 : decode cX11_seen 29 = .ok (.aload_n 0, 1) := by decide +kernel
theorem dX11_seen_30 : decode cX11_seen 30 = .ok (.getfield 98, 3) := by decide +kernel
theorem dX11_seen_33 : decode cX11_seen 33 = .ok (.iload_n 1, 1) := by decide +kernel
theorem dX11_seen_34 : decode cX11_seen 34 = .ok (.baload, 1) := by decide +kernel
theorem dX11_seen_35 : decode cX11_seen 35 = .ok (.ifCond .ne 11, 3) := by decide +kernel
theorem dX11_seen_38 : decode cX11_seen 38 = .ok (.new 165, 3) := by decide +kernel
theorem dX11_seen_41 : decode cX11_seen 41 = .ok (.dup, 1) := by decide +kernel
theorem dX11_seen_42 : decode cX11_seen 42 = .ok (.invokespecial 167, 3) := by decide +kernel
theorem dX11_seen_45 : decode cX11_seen 45 = .ok (.athrow, 1) := by decide +kernel
theorem dX11_seen_46 : decode cX11_seen 46 = .ok (.aload_n 0, 1) := by decide +kernel
theorem dX11_seen_47 : decode cX11_seen 47 = .ok (.aload_n 0, 1) := by decide +kernel
theorem dX11_seen_48 : decode cX11_seen 48 = .ok (.getfield 56, 3) := by decide +kernel
theorem dX11_seen_51 : decode cX11_seen 51 = .ok (.iconst 3, 1) := by decide +kernel
theorem dX11_seen_52 : decode cX11_seen 52 = .ok (.iconst 3, 1) := by decide +kernel
theorem dX11_seen_53 : decode cX11_seen 53 = .ok (.iload_n 1, 1) := by decide +kernel
theorem dX11_seen_54 : decode cX11_seen 54 = .ok (.imul, 1) := by decide +kernel
theorem dX11_seen_55 : decode cX11_seen 55 = .ok (.iadd, 1) := by decide +kernel
theorem dX11_seen_56 : decode cX11_seen 56 = .ok (.iload_n 2, 1) := by decide +kernel
theorem dX11_seen_57 : decode cX11_seen 57 = .ok (.iadd, 1) := by decide +kernel
theorem dX11_seen_58 : decode cX11_seen 58 = .ok (.iaload, 1) := by decide +kernel
theorem dX11_seen_59 : decode cX11_seen 59 = .ok (.invokevirtual 291, 3) := by decide +kernel
theorem dX11_seen_62 : decode cX11_seen 62 = .ok (.ireturn, 1) := by decide +kernel
theorem dX11_shape_0 : decode cX11_shape 0 = .ok (.iload_n 1, 1) := by decide +kernel
theorem dX11_shape_1 : decode cX11_shape 1 = .ok (.ifCond .lt 8, 3) := by decide +kernel
theorem dX11_shape_4 : decode cX11_shape 4 = .ok (.iload_n 1, 1) := by decide +kernel
theorem dX11_shape_5 : decode cX11_shape 5 = .ok (.iconst 3, 1) := by decide +kernel
theorem dX11_shape_6 : decode cX11_shape 6 = .ok (.if_icmp .le 11, 3) := by decide +kernel
theorem dX11_shape_9 : decode cX11_shape 9 = .ok (.new 194, 3) := by decide +kernel
theorem dX11_shape_12 : decode cX11_shape 12 = .ok (.dup, 1) := by decide +kernel
theorem dX11_shape_13 : decode cX11_shape 13 = .ok (.invokespecial 196, 3) := by decide +kernel
theorem dX11_shape_16 : decode cX11_shape 16 = .ok (.athrow, 1) := by decide +kernel
theorem dX11_shape_17 : decode cX11_shape 17 = .ok (.iload_n 1, 1) := by decide +kernel
theorem dX11_shape_18 : decode cX11_shape 18 = .ok (.iconst 3, 1) := by decide +kernel
theorem dX11_shape_19 : decode cX11_shape 19 = .ok (.if_icmp .ne 8, 3) := by decide +kernel
theorem dX11_shape_22 : decode cX11_shape 22 = .ok (.aload_n 0, 1) := by decide +kernel
theorem dX11_shape_23 : decode cX11_shape 23 = .ok (.getfield 298, 3) := by decide +kernel
theorem dX11_shape_26 : decode cX11_shape 26 = .ok (.ireturn, 1) := by decide +kernel
theorem dX11_shape_27 : decode cX11_shape 27 = .ok (.aload_n 0, 1) := by decide +kernel
theorem dX11_shape_28 : decode cX11_shape 28 = .ok (.getfield 228, 3) := by decide +kernel
theorem dX11_shape_31 : decode cX11_shape 31 = .ok (.ifCond .ne 5, 3) := by decide +kernel
theorem dX11_shape_34 : decode cX11_shape 34 = .ok (.iconst 0, 1) := by decide +kernel
theorem dX11_shape_35 : decode cX11_shape 35 = .ok (.ireturn, 1) := by decide +kernel
theorem dX11_shape_36 : decode cX11_shape 36 = .ok (.aload_n 0, 1) := by decide +kernel
theorem dX11_shape_37 : decode cX11_shape 37 = .ok (.getfield 56, 3) := by decide +kernel
theorem dX11_shape_40 : decode cX11_shape 40 = .ok (.iconst 0, 1) := by decide +kernel
theorem dX11_shape_41 : decode cX11_shape 41 = .ok (.iaload, 1) := by decide +kernel
theorem dX11_shape_42 : decode cX11_shape 42 = .ok (.istore_n 2, 1) := by decide +kernel
theorem dX11_shape_43 : decode cX11_shape 43 = .ok (.aload_n 0, 1) := by decide +kernel
theorem dX11_shape_44 : decode cX11_shape 44 = .ok (.getfield 25, 3) := by decide +kernel
theorem dX11_shape_47 : decode cX11_shape 47 = .ok (.iload_n 2, 1) := by decide +kernel
theorem dX11_shape_48 : decode cX11_shape 48 = .ok (.invokevirtual 321, 3) := by decide +kernel
theorem dX11_shape_51 : decode cX11_shape 51 = .ok (.istore_n 3, 1) := by decide +kernel
theorem dX11_shape_52 : decode cX11_shape 52 = .ok (.iload_n 1, 1) := by decide +kernel
theorem dX11_shape_53 : decode cX11_shape 53 = .ok (.lookupswitch 38 #[(0, 27), (1, 29)], 27) := by decide +kernel
theorem dX11_shape_80 : decode cX11_shape 80 = .ok (.iload_n 3, 1) := by decide +kernel
theorem dX11_shape_81 : decode cX11_shape 81 = .ok (.ireturn, 1) := by decide +kernel
theorem dX11_shape_82 : decode cX11_shape 82 = .ok (.aload_n 0, 1) := by decide +kernel
theorem dX11_shape_83 : decode cX11_shape 83 = .ok (.getfield 25, 3) := by decide +kernel
theorem dX11_shape_86 : decode cX11_shape 86 = .ok (.iload_n 2, 1) := by decide +kernel
theorem dX11_shape_87 : decode cX11_shape 87 = .ok (.invokevirtual 329, 3) := by decide +kernel
theorem dX11_shape_90 : decode cX11_shape 90 = .ok (.ireturn, 1) := by decide +kernel
theorem dX11_shape_91 : decode cX11_shape 91 = .ok (.iload_n 3, 1) := by decide +kernel
theorem dX11_shape_92 : decode cX11_shape 92 = .ok (.iconst 4, 1) := by decide +kernel
theorem dX11_shape_93 : decode cX11_shape 93 = .ok (.if_icmp .lt 14, 3) := by decide +kernel
theorem dX11_shape_96 : decode cX11_shape 96 = .ok (.aload_n 0, 1) := by decide +kernel
theorem dX11_shape_97 : decode cX11_shape 97 = .ok (.getfield 25, 3) := by decide +kernel
theorem dX11_shape_100 : decode cX11_shape 100 = .ok (.iload_n 2, 1) := by decide +kernel
theorem dX11_shape_101 : decode cX11_shape 101 = .ok (.invokevirtual 331, 3) := by decide +kernel
theorem dX11_shape_104 : decode cX11_shape 104 = .ok (.goto 4, 3) := by decide +kernel
theorem dX11_shape_107 : decode cX11_shape 107 = .ok (.iconst 0, 1) := by decide +kernel
theorem dX11_shape_108 : decode cX11_shape 108 = .ok (.ireturn, 1) := by decide +kernel
theorem dX11_showValue_0 : decode cX11_showValue 0 = .ok (.aload_n 0, 1) := by decide +kernel
theorem dX11_showValue_1 : decode cX11_showValue 1 = .ok (.getfield 56, 3) := by decide +kernel
theorem dX11_showValue_4 : decode cX11_showValue 4 = .ok (.iconst 1, 1) := by decide +kernel
theorem dX11_showValue_5 : decode cX11_showValue 5 = .ok (.aload_n 0, 1) := by decide +kernel
theorem dX11_showValue_6 : decode cX11_showValue 6 = .ok (.getfield 56, 3) := by decide +kernel
theorem dX11_showValue_9 : decode cX11_showValue 9 = .ok (.iconst 0, 1) := by decide +kernel
theorem dX11_showValue_10 : decode cX11_showValue 10 = .ok (.iaload, 1) := by decide +kernel
theorem dX11_showValue_11 : decode cX11_showValue 11 = .ok (.iastore, 1) := by decide +kernel
theorem dX11_showValue_12 : decode cX11_showValue 12 = .ok (.aload_n 0, 1) := by decide +kernel
theorem dX11_showValue_13 : decode cX11_showValue 13 = .ok (.getfield 56, 3) := by decide +kernel
theorem dX11_showValue_16 : decode cX11_showValue 16 = .ok (.iconst 0, 1) := by decide +kernel
theorem dX11_showValue_17 : decode cX11_showValue 17 = .ok (.iload_n 1, 1) := by decide +kernel
theorem dX11_showValue_18 : decode cX11_showValue 18 = .ok (.iastore, 1) := by decide +kernel
theorem dX11_showValue_19 : decode cX11_showValue 19 = .ok (.aload_n 0, 1) := by decide +kernel
theorem dX11_showValue_20 : decode cX11_showValue 20 = .ok (.aload_n 0, 1) := by decide +kernel
theorem dX11_showValue_21 : decode cX11_showValue 21 = .ok (.getfield 228, 3) := by decide +kernel
theorem dX11_showValue_24 : decode cX11_showValue 24 = .ok (.iconst 1, 1) := by decide +kernel
theorem dX11_showValue_25 : decode cX11_showValue 25 = .ok (.iadd, 1) := by decide +kernel
theorem dX11_showValue_26 : decode cX11_showValue 26 = .ok (.iconst 2, 1) := by decide +kernel
theorem dX11_showValue_27 : decode cX11_showValue 27 = .ok (.invokestatic 231, 3) := by decide +kernel
theorem dX11_showValue_30 : decode cX11_showValue 30 = .ok (.putfield 228, 3) := by decide +kernel
theorem dX11_showValue_33 : decode cX11_showValue 33 = .ok (.aload_n 0, 1) := by decide +kernel
theorem dX11_showValue_34 : decode cX11_showValue 34 = .ok (.getfield 43, 3) := by decide +kernel
theorem dX11_showValue_37 : decode cX11_showValue 37 = .ok (.iload_n 1, 1) := by decide +kernel
theorem dX11_showValue_38 : decode cX11_showValue 38 = .ok (.invokevirtual 237, 3) := by decide +kernel
theorem dX11_showValue_41 : decode cX11_showValue 41 = .ok (.aload_n 0, 1) := by decide +kernel
theorem dX11_showValue_42 : decode cX11_showValue 42 = .ok (.aload_n 0, 1) := by decide +kernel
theorem dX11_showValue_43 : decode cX11_showValue 43 = .ok (.getfield 43, 3) := by decide +kernel
theorem dX11_showValue_46 : decode cX11_showValue 46 = .ok (.getfield 240, 3) := by decide +kernel
theorem dX11_showValue_49 : decode cX11_showValue 49 = .ok (.putfield 241, 3) := by decide +kernel
theorem dX11_showValue_52 : decode cX11_showValue 52 = .ok (.aload_n 0, 1) := by decide +kernel
theorem dX11_showValue_53 : decode cX11_showValue 53 = .ok (.aload_n 0, 1) := by decide +kernel
theorem dX11_showValue_54 : decode cX11_showValue 54 = .ok (.getfield 102, 3) := by decide +kernel
theorem dX11_showValue_57 : decode cX11_showValue 57 = .ok (.aload_n 0, 1) := by decide +kernel
theorem dX11_showValue_58 : decode cX11_showValue 58 = .ok (.getfield 241, 3) := by decide +kernel
theorem dX11_showValue_61 : decode cX11_showValue 61 = .ok (.sipush 10400, 3) := by decide +kernel
theorem dX11_showValue_64 : decode cX11_showValue 64 = .ok (.invokestatic 244, 3) := by decide +kernel
theorem dX11_showValue_67 : decode cX11_showValue 67 = .ok (.putfield 102, 3) := by decide +kernel
theorem dX11_showValue_70 : decode cX11_showValue 70 = .ok (.aload_n 0, 1) := by decide +kernel
theorem dX11_showValue_71 : decode cX11_showValue 71 = .ok (.getfield 43, 3) := by decide +kernel
theorem dX11_showValue_74 : decode cX11_showValue 74 = .ok (.getfield 248, 3) := by decide +kernel
theorem dX11_showValue_77 : decode cX11_showValue 77 = .ok (.iconst 0, 1) := by decide +kernel
theorem dX11_showValue_78 : decode cX11_showValue 78 = .ok (.aload_n 0, 1) := by decide +kernel
theorem dX11_showValue_79 : decode cX11_showValue 79 = .ok (.getfield 102, 3) := by decide +kernel
theorem dX11_showValue_82 : decode cX11_showValue 82 = .ok (.iconst 0, 1) := by decide +kernel
theorem dX11_showValue_83 : decode cX11_showValue 83 = .ok (.aload_n 0, 1) := by decide +kernel
theorem dX11_showValue_84 : decode cX11_showValue 84 = .ok (.getfield 241, 3) := by decide +kernel
theorem dX11_showValue_87 : decode cX11_showValue 87 = .ok (.invokestatic 251, 3) := by decide +kernel
theorem dX11_showValue_90 : decode cX11_showValue 90 = .ok (.aload_n 0, 1) := by decide +kernel
theorem dX11_showValue_91 : decode cX11_showValue 91 = .ok (.getfield 241, 3) := by decide +kernel
theorem dX11_showValue_94 : decode cX11_showValue 94 = .ok (.ireturn, 1) := by decide +kernel
theorem dX11_shown_0 : decode cX11_shown 0 = .ok (.iload_n 1, 1) := by decide +kernel
theorem dX11_shown_1 : decode cX11_shown 1 = .ok (.ifCond .lt 11, 3) := by decide +kernel
theorem dX11_shown_4 : decode cX11_shown 4 = .ok (.iload_n 1, 1) := by decide +kernel
theorem dX11_shown_5 : decode cX11_shown 5 = .ok (.aload_n 0, 1) := by decide +kernel
theorem dX11_shown_6 : decode cX11_shown 6 = .ok (.getfield 241, 3) := by decide +kernel
theorem dX11_shown_9 : decode cX11_shown 9 = .ok (.if_icmp .lt 11, 3) := by decide +kernel
theorem dX11_shown_12 : decode cX11_shown 12 = .ok (.new 194, 3) := by decide +kernel
theorem dX11_shown_15 : decode cX11_shown 15 = .ok (.dup, 1) := by decide +kernel
theorem dX11_shown_16 : decode cX11_shown 16 = .ok (.invokespecial 196, 3) := by decide +kernel
theorem dX11_shown_19 : decode cX11_shown 19 = .ok (.athrow, 1) := by decide +kernel
theorem dX11_shown_20 : decode cX11_shown 20 = .ok (.aload_n 0, 1) := by decide +kernel
theorem dX11_shown_21 : decode cX11_shown 21 = .ok (.getfield 102, 3) := by decide +kernel
theorem dX11_shown_24 : decode cX11_shown 24 = .ok (.iload_n 1, 1) := by decide +kernel
theorem dX11_shown_25 : decode cX11_shown 25 = .ok (.baload, 1) := by decide +kernel
theorem dX11_shown_26 : decode cX11_shown 26 = .ok (.sipush 255, 3) := by decide +kernel
theorem dX11_shown_29 : decode cX11_shown 29 = .ok (.iand, 1) := by decide +kernel
theorem dX11_shown_30 : decode cX11_shown 30 = .ok (.ireturn, 1) := by decide +kernel
theorem dX11_start_0 : decode cX11_start 0 = .ok (.aload_n 0, 1) := by decide +kernel
theorem dX11_start_1 : decode cX11_start 1 = .ok (.getfield 152, 3) := by decide +kernel
theorem dX11_start_4 : decode cX11_start 4 = .ok (.ifCond .ne 11, 3) := by decide +kernel
theorem dX11_start_7 : decode cX11_start 7 = .ok (.new 165, 3) := by decide +kernel
theorem dX11_start_10 : decode cX11_start 10 = .ok (.dup, 1) := by decide +kernel
theorem dX11_start_11 : decode cX11_start 11 = .ok (.invokespecial 167, 3) := by decide +kernel
theorem dX11_start_14 : decode cX11_start 14 = .ok (.athrow, 1) := by decide +kernel
theorem dX11_start_15 : decode cX11_start 15 = .ok (.aload_n 0, 1) := by decide +kernel
theorem dX11_start_16 : decode cX11_start 16 = .ok (.iconst 1, 1) := by decide +kernel
theorem dX11_start_17 : decode cX11_start 17 = .ok (.putfield 156, 3) := by decide +kernel
theorem dX11_start_20 : decode cX11_start 20 = .ok (.aload_n 0, 1) := by decide +kernel
theorem dX11_start_21 : decode cX11_start 21 = .ok (.getfield 65, 3) := by decide +kernel
theorem dX11_start_24 : decode cX11_start 24 = .ok (.aload_n 0, 1) := by decide +kernel
theorem dX11_start_25 : decode cX11_start 25 = .ok (.getfield 88, 3) := by decide +kernel
theorem dX11_start_28 : decode cX11_start 28 = .ok (.lload_n 1, 1) := by decide +kernel
theorem dX11_start_29 : decode cX11_start 29 = .ok (.invokevirtual 168, 3) := by decide +kernel
theorem dX11_start_32 : decode cX11_start 32 = .ok (.aload_n 0, 1) := by decide +kernel
theorem dX11_start_33 : decode cX11_start 33 = .ok (.getfield 65, 3) := by decide +kernel
theorem dX11_start_36 : decode cX11_start 36 = .ok (.iconst 0, 1) := by decide +kernel
theorem dX11_start_37 : decode cX11_start 37 = .ok (.invokevirtual 172, 3) := by decide +kernel
theorem dX11_start_40 : decode cX11_start 40 = .ok (.return_, 1) := by decide +kernel
theorem dX11_state_0 : decode cX11_state 0 = .ok (.iload_n 1, 1) := by decide +kernel
theorem dX11_state_1 : decode cX11_state 1 = .ok (.ifCond .lt 9, 3) := by decide +kernel
theorem dX11_state_4 : decode cX11_state 4 = .ok (.iload_n 1, 1) := by decide +kernel
theorem dX11_state_5 : decode cX11_state 5 = .ok (.bipush 9, 2) := by decide +kernel
theorem dX11_state_7 : decode cX11_state 7 = .ok (.if_icmp .le 11, 3) := by decide +kernel
theorem dX11_state_10 : decode cX11_state 10 = .ok (.new 194, 3) := by decide +kernel
theorem dX11_state_13 : decode cX11_state 13 = .ok (.dup, 1) := by decide +kernel
theorem dX11_state_14 : decode cX11_state 14 = .ok (.invokespecial 196, 3) := by decide +kernel
theorem dX11_state_17 : decode cX11_state 17 = .ok (.athrow, 1) := by decide +kernel
theorem dX11_state_18 : decode cX11_state 18 = .ok (.aload_n 0, 1) := by decide +kernel
theorem dX11_state_19 : decode cX11_state 19 = .ok (.invokevirtual 175, 3) := by decide +kernel
theorem dX11_state_22 : decode cX11_state 22 = .ok (.aload_n 0, 1) := by decide +kernel
theorem dX11_state_23 : decode cX11_state 23 = .ok (.getfield 65, 3) := by decide +kernel
theorem dX11_state_26 : decode cX11_state 26 = .ok (.getfield 178, 3) := by decide +kernel
theorem dX11_state_29 : decode cX11_state 29 = .ok (.astore_n 2, 1) := by decide +kernel
theorem dX11_state_30 : decode cX11_state 30 = .ok (.iload_n 1, 1) := by decide +kernel
theorem dX11_state_31 : decode cX11_state 31 = .ok (.tableswitch 99 0 8 #[49, 54, 59, 64, 69, 74, 79, 89, 94], 49) := by decide +kernel
theorem dX11_state_80 : decode cX11_state 80 = .ok (.aload_n 2, 1) := by decide +kernel
theorem dX11_state_81 : decode cX11_state 81 = .ok (.getfield 187, 3) := by decide +kernel
theorem dX11_state_84 : decode cX11_state 84 = .ok (.ireturn, 1) := by decide +kernel
theorem dX11_state_85 : decode cX11_state 85 = .ok (.aload_n 2, 1) := by decide +kernel
theorem dX11_state_86 : decode cX11_state 86 = .ok (.getfield 197, 3) := by decide +kernel
theorem dX11_state_89 : decode cX11_state 89 = .ok (.ireturn, 1) := by decide +kernel
theorem dX11_state_90 : decode cX11_state 90 = .ok (.aload_n 2, 1) := by decide +kernel
theorem dX11_state_91 : decode cX11_state 91 = .ok (.getfield 200, 3) := by decide +kernel
theorem dX11_state_94 : decode cX11_state 94 = .ok (.ireturn, 1) := by decide +kernel
theorem dX11_state_95 : decode cX11_state 95 = .ok (.aload_n 2, 1) := by decide +kernel
theorem dX11_state_96 : decode cX11_state 96 = .ok (.getfield 203, 3) := by decide +kernel
theorem dX11_state_99 : decode cX11_state 99 = .ok (.ireturn, 1) := by decide +kernel
theorem dX11_state_100 : decode cX11_state 100 = .ok (.aload_n 2, 1) := by decide +kernel
theorem dX11_state_101 : decode cX11_state 101 = .ok (.getfield 206, 3) := by decide +kernel
theorem dX11_state_104 : decode cX11_state 104 = .ok (.ireturn, 1) := by decide +kernel
theorem dX11_state_105 : decode cX11_state 105 = .ok (.aload_n 2, 1) := by decide +kernel
theorem dX11_state_106 : decode cX11_state 106 = .ok (.getfield 209, 3) := by decide +kernel
theorem dX11_state_109 : decode cX11_state 109 = .ok (.ireturn, 1) := by decide +kernel
theorem dX11_state_110 : decode cX11_state 110 = .ok (.aload_n 2, 1) := by decide +kernel
theorem dX11_state_111 : decode cX11_state 111 = .ok (.getfield 212, 3) := by decide +kernel
theorem dX11_state_114 : decode cX11_state 114 = .ok (.aload_n 2, 1) := by decide +kernel
theorem dX11_state_115 : decode cX11_state 115 = .ok (.getfield 215, 3) := by decide +kernel
theorem dX11_state_118 : decode cX11_state 118 = .ok (.iadd, 1) := by decide +kernel
theorem dX11_state_119 : decode cX11_state 119 = .ok (.ireturn, 1) := by decide +kernel
theorem dX11_state_120 : decode cX11_state 120 = .ok (.aload_n 2, 1) := by decide +kernel
theorem dX11_state_121 : decode cX11_state 121 = .ok (.getfield 218, 3) := by decide +kernel
theorem dX11_state_124 : decode cX11_state 124 = .ok (.ireturn, 1) := by decide +kernel
theorem dX11_state_125 : decode cX11_state 125 = .ok (.aload_n 2, 1) := by decide +kernel
theorem dX11_state_126 : decode cX11_state 126 = .ok (.getfield 182, 3) := by decide +kernel
theorem dX11_state_129 : decode cX11_state 129 = .ok (.ireturn, 1) := by decide +kernel
theorem dX11_state_130 : decode cX11_state 130 = .ok (.aload_n 2, 1) := by decide +kernel
theorem dX11_state_131 : decode cX11_state 131 = .ok (.getfield 221, 3) := by decide +kernel
theorem dX11_state_134 : decode cX11_state 134 = .ok (.ireturn, 1) := by decide +kernel
theorem dX11_step_0 : decode cX11_step 0 = .ok (.aload_n 0, 1) := by decide +kernel
theorem dX11_step_1 : decode cX11_step 1 = .ok (.invokevirtual 175, 3) := by decide +kernel
theorem dX11_step_4 : decode cX11_step 4 = .ok (.iload_n 1, 1) := by decide +kernel
theorem dX11_step_5 : decode cX11_step 5 = .ok (.ifCond .lt 10, 3) := by decide +kernel
theorem dX11_step_8 : decode cX11_step 8 = .ok (.iload_n 1, 1) := by decide +kernel
theorem dX11_step_9 : decode cX11_step 9 = .ok (.sipush 20000, 3) := by decide +kernel
theorem dX11_step_12 : decode cX11_step 12 = .ok (.if_icmp .le 11, 3) := by decide +kernel
theorem dX11_step_15 : decode cX11_step 15 = .ok (.new 127, 3) := by decide +kernel
theorem dX11_step_18 : decode cX11_step 18 = .ok (.dup, 1) := by decide +kernel
theorem dX11_step_19 : decode cX11_step 19 = .ok (.invokespecial 129, 3) := by decide +kernel
theorem dX11_step_22 : decode cX11_step 22 = .ok (.athrow, 1) := by decide +kernel
theorem dX11_step_23 : decode cX11_step 23 = .ok (.aload_n 0, 1) := by decide +kernel
theorem dX11_step_24 : decode cX11_step 24 = .ok (.getfield 65, 3) := by decide +kernel
theorem dX11_step_27 : decode cX11_step 27 = .ok (.iload_n 1, 1) := by decide +kernel
theorem dX11_step_28 : decode cX11_step 28 = .ok (.invokevirtual 172, 3) := by decide +kernel
theorem dX11_step_31 : decode cX11_step 31 = .ok (.aload_n 0, 1) := by decide +kernel
theorem dX11_step_32 : decode cX11_step 32 = .ok (.getfield 65, 3) := by decide +kernel
theorem dX11_step_35 : decode cX11_step 35 = .ok (.getfield 178, 3) := by decide +kernel
theorem dX11_step_38 : decode cX11_step 38 = .ok (.getfield 182, 3) := by decide +kernel
theorem dX11_step_41 : decode cX11_step 41 = .ok (.ireturn, 1) := by decide +kernel
theorem dX11_value_0 : decode cX11_value 0 = .ok (.aload_n 0, 1) := by decide +kernel
theorem dX11_value_1 : decode cX11_value 1 = .ok (.invokevirtual 175, 3) := by decide +kernel
theorem dX11_value_4 : decode cX11_value 4 = .ok (.aload_n 0, 1) := by decide +kernel
theorem dX11_value_5 : decode cX11_value 5 = .ok (.getfield 72, 3) := by decide +kernel
theorem dX11_value_8 : decode cX11_value 8 = .ok (.invokevirtual 257, 3) := by decide +kernel
theorem dX11_value_11 : decode cX11_value 11 = .ok (.aload_n 0, 1) := by decide +kernel
theorem dX11_value_12 : decode cX11_value 12 = .ok (.getfield 72, 3) := by decide +kernel
theorem dX11_value_15 : decode cX11_value 15 = .ok (.invokevirtual 260, 3) := by decide +kernel
theorem dX11_value_18 : decode cX11_value 18 = .ok (.aload_n 0, 1) := by decide +kernel
theorem dX11_value_19 : decode cX11_value 19 = .ok (.getfield 72, 3) := by decide +kernel
theorem dX11_value_22 : decode cX11_value 22 = .ok (.getfield 262, 3) := by decide +kernel
theorem dX11_value_25 : decode cX11_value 25 = .ok (.iconst 2, 1) := by decide +kernel
theorem dX11_value_26 : decode cX11_value 26 = .ok (.if_icmp .ne 34, 3) := by decide +kernel
theorem dX11_value_29 : decode cX11_value 29 = .ok (.aload_n 0, 1) := by decide +kernel
theorem dX11_value_30 : decode cX11_value 30 = .ok (.getfield 72, 3) := by decide +kernel
theorem dX11_value_33 : decode cX11_value 33 = .ok (.getfield 265, 3) := by decide +kernel
theorem dX11_value_36 : decode cX11_value 36 = .ok (.ifCond .ne 24, 3) := by decide +kernel
theorem dX11_value_39 : decode cX11_value 39 = .ok (.aload_n 0, 1) := by decide +kernel
theorem dX11_value_40 : decode cX11_value 40 = .ok (.getfield 72, 3) := by decide +kernel
theorem dX11_value_43 : decode cX11_value 43 = .ok (.getfield 268, 3) := by decide +kernel
theorem dX11_value_46 : decode cX11_value 46 = .ok (.aload_n 0, 1) := by decide +kernel
theorem dX11_value_47 : decode cX11_value 47 = .ok (.getfield 72, 3) := by decide +kernel
theorem dX11_value_50 : decode cX11_value 50 = .ok (.getfield 115, 3) := by decide +kernel
theorem dX11_value_53 : decode cX11_value 53 = .ok (.if_icmp .ne 7, 3) := by decide +kernel
theorem dX11_value_56 : decode cX11_value 56 = .ok (.iconst 1, 1) := by decide +kernel
theorem dX11_value_57 : decode cX11_value 57 = .ok (.goto 4, 3) := by decide +kernel
theorem dX11_value_60 : decode cX11_value 60 = .ok (.iconst 0, 1) := by decide +kernel
theorem dX11_value_61 : decode cX11_value 61 = .ok (.istore_n 1, 1) := by decide +kernel
theorem dX11_value_62 : decode cX11_value 62 = .ok (.iload_n 1, 1) := by decide +kernel
theorem dX11_value_63 : decode cX11_value 63 = .ok (.ifCond .eq 27, 3) := by decide +kernel
theorem dX11_value_66 : decode cX11_value 66 = .ok (.aload_n 0, 1) := by decide +kernel
theorem dX11_value_67 : decode cX11_value 67 = .ok (.getfield 88, 3) := by decide +kernel
theorem dX11_value_70 : decode cX11_value 70 = .ok (.aload_n 0, 1) := by decide +kernel
theorem dX11_value_71 : decode cX11_value 71 = .ok (.getfield 72, 3) := by decide +kernel
theorem dX11_value_74 : decode cX11_value 74 = .ok (.getfield 271, 3) := by decide +kernel
theorem dX11_value_77 : decode cX11_value 77 = .ok (.aload_n 0, 1) := by decide +kernel
theorem dX11_value_78 : decode cX11_value 78 = .ok (.getfield 72, 3) := by decide +kernel
theorem dX11_value_81 : decode cX11_value 81 = .ok (.getfield 275, 3) := by decide +kernel
theorem dX11_value_84 : decode cX11_value 84 = .ok (.invokevirtual 278, 3) := by decide +kernel
theorem dX11_value_87 : decode cX11_value 87 = .ok (.goto 4, 3) := by decide +kernel
theorem dX11_value_90 : decode cX11_value 90 = .ok (.iconst (-1), 1) := by decide +kernel
theorem dX11_value_91 : decode cX11_value 91 = .ok (.istore_n 2, 1) := by decide +kernel
theorem dX11_value_92 : decode cX11_value 92 = .ok (.iload_n 2, 1) := by decide +kernel
theorem dX11_value_93 : decode cX11_value 93 = .ok (.iconst (-1), 1) := by decide +kernel
theorem dX11_value_94 : decode cX11_value 94 = .ok (.if_icmp .eq 15, 3) := by decide +kernel
theorem dX11_value_97 : decode cX11_value 97 = .ok (.aload_n 0, 1) := by decide +kernel
theorem dX11_value_98 : decode cX11_value 98 = .ok (.getfield 88, 3) := by decide +kernel
theorem dX11_value_101 : decode cX11_value 101 = .ok (.getfield 282, 3) := by decide +kernel
theorem dX11_value_104 : decode cX11_value 104 = .ok (.iload_n 2, 1) := by decide +kernel
theorem dX11_value_105 : decode cX11_value 105 = .ok (.iaload, 1) := by decide +kernel
theorem dX11_value_106 : decode cX11_value 106 = .ok (.ifCond .eq 11, 3) := by decide +kernel
theorem dX11_value_109 : decode cX11_value 109 = .ok (.new 127, 3) := by decide +kernel
theorem dX11_value_112 : decode cX11_value 112 = .ok (.dup, 1) := by decide +kernel
theorem dX11_value_113 : decode cX11_value 113 = .ok (.invokespecial 129, 3) := by decide +kernel
theorem dX11_value_116 : decode cX11_value 116 = .ok (.athrow, 1) := by decide +kernel
theorem dX11_value_117 : decode cX11_value 117 = .ok (.aload_n 0, 1) := by decide +kernel
theorem dX11_value_118 : decode cX11_value 118 = .ok (.getfield 72, 3) := by decide +kernel
theorem dX11_value_121 : decode cX11_value 121 = .ok (.iconst 0, 1) := by decide +kernel
theorem dX11_value_122 : decode cX11_value 122 = .ok (.putfield 115, 3) := by decide +kernel
theorem dX11_value_125 : decode cX11_value 125 = .ok (.aload_n 0, 1) := by decide +kernel
theorem dX11_value_126 : decode cX11_value 126 = .ok (.aload_n 0, 1) := by decide +kernel
theorem dX11_value_127 : decode cX11_value 127 = .ok (.getfield 65, 3) := by decide +kernel
theorem dX11_value_130 : decode cX11_value 130 = .ok (.aload_n 0, 1) := by decide +kernel
theorem dX11_value_131 : decode cX11_value 131 = .ok (.getfield 88, 3) := by decide +kernel
theorem dX11_value_134 : decode cX11_value 134 = .ok (.getfield 285, 3) := by decide +kernel
theorem dX11_value_137 : decode cX11_value 137 = .ok (.iload_n 2, 1) := by decide +kernel
theorem dX11_value_138 : decode cX11_value 138 = .ok (.iaload, 1) := by decide +kernel
theorem dX11_value_139 : decode cX11_value 139 = .ok (.invokevirtual 288, 3) := by decide +kernel
theorem dX11_value_142 : decode cX11_value 142 = .ok (.invokevirtual 291, 3) := by decide +kernel
theorem dX11_value_145 : decode cX11_value 145 = .ok (.ireturn, 1) := by decide +kernel
theorem dX11_view_0 : decode cX11_view 0 = .ok (.aload_n 0, 1) := by decide +kernel
theorem dX11_view_1 : decode cX11_view 1 = .ok (.getfield 152, 3) := by decide +kernel
theorem dX11_view_4 : decode cX11_view 4 = .ok (.ifCond .ne 11, 3) := by decide +kernel
theorem dX11_view_7 : decode cX11_view 7 = .ok (.new 165, 3) := by decide +kernel
theorem dX11_view_10 : decode cX11_view 10 = .ok (.dup, 1) := by decide +kernel
theorem dX11_view_11 : decode cX11_view 11 = .ok (.invokespecial 167, 3) := by decide +kernel
theorem dX11_view_14 : decode cX11_view 14 = .ok (.athrow, 1) := by decide +kernel
theorem dX11_view_15 : decode cX11_view 15 = .ok (.aload_n 0, 1) := by decide +kernel
theorem dX11_view_16 : decode cX11_view 16 = .ok (.getfield 159, 3) := by decide +kernel
theorem dX11_view_19 : decode cX11_view 19 = .ok (.bipush 8, 2) := by decide +kernel
theorem dX11_view_21 : decode cX11_view 21 = .ok (.if_icmp .lt 11, 3) := by decide +kernel
theorem dX11_view_24 : decode cX11_view 24 = .ok (.new 120, 3) := by decide +kernel
theorem dX11_view_27 : decode cX11_view 27 = .ok (.dup, 1) := by decide +kernel
theorem dX11_view_28 : decode cX11_view 28 = .ok (.invokespecial 122, 3) := by decide +kernel
theorem dX11_view_31 : decode cX11_view 31 = .ok (.athrow, 1) := by decide +kernel
theorem dX11_view_32 : decode cX11_view 32 = .ok (.aload_n 0, 1) := by decide +kernel
theorem dX11_view_33 : decode cX11_view 33 = .ok (.getfield 88, 3) := by decide +kernel
theorem dX11_view_36 : decode cX11_view 36 = .ok (.getfield 146, 3) := by decide +kernel
theorem dX11_view_39 : decode cX11_view 39 = .ok (.istore_n 1, 1) := by decide +kernel
theorem dX11_view_40 : decode cX11_view 40 = .ok (.aload_n 0, 1) := by decide +kernel
theorem dX11_view_41 : decode cX11_view 41 = .ok (.getfield 81, 3) := by decide +kernel
theorem dX11_view_44 : decode cX11_view 44 = .ok (.aload_n 0, 1) := by decide +kernel
theorem dX11_view_45 : decode cX11_view 45 = .ok (.getfield 88, 3) := by decide +kernel
theorem dX11_view_48 : decode cX11_view 48 = .ok (.iconst 0, 1) := by decide +kernel
theorem dX11_view_49 : decode cX11_view 49 = .ok (.invokevirtual 294, 3) := by decide +kernel
theorem dX11_view_52 : decode cX11_view 52 = .ok (.istore_n 2, 1) := by decide +kernel
theorem dX11_view_53 : decode cX11_view 53 = .ok (.aload_n 0, 1) := by decide +kernel
theorem dX11_view_54 : decode cX11_view 54 = .ok (.getfield 72, 3) := by decide +kernel
theorem dX11_view_57 : decode cX11_view 57 = .ok (.iconst 0, 1) := by decide +kernel
theorem dX11_view_58 : decode cX11_view 58 = .ok (.putfield 115, 3) := by decide +kernel
theorem dX11_view_61 : decode cX11_view 61 = .ok (.aload_n 0, 1) := by decide +kernel
theorem dX11_view_62 : decode cX11_view 62 = .ok (.aload_n 0, 1) := by decide +kernel
theorem dX11_view_63 : decode cX11_view 63 = .ok (.getfield 81, 3) := by decide +kernel
theorem dX11_view_66 : decode cX11_view 66 = .ok (.getfield 134, 3) := by decide +kernel
theorem dX11_view_69 : decode cX11_view 69 = .ok (.putfield 137, 3) := by decide +kernel
theorem dX11_view_72 : decode cX11_view 72 = .ok (.iload_n 2, 1) := by decide +kernel
theorem dX11_view_73 : decode cX11_view 73 = .ok (.ifCond .ne 13, 3) := by decide +kernel
theorem dX11_view_76 : decode cX11_view 76 = .ok (.iconst (-1), 1) := by decide +kernel
theorem dX11_view_77 : decode cX11_view 77 = .ok (.aload_n 0, 1) := by decide +kernel
theorem dX11_view_78 : decode cX11_view 78 = .ok (.getfield 81, 3) := by decide +kernel
theorem dX11_view_81 : decode cX11_view 81 = .ok (.getfield 143, 3) := by decide +kernel
theorem dX11_view_84 : decode cX11_view 84 = .ok (.isub, 1) := by decide +kernel
theorem dX11_view_85 : decode cX11_view 85 = .ok (.ireturn, 1) := by decide +kernel
theorem dX11_view_86 : decode cX11_view 86 = .ok (.iconst 3, 1) := by decide +kernel
theorem dX11_view_87 : decode cX11_view 87 = .ok (.iconst 3, 1) := by decide +kernel
theorem dX11_view_88 : decode cX11_view 88 = .ok (.aload_n 0, 1) := by decide +kernel
theorem dX11_view_89 : decode cX11_view 89 = .ok (.getfield 159, 3) := by decide +kernel
theorem dX11_view_92 : decode cX11_view 92 = .ok (.imul, 1) := by decide +kernel
theorem dX11_view_93 : decode cX11_view 93 = .ok (.iadd, 1) := by decide +kernel
theorem dX11_view_94 : decode cX11_view 94 = .ok (.istore_n 3, 1) := by decide +kernel
theorem dX11_view_95 : decode cX11_view 95 = .ok (.aload_n 0, 1) := by decide +kernel
theorem dX11_view_96 : decode cX11_view 96 = .ok (.getfield 95, 3) := by decide +kernel
theorem dX11_view_99 : decode cX11_view 99 = .ok (.aload_n 0, 1) := by decide +kernel
theorem dX11_view_100 : decode cX11_view 100 = .ok (.getfield 159, 3) := by decide +kernel
theorem dX11_view_103 : decode cX11_view 103 = .ok (.iload_n 1, 1) := by decide +kernel
theorem dX11_view_104 : decode cX11_view 104 = .ok (.iastore, 1) := by decide +kernel
theorem dX11_view_105 : decode cX11_view 105 = .ok (.aload_n 0, 1) := by decide +kernel
theorem dX11_view_106 : decode cX11_view 106 = .ok (.getfield 98, 3) := by decide +kernel
theorem dX11_view_109 : decode cX11_view 109 = .ok (.aload_n 0, 1) := by decide +kernel
theorem dX11_view_110 : decode cX11_view 110 = .ok (.getfield 159, 3) := by decide +kernel
theorem dX11_view_113 : decode cX11_view 113 = .ok (.iconst 0, 1) := by decide +kernel
theorem dX11_view_114 : decode cX11_view 114 = .ok (.bastore, 1) := by decide +kernel
theorem dX11_view_115 : decode cX11_view 115 = .ok (.aload_n 0, 1) := by decide +kernel
theorem dX11_view_116 : decode cX11_view 116 = .ok (.getfield 56, 3) := by decide +kernel
theorem dX11_view_119 : decode cX11_view 119 = .ok (.iload_n 3, 1) := by decide +kernel
theorem dX11_view_120 : decode cX11_view 120 = .ok (.ldc 106, 2) := by decide +kernel
theorem dX11_view_122 : decode cX11_view 122 = .ok (.iastore, 1) := by decide +kernel
theorem dX11_view_123 : decode cX11_view 123 = .ok (.aload_n 0, 1) := by decide +kernel
theorem dX11_view_124 : decode cX11_view 124 = .ok (.getfield 56, 3) := by decide +kernel
theorem dX11_view_127 : decode cX11_view 127 = .ok (.iload_n 3, 1) := by decide +kernel
theorem dX11_view_128 : decode cX11_view 128 = .ok (.iconst 1, 1) := by decide +kernel
theorem dX11_view_129 : decode cX11_view 129 = .ok (.iadd, 1) := by decide +kernel
theorem dX11_view_130 : decode cX11_view 130 = .ok (.ldc 106, 2) := by decide +kernel
theorem dX11_view_132 : decode cX11_view 132 = .ok (.iastore, 1) := by decide +kernel
theorem dX11_view_133 : decode cX11_view 133 = .ok (.aload_n 0, 1) := by decide +kernel
theorem dX11_view_134 : decode cX11_view 134 = .ok (.getfield 56, 3) := by decide +kernel
theorem dX11_view_137 : decode cX11_view 137 = .ok (.iload_n 3, 1) := by decide +kernel
theorem dX11_view_138 : decode cX11_view 138 = .ok (.iconst 2, 1) := by decide +kernel
theorem dX11_view_139 : decode cX11_view 139 = .ok (.iadd, 1) := by decide +kernel
theorem dX11_view_140 : decode cX11_view 140 = .ok (.ldc 106, 2) := by decide +kernel
theorem dX11_view_142 : decode cX11_view 142 = .ok (.iastore, 1) := by decide +kernel
theorem dX11_view_143 : decode cX11_view 143 = .ok (.aload_n 0, 1) := by decide +kernel
theorem dX11_view_144 : decode cX11_view 144 = .ok (.dup, 1) := by decide +kernel
theorem dX11_view_145 : decode cX11_view 145 = .ok (.getfield 159, 3) := by decide +kernel
theorem dX11_view_148 : decode cX11_view 148 = .ok (.iconst 1, 1) := by decide +kernel
theorem dX11_view_149 : decode cX11_view 149 = .ok (.iadd, 1) := by decide +kernel
theorem dX11_view_150 : decode cX11_view 150 = .ok (.putfield 159, 3) := by decide +kernel
theorem dX11_view_153 : decode cX11_view 153 = .ok (.aload_n 0, 1) := by decide +kernel
theorem dX11_view_154 : decode cX11_view 154 = .ok (.getfield 159, 3) := by decide +kernel
theorem dX11_view_157 : decode cX11_view 157 = .ok (.iconst 1, 1) := by decide +kernel
theorem dX11_view_158 : decode cX11_view 158 = .ok (.isub, 1) := by decide +kernel
theorem dX11_view_159 : decode cX11_view 159 = .ok (.ireturn, 1) := by decide +kernel
theorem dX11_wantRun_0 : decode cX11_wantRun 0 = .ok (.aload_n 0, 1) := by decide +kernel
theorem dX11_wantRun_1 : decode cX11_wantRun 1 = .ok (.getfield 156, 3) := by decide +kernel
theorem dX11_wantRun_4 : decode cX11_wantRun 4 = .ok (.ifCond .ne 11, 3) := by decide +kernel
theorem dX11_wantRun_7 : decode cX11_wantRun 7 = .ok (.new 165, 3) := by decide +kernel
theorem dX11_wantRun_10 : decode cX11_wantRun 10 = .ok (.dup, 1) := by decide +kernel
theorem dX11_wantRun_11 : decode cX11_wantRun 11 = .ok (.invokespecial 167, 3) := by decide +kernel
theorem dX11_wantRun_14 : decode cX11_wantRun 14 = .ok (.athrow, 1) := by decide +kernel
theorem dX11_wantRun_15 : decode cX11_wantRun 15 = .ok (.return_, 1) := by decide +kernel
theorem dX11_work_0 : decode cX11_work 0 = .ok (.aload_n 0, 1) := by decide +kernel
theorem dX11_work_1 : decode cX11_work 1 = .ok (.invokevirtual 175, 3) := by decide +kernel
theorem dX11_work_4 : decode cX11_work 4 = .ok (.aload_n 0, 1) := by decide +kernel
theorem dX11_work_5 : decode cX11_work 5 = .ok (.getfield 88, 3) := by decide +kernel
theorem dX11_work_8 : decode cX11_work 8 = .ok (.getfield 146, 3) := by decide +kernel
theorem dX11_work_11 : decode cX11_work 11 = .ok (.istore_n 1, 1) := by decide +kernel
theorem dX11_work_12 : decode cX11_work 12 = .ok (.aload_n 0, 1) := by decide +kernel
theorem dX11_work_13 : decode cX11_work 13 = .ok (.getfield 81, 3) := by decide +kernel
theorem dX11_work_16 : decode cX11_work 16 = .ok (.aload_n 0, 1) := by decide +kernel
theorem dX11_work_17 : decode cX11_work 17 = .ok (.getfield 88, 3) := by decide +kernel
theorem dX11_work_20 : decode cX11_work 20 = .ok (.iconst 1, 1) := by decide +kernel
theorem dX11_work_21 : decode cX11_work 21 = .ok (.invokevirtual 294, 3) := by decide +kernel
theorem dX11_work_24 : decode cX11_work 24 = .ok (.istore_n 2, 1) := by decide +kernel
theorem dX11_work_25 : decode cX11_work 25 = .ok (.aload_n 0, 1) := by decide +kernel
theorem dX11_work_26 : decode cX11_work 26 = .ok (.getfield 72, 3) := by decide +kernel
theorem dX11_work_29 : decode cX11_work 29 = .ok (.iconst 0, 1) := by decide +kernel
theorem dX11_work_30 : decode cX11_work 30 = .ok (.putfield 115, 3) := by decide +kernel
theorem dX11_work_33 : decode cX11_work 33 = .ok (.aload_n 0, 1) := by decide +kernel
theorem dX11_work_34 : decode cX11_work 34 = .ok (.aload_n 0, 1) := by decide +kernel
theorem dX11_work_35 : decode cX11_work 35 = .ok (.getfield 81, 3) := by decide +kernel
theorem dX11_work_38 : decode cX11_work 38 = .ok (.getfield 134, 3) := by decide +kernel
theorem dX11_work_41 : decode cX11_work 41 = .ok (.putfield 137, 3) := by decide +kernel
theorem dX11_work_44 : decode cX11_work 44 = .ok (.aload_n 0, 1) := by decide +kernel
theorem dX11_work_45 : decode cX11_work 45 = .ok (.iconst 0, 1) := by decide +kernel
theorem dX11_work_46 : decode cX11_work 46 = .ok (.putfield 298, 3) := by decide +kernel
theorem dX11_work_49 : decode cX11_work 49 = .ok (.iload_n 2, 1) := by decide +kernel
theorem dX11_work_50 : decode cX11_work 50 = .ok (.ifCond .ne 14, 3) := by decide +kernel
theorem dX11_work_53 : decode cX11_work 53 = .ok (.bipush (-100), 2) := by decide +kernel
theorem dX11_work_55 : decode cX11_work 55 = .ok (.aload_n 0, 1) := by decide +kernel
theorem dX11_work_56 : decode cX11_work 56 = .ok (.getfield 81, 3) := by decide +kernel
theorem dX11_work_59 : decode cX11_work 59 = .ok (.getfield 143, 3) := by decide +kernel
theorem dX11_work_62 : decode cX11_work 62 = .ok (.isub, 1) := by decide +kernel
theorem dX11_work_63 : decode cX11_work 63 = .ok (.ireturn, 1) := by decide +kernel
theorem dX11_work_64 : decode cX11_work 64 = .ok (.aload_n 0, 1) := by decide +kernel
theorem dX11_work_65 : decode cX11_work 65 = .ok (.getfield 65, 3) := by decide +kernel
theorem dX11_work_68 : decode cX11_work 68 = .ok (.iload_n 1, 1) := by decide +kernel
theorem dX11_work_69 : decode cX11_work 69 = .ok (.invokevirtual 301, 3) := by decide +kernel
theorem dX11_work_72 : decode cX11_work 72 = .ok (.istore_n 3, 1) := by decide +kernel
theorem dX11_work_73 : decode cX11_work 73 = .ok (.aload_n 0, 1) := by decide +kernel
theorem dX11_work_74 : decode cX11_work 74 = .ok (.getfield 88, 3) := by decide +kernel
theorem dX11_work_77 : decode cX11_work 77 = .ok (.iload_n 1, 1) := by decide +kernel
theorem dX11_work_78 : decode cX11_work 78 = .ok (.putfield 146, 3) := by decide +kernel
theorem dX11_work_81 : decode cX11_work 81 = .ok (.aload_n 0, 1) := by decide +kernel
theorem dX11_work_82 : decode cX11_work 82 = .ok (.aload_n 0, 1) := by decide +kernel
theorem dX11_work_83 : decode cX11_work 83 = .ok (.getfield 65, 3) := by decide +kernel
theorem dX11_work_86 : decode cX11_work 86 = .ok (.getfield 304, 3) := by decide +kernel
theorem dX11_work_89 : decode cX11_work 89 = .ok (.putfield 298, 3) := by decide +kernel
theorem dX11_work_92 : decode cX11_work 92 = .ok (.iload_n 3, 1) := by decide +kernel
theorem dX11_work_93 : decode cX11_work 93 = .ok (.invokestatic 307, 3) := by decide +kernel
theorem dX11_work_96 : decode cX11_work 96 = .ok (.ifCond .eq 12, 3) := by decide +kernel
theorem dX11_work_99 : decode cX11_work 99 = .ok (.iconst (-1), 1) := by decide +kernel
theorem dX11_work_100 : decode cX11_work 100 = .ok (.iload_n 3, 1) := by decide +kernel
theorem dX11_work_101 : decode cX11_work 101 = .ok (.bipush 15, 2) := by decide +kernel
theorem dX11_work_103 : decode cX11_work 103 = .ok (.iand, 1) := by decide +kernel
theorem dX11_work_104 : decode cX11_work 104 = .ok (.isub, 1) := by decide +kernel
theorem dX11_work_105 : decode cX11_work 105 = .ok (.goto 8, 3) := by decide +kernel
theorem dX11_work_108 : decode cX11_work 108 = .ok (.aload_n 0, 1) := by decide +kernel
theorem dX11_work_109 : decode cX11_work 109 = .ok (.iload_n 3, 1) := by decide +kernel
theorem dX11_work_110 : decode cX11_work 110 = .ok (.invokevirtual 291, 3) := by decide +kernel
theorem dX11_work_113 : decode cX11_work 113 = .ok (.ireturn, 1) := by decide +kernel
theorem dX1_makeCopy_0 : decode cX1_makeCopy 0 = .ok (.aload_n 0, 1) := by decide +kernel
theorem dX1_makeCopy_1 : decode cX1_makeCopy 1 = .ok (.getfield 15, 3) := by decide +kernel
theorem dX1_makeCopy_4 : decode cX1_makeCopy 4 = .ok (.istore 4, 2) := by decide +kernel
theorem dX1_makeCopy_6 : decode cX1_makeCopy 6 = .ok (.iload_n 3, 1) := by decide +kernel
theorem dX1_makeCopy_7 : decode cX1_makeCopy 7 = .ok (.aload_n 0, 1) := by decide +kernel
theorem dX1_makeCopy_8 : decode cX1_makeCopy 8 = .ok (.getfield 11, 3) := by decide +kernel
theorem dX1_makeCopy_11 : decode cX1_makeCopy 11 = .ok (.arraylength, 1) := by decide +kernel
theorem dX1_makeCopy_12 : decode cX1_makeCopy 12 = .ok (.iload 4, 2) := by decide +kernel
theorem dX1_makeCopy_14 : decode cX1_makeCopy 14 = .ok (.isub, 1) := by decide +kernel
theorem dX1_makeCopy_15 : decode cX1_makeCopy 15 = .ok (.if_icmp .le 6, 3) := by decide +kernel
theorem dX1_makeCopy_18 : decode cX1_makeCopy 18 = .ok (.ldc 53, 2) := by decide +kernel
theorem dX1_makeCopy_20 : decode cX1_makeCopy 20 = .ok (.ireturn, 1) := by decide +kernel
theorem dX1_makeCopy_21 : decode cX1_makeCopy 21 = .ok (.aload_n 0, 1) := by decide +kernel
theorem dX1_makeCopy_22 : decode cX1_makeCopy 22 = .ok (.iload 4, 2) := by decide +kernel
theorem dX1_makeCopy_24 : decode cX1_makeCopy 24 = .ok (.iload_n 3, 1) := by decide +kernel
theorem dX1_makeCopy_25 : decode cX1_makeCopy 25 = .ok (.iadd, 1) := by decide +kernel
theorem dX1_makeCopy_26 : decode cX1_makeCopy 26 = .ok (.putfield 15, 3) := by decide +kernel
theorem dX1_makeCopy_29 : decode cX1_makeCopy 29 = .ok (.aload_n 1, 1) := by decide +kernel
theorem dX1_makeCopy_30 : decode cX1_makeCopy 30 = .ok (.iload_n 2, 1) := by decide +kernel
theorem dX1_makeCopy_31 : decode cX1_makeCopy 31 = .ok (.aload_n 0, 1) := by decide +kernel
theorem dX1_makeCopy_32 : decode cX1_makeCopy 32 = .ok (.getfield 11, 3) := by decide +kernel
theorem dX1_makeCopy_35 : decode cX1_makeCopy 35 = .ok (.iload 4, 2) := by decide +kernel
theorem dX1_makeCopy_37 : decode cX1_makeCopy 37 = .ok (.iload_n 3, 1) := by decide +kernel
theorem dX1_makeCopy_38 : decode cX1_makeCopy 38 = .ok (.invokestatic 54, 3) := by decide +kernel
theorem dX1_makeCopy_41 : decode cX1_makeCopy 41 = .ok (.iload 4, 2) := by decide +kernel
theorem dX1_makeCopy_43 : decode cX1_makeCopy 43 = .ok (.ireturn, 1) := by decide +kernel
theorem dX1_widen_0 : decode cX1_widen 0 = .ok (.aload_n 0, 1) := by decide +kernel
theorem dX1_widen_1 : decode cX1_widen 1 = .ok (.getfield 15, 3) := by decide +kernel
theorem dX1_widen_4 : decode cX1_widen 4 = .ok (.aload_n 0, 1) := by decide +kernel
theorem dX1_widen_5 : decode cX1_widen 5 = .ok (.getfield 11, 3) := by decide +kernel
theorem dX1_widen_8 : decode cX1_widen 8 = .ok (.arraylength, 1) := by decide +kernel
theorem dX1_widen_9 : decode cX1_widen 9 = .ok (.iconst 2, 1) := by decide +kernel
theorem dX1_widen_10 : decode cX1_widen 10 = .ok (.idiv, 1) := by decide +kernel
theorem dX1_widen_11 : decode cX1_widen 11 = .ok (.if_icmp .le 52, 3) := by decide +kernel
theorem dX1_widen_14 : decode cX1_widen 14 = .ok (.aload_n 0, 1) := by decide +kernel
theorem dX1_widen_15 : decode cX1_widen 15 = .ok (.aload_n 0, 1) := by decide +kernel
theorem dX1_widen_16 : decode cX1_widen 16 = .ok (.getfield 11, 3) := by decide +kernel
theorem dX1_widen_19 : decode cX1_widen 19 = .ok (.ldc 74, 2) := by decide +kernel
theorem dX1_widen_21 : decode cX1_widen 21 = .ok (.ldc 74, 2) := by decide +kernel
theorem dX1_widen_23 : decode cX1_widen 23 = .ok (.invokestatic 75, 3) := by decide +kernel
theorem dX1_widen_26 : decode cX1_widen 26 = .ok (.putfield 11, 3) := by decide +kernel
theorem dX1_widen_29 : decode cX1_widen 29 = .ok (.aload_n 0, 1) := by decide +kernel
theorem dX1_widen_30 : decode cX1_widen 30 = .ok (.aload_n 0, 1) := by decide +kernel
theorem dX1_widen_31 : decode cX1_widen 31 = .ok (.getfield 19, 3) := by decide +kernel
theorem dX1_widen_34 : decode cX1_widen 34 = .ok (.sipush 5000, 3) := by decide +kernel
theorem dX1_widen_37 : decode cX1_widen 37 = .ok (.sipush 5000, 3) := by decide +kernel
theorem dX1_widen_40 : decode cX1_widen 40 = .ok (.invokestatic 75, 3) := by decide +kernel
theorem dX1_widen_43 : decode cX1_widen 43 = .ok (.putfield 19, 3) := by decide +kernel
theorem dX1_widen_46 : decode cX1_widen 46 = .ok (.aload_n 0, 1) := by decide +kernel
theorem dX1_widen_47 : decode cX1_widen 47 = .ok (.aload_n 0, 1) := by decide +kernel
theorem dX1_widen_48 : decode cX1_widen 48 = .ok (.getfield 22, 3) := by decide +kernel
theorem dX1_widen_51 : decode cX1_widen 51 = .ok (.sipush 5000, 3) := by decide +kernel
theorem dX1_widen_54 : decode cX1_widen 54 = .ok (.sipush 5000, 3) := by decide +kernel
theorem dX1_widen_57 : decode cX1_widen 57 = .ok (.invokestatic 75, 3) := by decide +kernel
theorem dX1_widen_60 : decode cX1_widen 60 = .ok (.putfield 22, 3) := by decide +kernel
theorem dX1_widen_63 : decode cX1_widen 63 = .ok (.return_, 1) := by decide +kernel
theorem dX2_advance_0 : decode cX2_advance 0 = .ok (.aload_n 0, 1) := by decide +kernel
theorem dX2_advance_1 : decode cX2_advance 1 = .ok (.getfield 43, 3) := by decide +kernel
theorem dX2_advance_4 : decode cX2_advance 4 = .ok (.istore_n 1, 1) := by decide +kernel
theorem dX2_advance_5 : decode cX2_advance 5 = .ok (.iconst 0, 1) := by decide +kernel
theorem dX2_advance_6 : decode cX2_advance 6 = .ok (.istore_n 2, 1) := by decide +kernel
theorem dX2_advance_7 : decode cX2_advance 7 = .ok (.iconst 1, 1) := by decide +kernel
theorem dX2_advance_8 : decode cX2_advance 8 = .ok (.istore_n 3, 1) := by decide +kernel
theorem dX2_advance_9 : decode cX2_advance 9 = .ok (.aload_n 0, 1) := by decide +kernel
theorem dX2_advance_10 : decode cX2_advance 10 = .ok (.getfield 43, 3) := by decide +kernel
theorem dX2_advance_13 : decode cX2_advance 13 = .ok (.istore 4, 2) := by decide +kernel
theorem dX2_advance_15 : decode cX2_advance 15 = .ok (.iload 4, 2) := by decide +kernel
theorem dX2_advance_17 : decode cX2_advance 17 = .ok (.aload_n 0, 1) := by decide +kernel
theorem dX2_advance_18 : decode cX2_advance 18 = .ok (.getfield 31, 3) := by decide +kernel
theorem dX2_advance_21 : decode cX2_advance 21 = .ok (.if_icmp .ge 108, 3) := by decide +kernel
theorem dX2_advance_24 : decode cX2_advance 24 = .ok (.iload_n 3, 1) := by decide +kernel
theorem dX2_advance_25 : decode cX2_advance 25 = .ok (.ifCond .eq 104, 3) := by decide +kernel
theorem dX2_advance_28 : decode cX2_advance 28 = .ok (.aload_n 0, 1) := by decide +kernel
theorem dX2_advance_29 : decode cX2_advance 29 = .ok (.getfield 11, 3) := by decide +kernel
theorem dX2_advance_32 : decode cX2_advance 32 = .ok (.iload 4, 2) := by decide +kernel
theorem dX2_advance_34 : decode cX2_advance 34 = .ok (.baload, 1) := by decide +kernel
theorem dX2_advance_35 : decode cX2_advance 35 = .ok (.istore 5, 2) := by decide +kernel
theorem dX2_advance_37 : decode cX2_advance 37 = .ok (.iload_n 2, 1) := by decide +kernel
theorem dX2_advance_38 : decode cX2_advance 38 = .ok (.ifCond .eq 18, 3) := by decide +kernel
theorem dX2_advance_41 : decode cX2_advance 41 = .ok (.iload 5, 2) := by decide +kernel
theorem dX2_advance_43 : decode cX2_advance 43 = .ok (.bipush 10, 2) := by decide +kernel
theorem dX2_advance_45 : decode cX2_advance 45 = .ok (.if_icmp .eq 7, 3) := by decide +kernel
theorem dX2_advance_48 : decode cX2_advance 48 = .ok (.iconst 1, 1) := by decide +kernel
theorem dX2_advance_49 : decode cX2_advance 49 = .ok (.goto 33, 3) := by decide +kernel
theorem dX2_advance_52 : decode cX2_advance 52 = .ok (.iconst 0, 1) := by decide +kernel
theorem dX2_advance_53 : decode cX2_advance 53 = .ok (.goto 29, 3) := by decide +kernel
theorem dX2_advance_56 : decode cX2_advance 56 = .ok (.iload 5, 2) := by decide +kernel
theorem dX2_advance_58 : decode cX2_advance 58 = .ok (.bipush 45, 2) := by decide +kernel
theorem dX2_advance_60 : decode cX2_advance 60 = .ok (.if_icmp .ne 21, 3) := by decide +kernel
theorem dX2_advance_63 : decode cX2_advance 63 = .ok (.aload_n 0, 1) := by decide +kernel
theorem dX2_advance_64 : decode cX2_advance 64 = .ok (.getfield 11, 3) := by decide +kernel
theorem dX2_advance_67 : decode cX2_advance 67 = .ok (.iload 4, 2) := by decide +kernel
theorem dX2_advance_69 : decode cX2_advance 69 = .ok (.iconst 1, 1) := by decide +kernel
theorem dX2_advance_70 : decode cX2_advance 70 = .ok (.iadd, 1) := by decide +kernel
theorem dX2_advance_71 : decode cX2_advance 71 = .ok (.baload, 1) := by decide +kernel
theorem dX2_advance_72 : decode cX2_advance 72 = .ok (.bipush 45, 2) := by decide +kernel
theorem dX2_advance_74 : decode cX2_advance 74 = .ok (.if_icmp .ne 7, 3) := by decide +kernel
theorem dX2_advance_77 : decode cX2_advance 77 = .ok (.iconst 1, 1) := by decide +kernel
theorem dX2_advance_78 : decode cX2_advance 78 = .ok (.goto 4, 3) := by decide +kernel
theorem dX2_advance_81 : decode cX2_advance 81 = .ok (.iconst 0, 1) := by decide +kernel
theorem dX2_advance_82 : decode cX2_advance 82 = .ok (.istore_n 2, 1) := by decide +kernel
theorem dX2_advance_83 : decode cX2_advance 83 = .ok (.iload_n 2, 1) := by decide +kernel
theorem dX2_advance_84 : decode cX2_advance 84 = .ok (.ifCond .ne 19, 3) := by decide +kernel
theorem dX2_advance_87 : decode cX2_advance 87 = .ok (.iload 5, 2) := by decide +kernel
theorem dX2_advance_89 : decode cX2_advance 89 = .ok (.ifCond .lt 18, 3) := by decide +kernel
theorem dX2_advance_92 : decode cX2_advance 92 = .ok (.getstatic 46, 3) := by decide +kernel
theorem dX2_advance_95 : decode cX2_advance 95 = .ok (.iload 5, 2) := by decide +kernel
theorem dX2_advance_97 : decode cX2_advance 97 = .ok (.baload, 1) := by decide +kernel
theorem dX2_advance_98 : decode cX2_advance 98 = .ok (.bipush 31, 2) := by decide +kernel
theorem dX2_advance_100 : decode cX2_advance 100 = .ok (.if_icmp .ne 7, 3) := by decide +kernel
theorem dX2_advance_103 : decode cX2_advance 103 = .ok (.iconst 1, 1) := by decide +kernel
theorem dX2_advance_104 : decode cX2_advance 104 = .ok (.goto 4, 3) := by decide +kernel
theorem dX2_advance_107 : decode cX2_advance 107 = .ok (.iconst 0, 1) := by decide +kernel
theorem dX2_advance_108 : decode cX2_advance 108 = .ok (.istore_n 3, 1) := by decide +kernel
theorem dX2_advance_109 : decode cX2_advance 109 = .ok (.iload_n 3, 1) := by decide +kernel
theorem dX2_advance_110 : decode cX2_advance 110 = .ok (.ifCond .eq 10, 3) := by decide +kernel
theorem dX2_advance_113 : decode cX2_advance 113 = .ok (.iload 4, 2) := by decide +kernel
theorem dX2_advance_115 : decode cX2_advance 115 = .ok (.iconst 1, 1) := by decide +kernel
theorem dX2_advance_116 : decode cX2_advance 116 = .ok (.iadd, 1) := by decide +kernel
theorem dX2_advance_117 : decode cX2_advance 117 = .ok (.goto 5, 3) := by decide +kernel
theorem dX2_advance_120 : decode cX2_advance 120 = .ok (.iload 4, 2) := by decide +kernel
theorem dX2_advance_122 : decode cX2_advance 122 = .ok (.istore_n 1, 1) := by decide +kernel
theorem dX2_advance_123 : decode cX2_advance 123 = .ok (.iinc 4 1, 3) := by decide +kernel
theorem dX2_advance_126 : decode cX2_advance 126 = .ok (.goto (-111), 3) := by decide +kernel
theorem dX2_advance_129 : decode cX2_advance 129 = .ok (.aload_n 0, 1) := by decide +kernel
theorem dX2_advance_130 : decode cX2_advance 130 = .ok (.iload_n 1, 1) := by decide +kernel
theorem dX2_advance_131 : decode cX2_advance 131 = .ok (.putfield 49, 3) := by decide +kernel
theorem dX2_advance_134 : decode cX2_advance 134 = .ok (.aload_n 0, 1) := by decide +kernel
theorem dX2_advance_135 : decode cX2_advance 135 = .ok (.iload_n 1, 1) := by decide +kernel
theorem dX2_advance_136 : decode cX2_advance 136 = .ok (.aload_n 0, 1) := by decide +kernel
theorem dX2_advance_137 : decode cX2_advance 137 = .ok (.getfield 31, 3) := by decide +kernel
theorem dX2_advance_140 : decode cX2_advance 140 = .ok (.if_icmp .ge 9, 3) := by decide +kernel
theorem dX2_advance_143 : decode cX2_advance 143 = .ok (.iload_n 1, 1) := by decide +kernel
theorem dX2_advance_144 : decode cX2_advance 144 = .ok (.iconst 1, 1) := by decide +kernel
theorem dX2_advance_145 : decode cX2_advance 145 = .ok (.iadd, 1) := by decide +kernel
theorem dX2_advance_146 : decode cX2_advance 146 = .ok (.goto 4, 3) := by decide +kernel
theorem dX2_advance_149 : decode cX2_advance 149 = .ok (.iload_n 1, 1) := by decide +kernel
theorem dX2_advance_150 : decode cX2_advance 150 = .ok (.putfield 43, 3) := by decide +kernel
theorem dX2_advance_153 : decode cX2_advance 153 = .ok (.aload_n 0, 1) := by decide +kernel
theorem dX2_advance_154 : decode cX2_advance 154 = .ok (.iload_n 1, 1) := by decide +kernel
theorem dX2_advance_155 : decode cX2_advance 155 = .ok (.aload_n 0, 1) := by decide +kernel
theorem dX2_advance_156 : decode cX2_advance 156 = .ok (.getfield 31, 3) := by decide +kernel
theorem dX2_advance_159 : decode cX2_advance 159 = .ok (.if_icmp .lt 7, 3) := by decide +kernel
theorem dX2_advance_162 : decode cX2_advance 162 = .ok (.iconst 1, 1) := by decide +kernel
theorem dX2_advance_163 : decode cX2_advance 163 = .ok (.goto 26, 3) := by decide +kernel
theorem dX2_advance_166 : decode cX2_advance 166 = .ok (.aload_n 0, 1) := by decide +kernel
theorem dX2_advance_167 : decode cX2_advance 167 = .ok (.getfield 11, 3) := by decide +kernel
theorem dX2_advance_170 : decode cX2_advance 170 = .ok (.iload_n 1, 1) := by decide +kernel
theorem dX2_advance_171 : decode cX2_advance 171 = .ok (.baload, 1) := by decide +kernel
theorem dX2_advance_172 : decode cX2_advance 172 = .ok (.ifCond .ge 7, 3) := by decide +kernel
theorem dX2_advance_175 : decode cX2_advance 175 = .ok (.iconst 0, 1) := by decide +kernel
theorem dX2_advance_176 : decode cX2_advance 176 = .ok (.goto 13, 3) := by decide +kernel
theorem dX2_advance_179 : decode cX2_advance 179 = .ok (.getstatic 46, 3) := by decide +kernel
theorem dX2_advance_182 : decode cX2_advance 182 = .ok (.aload_n 0, 1) := by decide +kernel
theorem dX2_advance_183 : decode cX2_advance 183 = .ok (.getfield 11, 3) := by decide +kernel
theorem dX2_advance_186 : decode cX2_advance 186 = .ok (.iload_n 1, 1) := by decide +kernel
theorem dX2_advance_187 : decode cX2_advance 187 = .ok (.baload, 1) := by decide +kernel
theorem dX2_advance_188 : decode cX2_advance 188 = .ok (.baload, 1) := by decide +kernel
theorem dX2_advance_189 : decode cX2_advance 189 = .ok (.putfield 52, 3) := by decide +kernel
theorem dX2_advance_192 : decode cX2_advance 192 = .ok (.aload_n 0, 1) := by decide +kernel
theorem dX2_advance_193 : decode cX2_advance 193 = .ok (.getfield 11, 3) := by decide +kernel
theorem dX2_advance_196 : decode cX2_advance 196 = .ok (.aload_n 0, 1) := by decide +kernel
theorem dX2_advance_197 : decode cX2_advance 197 = .ok (.getfield 43, 3) := by decide +kernel
theorem dX2_advance_200 : decode cX2_advance 200 = .ok (.baload, 1) := by decide +kernel
theorem dX2_advance_201 : decode cX2_advance 201 = .ok (.istore 4, 2) := by decide +kernel
theorem dX2_advance_203 : decode cX2_advance 203 = .ok (.aload_n 0, 1) := by decide +kernel
theorem dX2_advance_204 : decode cX2_advance 204 = .ok (.getfield 52, 3) := by decide +kernel
theorem dX2_advance_207 : decode cX2_advance 207 = .ok (.iconst 2, 1) := by decide +kernel
theorem dX2_advance_208 : decode cX2_advance 208 = .ok (.if_icmp .ne 248, 3) := by decide +kernel
theorem dX2_advance_211 : decode cX2_advance 211 = .ok (.aload_n 0, 1) := by decide +kernel
theorem dX2_advance_212 : decode cX2_advance 212 = .ok (.lconst 0, 1) := by decide +kernel
theorem dX2_advance_213 : decode cX2_advance 213 = .ok (.putfield 55, 3) := by decide +kernel
theorem dX2_advance_216 : decode cX2_advance 216 = .ok (.aload_n 0, 1) := by decide +kernel
theorem dX2_advance_217 : decode cX2_advance 217 = .ok (.lconst 0, 1) := by decide +kernel
theorem dX2_advance_218 : decode cX2_advance 218 = .ok (.putfield 59, 3) := by decide +kernel
theorem dX2_advance_221 : decode cX2_advance 221 = .ok (.iconst 2, 1) := by decide +kernel
theorem dX2_advance_222 : decode cX2_advance 222 = .ok (.istore 5, 2) := by decide +kernel
theorem dX2_advance_224 : decode cX2_advance 224 = .ok (.iload_n 1, 1) := by decide +kernel
theorem dX2_advance_225 : decode cX2_advance 225 = .ok (.istore 6, 2) := by decide +kernel
theorem dX2_advance_227 : decode cX2_advance 227 = .ok (.iload 6, 2) := by decide +kernel
theorem dX2_advance_229 : decode cX2_advance 229 = .ok (.aload_n 0, 1) := by decide +kernel
theorem dX2_advance_230 : decode cX2_advance 230 = .ok (.getfield 31, 3) := by decide +kernel
theorem dX2_advance_233 : decode cX2_advance 233 = .ok (.if_icmp .ge 139, 3) := by decide +kernel
theorem dX2_advance_236 : decode cX2_advance 236 = .ok (.iload 5, 2) := by decide +kernel
theorem dX2_advance_238 : decode cX2_advance 238 = .ok (.iconst 2, 1) := by decide +kernel
theorem dX2_advance_239 : decode cX2_advance 239 = .ok (.if_icmp .eq 16, 3) := by decide +kernel
theorem dX2_advance_242 : decode cX2_advance 242 = .ok (.iload 5, 2) := by decide +kernel
theorem dX2_advance_244 : decode cX2_advance 244 = .ok (.iconst 3, 1) := by decide +kernel
theorem dX2_advance_245 : decode cX2_advance 245 = .ok (.if_icmp .eq 10, 3) := by decide +kernel
theorem dX2_advance_248 : decode cX2_advance 248 = .ok (.iload 5, 2) := by decide +kernel
theorem dX2_advance_250 : decode cX2_advance 250 = .ok (.bipush 30, 2) := by decide +kernel
theorem dX2_advance_252 : decode cX2_advance 252 = .ok (.if_icmp .ne 120, 3) := by decide +kernel
theorem dX2_advance_255 : decode cX2_advance 255 = .ok (.aload_n 0, 1) := by decide +kernel
theorem dX2_advance_256 : decode cX2_advance 256 = .ok (.iload 6, 2) := by decide +kernel
theorem dX2_advance_258 : decode cX2_advance 258 = .ok (.iload_n 1, 1) := by decide +kernel
theorem dX2_advance_259 : decode cX2_advance 259 = .ok (.isub, 1) := by decide +kernel
theorem dX2_advance_260 : decode cX2_advance 260 = .ok (.bipush 8, 2) := by decide +kernel
theorem dX2_advance_262 : decode cX2_advance 262 = .ok (.if_icmp .ge 22, 3) := by decide +kernel
theorem dX2_advance_265 : decode cX2_advance 265 = .ok (.aload_n 0, 1) := by decide +kernel
theorem dX2_advance_266 : decode cX2_advance 266 = .ok (.getfield 55, 3) := by decide +kernel
theorem dX2_advance_269 : decode cX2_advance 269 = .ok (.bipush 8, 2) := by decide +kernel
theorem dX2_advance_271 : decode cX2_advance 271 = .ok (.lshl, 1) := by decide +kernel
theorem dX2_advance_272 : decode cX2_advance 272 = .ok (.aload_n 0, 1) := by decide +kernel
theorem dX2_advance_273 : decode cX2_advance 273 = .ok (.getfield 11, 3) := by decide +kernel
theorem dX2_advance_276 : decode cX2_advance 276 = .ok (.iload 6, 2) := by decide +kernel
theorem dX2_advance_278 : decode cX2_advance 278 = .ok (.baload, 1) := by decide +kernel
theorem dX2_advance_279 : decode cX2_advance 279 = .ok (.i2l, 1) := by decide +kernel
theorem dX2_advance_280 : decode cX2_advance 280 = .ok (.lor, 1) := by decide +kernel
theorem dX2_advance_281 : decode cX2_advance 281 = .ok (.goto 7, 3) := by decide +kernel
theorem dX2_advance_284 : decode cX2_advance 284 = .ok (.aload_n 0, 1) := by decide +kernel
theorem dX2_advance_285 : decode cX2_advance 285 = .ok (.getfield 55, 3) := by decide +kernel
theorem dX2_advance_288 : decode cX2_advance 288 = .ok (.putfield 55, 3) := by decide +kernel
theorem dX2_advance_291 : decode cX2_advance 291 = .ok (.aload_n 0, 1) := by decide +kernel
theorem dX2_advance_292 : decode cX2_advance 292 = .ok (.iload 6, 2) := by decide +kernel
theorem dX2_advance_294 : decode cX2_advance 294 = .ok (.iload_n 1, 1) := by decide +kernel
theorem dX2_advance_295 : decode cX2_advance 295 = .ok (.isub, 1) := by decide +kernel
theorem dX2_advance_296 : decode cX2_advance 296 = .ok (.bipush 8, 2) := by decide +kernel
theorem dX2_advance_298 : decode cX2_advance 298 = .ok (.if_icmp .ge 10, 3) := by decide +kernel
theorem dX2_advance_301 : decode cX2_advance 301 = .ok (.aload_n 0, 1) := by decide +kernel
theorem dX2_advance_302 : decode cX2_advance 302 = .ok (.getfield 59, 3) := by decide +kernel
theorem dX2_advance_305 : decode cX2_advance 305 = .ok (.goto 19, 3) := by decide +kernel
theorem dX2_advance_308 : decode cX2_advance 308 = .ok (.aload_n 0, 1) := by decide +kernel
theorem dX2_advance_309 : decode cX2_advance 309 = .ok (.getfield 59, 3) := by decide +kernel
theorem dX2_advance_312 : decode cX2_advance 312 = .ok (.bipush 8, 2) := by decide +kernel
theorem dX2_advance_314 : decode cX2_advance 314 = .ok (.lshl, 1) := by decide +kernel
theorem dX2_advance_315 : decode cX2_advance 315 = .ok (.aload_n 0, 1) := by decide +kernel
theorem dX2_advance_316 : decode cX2_advance 316 = .ok (.getfield 11, 3) := by decide +kernel
theorem dX2_advance_319 : decode cX2_advance 319 = .ok (.iload 6, 2) := by decide +kernel
theorem dX2_advance_321 : decode cX2_advance 321 = .ok (.baload, 1) := by decide +kernel
theorem dX2_advance_322 : decode cX2_advance 322 = .ok (.i2l, 1) := by decide +kernel
theorem dX2_advance_323 : decode cX2_advance 323 = .ok (.lor, 1) := by decide +kernel
theorem dX2_advance_324 : decode cX2_advance 324 = .ok (.putfield 59, 3) := by decide +kernel
theorem dX2_advance_327 : decode cX2_advance 327 = .ok (.aload_n 0, 1) := by decide +kernel
theorem dX2_advance_328 : decode cX2_advance 328 = .ok (.iload 6, 2) := by decide +kernel
theorem dX2_advance_330 : decode cX2_advance 330 = .ok (.iconst 1, 1) := by decide +kernel
theorem dX2_advance_331 : decode cX2_advance 331 = .ok (.iadd, 1) := by decide +kernel
theorem dX2_advance_332 : decode cX2_advance 332 = .ok (.putfield 43, 3) := by decide +kernel
theorem dX2_advance_335 : decode cX2_advance 335 = .ok (.aload_n 0, 1) := by decide +kernel
theorem dX2_advance_336 : decode cX2_advance 336 = .ok (.getfield 11, 3) := by decide +kernel
theorem dX2_advance_339 : decode cX2_advance 339 = .ok (.aload_n 0, 1) := by decide +kernel
theorem dX2_advance_340 : decode cX2_advance 340 = .ok (.getfield 43, 3) := by decide +kernel
theorem dX2_advance_343 : decode cX2_advance 343 = .ok (.baload, 1) := by decide +kernel
theorem dX2_advance_344 : decode cX2_advance 344 = .ok (.ifCond .ge 7, 3) := by decide +kernel
theorem dX2_advance_347 : decode cX2_advance 347 = .ok (.iconst 0, 1) := by decide +kernel
theorem dX2_advance_348 : decode cX2_advance 348 = .ok (.goto 16, 3) := by decide +kernel
theorem dX2_advance_351 : decode cX2_advance 351 = .ok (.getstatic 46, 3) := by decide +kernel
theorem dX2_advance_354 : decode cX2_advance 354 = .ok (.aload_n 0, 1) := by decide +kernel
theorem dX2_advance_355 : decode cX2_advance 355 = .ok (.getfield 11, 3) := by decide +kernel
theorem dX2_advance_358 : decode cX2_advance 358 = .ok (.aload_n 0, 1) := by decide +kernel
theorem dX2_advance_359 : decode cX2_advance 359 = .ok (.getfield 43, 3) := by decide +kernel
theorem dX2_advance_362 : decode cX2_advance 362 = .ok (.baload, 1) := by decide +kernel
theorem dX2_advance_363 : decode cX2_advance 363 = .ok (.baload, 1) := by decide +kernel
theorem dX2_advance_364 : decode cX2_advance 364 = .ok (.istore 5, 2) := by decide +kernel
theorem dX2_advance_366 : decode cX2_advance 366 = .ok (.iinc 6 1, 3) := by decide +kernel
theorem dX2_advance_369 : decode cX2_advance 369 = .ok (.goto (-142), 3) := by decide +kernel
theorem dX2_advance_372 : decode cX2_advance 372 = .ok (.aload_n 0, 1) := by decide +kernel
theorem dX2_advance_373 : decode cX2_advance 373 = .ok (.aload_n 0, 1) := by decide +kernel
theorem dX2_advance_374 : decode cX2_advance 374 = .ok (.getfield 43, 3) := by decide +kernel
theorem dX2_advance_377 : decode cX2_advance 377 = .ok (.iload_n 1, 1) := by decide +kernel
theorem dX2_advance_378 : decode cX2_advance 378 = .ok (.isub, 1) := by decide +kernel
theorem dX2_advance_379 : decode cX2_advance 379 = .ok (.bipush 16, 2) := by decide +kernel
theorem dX2_advance_381 : decode cX2_advance 381 = .ok (.if_icmp .le 7, 3) := by decide +kernel
theorem dX2_advance_384 : decode cX2_advance 384 = .ok (.iconst 0, 1) := by decide +kernel
theorem dX2_advance_385 : decode cX2_advance 385 = .ok (.goto 4, 3) := by decide +kernel
theorem dX2_advance_388 : decode cX2_advance 388 = .ok (.iconst 2, 1) := by decide +kernel
theorem dX2_advance_389 : decode cX2_advance 389 = .ok (.putfield 52, 3) := by decide +kernel
theorem dX2_advance_392 : decode cX2_advance 392 = .ok (.iconst 0, 1) := by decide +kernel
theorem dX2_advance_393 : decode cX2_advance 393 = .ok (.istore 6, 2) := by decide +kernel
theorem dX2_advance_395 : decode cX2_advance 395 = .ok (.iload 6, 2) := by decide +kernel
theorem dX2_advance_397 : decode cX2_advance 397 = .ok (.aload_n 0, 1) := by decide +kernel
theorem dX2_advance_398 : decode cX2_advance 398 = .ok (.getfield 15, 3) := by decide +kernel
theorem dX2_advance_401 : decode cX2_advance 401 = .ok (.arraylength, 1) := by decide +kernel
theorem dX2_advance_402 : decode cX2_advance 402 = .ok (.if_icmp .ge 51, 3) := by decide +kernel
theorem dX2_advance_405 : decode cX2_advance 405 = .ok (.aload_n 0, 1) := by decide +kernel
theorem dX2_advance_406 : decode cX2_advance 406 = .ok (.getfield 43, 3) := by decide +kernel
theorem dX2_advance_409 : decode cX2_advance 409 = .ok (.iload_n 1, 1) := by decide +kernel
theorem dX2_advance_410 : decode cX2_advance 410 = .ok (.isub, 1) := by decide +kernel
theorem dX2_advance_411 : decode cX2_advance 411 = .ok (.bipush 8, 2) := by decide +kernel
theorem dX2_advance_413 : decode cX2_advance 413 = .ok (.if_icmp .gt 40, 3) := by decide +kernel
theorem dX2_advance_416 : decode cX2_advance 416 = .ok (.aload_n 0, 1) := by decide +kernel
theorem dX2_advance_417 : decode cX2_advance 417 = .ok (.aload_n 0, 1) := by decide +kernel
theorem dX2_advance_418 : decode cX2_advance 418 = .ok (.getfield 15, 3) := by decide +kernel
theorem dX2_advance_421 : decode cX2_advance 421 = .ok (.iload 6, 2) := by decide +kernel
theorem dX2_advance_423 : decode cX2_advance 423 = .ok (.laload, 1) := by decide +kernel
theorem dX2_advance_424 : decode cX2_advance 424 = .ok (.aload_n 0, 1) := by decide +kernel
theorem dX2_advance_425 : decode cX2_advance 425 = .ok (.getfield 55, 3) := by decide +kernel
theorem dX2_advance_428 : decode cX2_advance 428 = .ok (.lcmp, 1) := by decide +kernel
theorem dX2_advance_429 : decode cX2_advance 429 = .ok (.ifCond .ne 11, 3) := by decide +kernel
theorem dX2_advance_432 : decode cX2_advance 432 = .ok (.bipush 32, 2) := by decide +kernel
theorem dX2_advance_434 : decode cX2_advance 434 = .ok (.iload 6, 2) := by decide +kernel
theorem dX2_advance_436 : decode cX2_advance 436 = .ok (.iadd, 1) := by decide +kernel
theorem dX2_advance_437 : decode cX2_advance 437 = .ok (.goto 7, 3) := by decide +kernel
theorem dX2_advance_440 : decode cX2_advance 440 = .ok (.aload_n 0, 1) := by decide +kernel
theorem dX2_advance_441 : decode cX2_advance 441 = .ok (.getfield 52, 3) := by decide +kernel
theorem dX2_advance_444 : decode cX2_advance 444 = .ok (.putfield 52, 3) := by decide +kernel
theorem dX2_advance_447 : decode cX2_advance 447 = .ok (.iinc 6 1, 3) := by decide +kernel
theorem dX2_advance_450 : decode cX2_advance 450 = .ok (.goto (-55), 3) := by decide +kernel
theorem dX2_advance_453 : decode cX2_advance 453 = .ok (.goto 363, 3) := by decide +kernel
theorem dX2_advance_456 : decode cX2_advance 456 = .ok (.aload_n 0, 1) := by decide +kernel
theorem dX2_advance_457 : decode cX2_advance 457 = .ok (.getfield 52, 3) := by decide +kernel
theorem dX2_advance_460 : decode cX2_advance 460 = .ok (.iconst 3, 1) := by decide +kernel
theorem dX2_advance_461 : decode cX2_advance 461 = .ok (.if_icmp .ne 76, 3) := by decide +kernel
theorem dX2_advance_464 : decode cX2_advance 464 = .ok (.iload_n 1, 1) := by decide +kernel
theorem dX2_advance_465 : decode cX2_advance 465 = .ok (.istore 5, 2) := by decide +kernel
theorem dX2_advance_467 : decode cX2_advance 467 = .ok (.iload 5, 2) := by decide +kernel
theorem dX2_advance_469 : decode cX2_advance 469 = .ok (.aload_n 0, 1) := by decide +kernel
theorem dX2_advance_470 : decode cX2_advance 470 = .ok (.getfield 31, 3) := by decide +kernel
theorem dX2_advance_473 : decode cX2_advance 473 = .ok (.if_icmp .ge 41, 3) := by decide +kernel
theorem dX2_advance_476 : decode cX2_advance 476 = .ok (.aload_n 0, 1) := by decide +kernel
theorem dX2_advance_477 : decode cX2_advance 477 = .ok (.getfield 11, 3) := by decide +kernel
theorem dX2_advance_480 : decode cX2_advance 480 = .ok (.iload 5, 2) := by decide +kernel
theorem dX2_advance_482 : decode cX2_advance 482 = .ok (.baload, 1) := by decide +kernel
theorem dX2_advance_483 : decode cX2_advance 483 = .ok (.bipush 48, 2) := by decide +kernel
theorem dX2_advance_485 : decode cX2_advance 485 = .ok (.if_icmp .lt 29, 3) := by decide +kernel
theorem dX2_advance_488 : decode cX2_advance 488 = .ok (.aload_n 0, 1) := by decide +kernel
theorem dX2_advance_489 : decode cX2_advance 489 = .ok (.getfield 11, 3) := by decide +kernel
theorem dX2_advance_492 : decode cX2_advance 492 = .ok (.iload 5, 2) := by decide +kernel
theorem dX2_advance_494 : decode cX2_advance 494 = .ok (.baload, 1) := by decide +kernel
theorem dX2_advance_495 : decode cX2_advance 495 = .ok (.bipush 57, 2) := by decide +kernel
theorem dX2_advance_497 : decode cX2_advance 497 = .ok (.if_icmp .gt 17, 3) := by decide +kernel
theorem dX2_advance_500 : decode cX2_advance 500 = .ok (.aload_n 0, 1) := by decide +kernel
theorem dX2_advance_501 : decode cX2_advance 501 = .ok (.iload 5, 2) := by decide +kernel
theorem dX2_advance_503 : decode cX2_advance 503 = .ok (.iconst 1, 1) := by decide +kernel
theorem dX2_advance_504 : decode cX2_advance 504 = .ok (.iadd, 1) := by decide +kernel
theorem dX2_advance_505 : decode cX2_advance 505 = .ok (.putfield 43, 3) := by decide +kernel
theorem dX2_advance_508 : decode cX2_advance 508 = .ok (.iinc 5 1, 3) := by decide +kernel
theorem dX2_advance_511 : decode cX2_advance 511 = .ok (.goto (-44), 3) := by decide +kernel
theorem dX2_advance_514 : decode cX2_advance 514 = .ok (.aload_n 0, 1) := by decide +kernel
theorem dX2_advance_515 : decode cX2_advance 515 = .ok (.aload_n 0, 1) := by decide +kernel
theorem dX2_advance_516 : decode cX2_advance 516 = .ok (.getfield 43, 3) := by decide +kernel
theorem dX2_advance_519 : decode cX2_advance 519 = .ok (.iload_n 1, 1) := by decide +kernel
theorem dX2_advance_520 : decode cX2_advance 520 = .ok (.isub, 1) := by decide +kernel
theorem dX2_advance_521 : decode cX2_advance 521 = .ok (.bipush 60, 2) := by decide +kernel
theorem dX2_advance_523 : decode cX2_advance 523 = .ok (.if_icmp .le 7, 3) := by decide +kernel
theorem dX2_advance_526 : decode cX2_advance 526 = .ok (.iconst 0, 1) := by decide +kernel
theorem dX2_advance_527 : decode cX2_advance 527 = .ok (.goto 4, 3) := by decide +kernel
theorem dX2_advance_530 : decode cX2_advance 530 = .ok (.iconst 3, 1) := by decide +kernel
theorem dX2_advance_531 : decode cX2_advance 531 = .ok (.putfield 52, 3) := by decide +kernel
theorem dX2_advance_534 : decode cX2_advance 534 = .ok (.goto 282, 3) := by decide +kernel
theorem dX2_advance_537 : decode cX2_advance 537 = .ok (.aload_n 0, 1) := by decide +kernel
theorem dX2_advance_538 : decode cX2_advance 538 = .ok (.getfield 52, 3) := by decide +kernel
theorem dX2_advance_541 : decode cX2_advance 541 = .ok (.iconst 4, 1) := by decide +kernel
theorem dX2_advance_542 : decode cX2_advance 542 = .ok (.if_icmp .ne 119, 3) := by decide +kernel
theorem dX2_advance_545 : decode cX2_advance 545 = .ok (.iload_n 1, 1) := by decide +kernel
theorem dX2_advance_546 : decode cX2_advance 546 = .ok (.iconst 1, 1) := by decide +kernel
theorem dX2_advance_547 : decode cX2_advance 547 = .ok (.iadd, 1) := by decide +kernel
theorem dX2_advance_548 : decode cX2_advance 548 = .ok (.istore 5, 2) := by decide +kernel
theorem dX2_advance_550 : decode cX2_advance 550 = .ok (.iload 5, 2) := by decide +kernel
theorem dX2_advance_552 : decode cX2_advance 552 = .ok (.aload_n 0, 1) := by decide +kernel
theorem dX2_advance_553 : decode cX2_advance 553 = .ok (.getfield 31, 3) := by decide +kernel
theorem dX2_advance_556 : decode cX2_advance 556 = .ok (.if_icmp .ge 45, 3) := by decide +kernel
theorem dX2_advance_559 : decode cX2_advance 559 = .ok (.aload_n 0, 1) := by decide +kernel
theorem dX2_advance_560 : decode cX2_advance 560 = .ok (.getfield 11, 3) := by decide +kernel
theorem dX2_advance_563 : decode cX2_advance 563 = .ok (.iload 5, 2) := by decide +kernel
theorem dX2_advance_565 : decode cX2_advance 565 = .ok (.baload, 1) := by decide +kernel
theorem dX2_advance_566 : decode cX2_advance 566 = .ok (.sipush 255, 3) := by decide +kernel
theorem dX2_advance_569 : decode cX2_advance 569 = .ok (.iand, 1) := by decide +kernel
theorem dX2_advance_570 : decode cX2_advance 570 = .ok (.bipush 32, 2) := by decide +kernel
theorem dX2_advance_572 : decode cX2_advance 572 = .ok (.if_icmp .lt 29, 3) := by decide +kernel
theorem dX2_advance_575 : decode cX2_advance 575 = .ok (.aload_n 0, 1) := by decide +kernel
theorem dX2_advance_576 : decode cX2_advance 576 = .ok (.getfield 11, 3) := by decide +kernel
theorem dX2_advance_579 : decode cX2_advance 579 = .ok (.iload 5, 2) := by decide +kernel
theorem dX2_advance_581 : decode cX2_advance 581 = .ok (.baload, 1) := by decide +kernel
theorem dX2_advance_582 : decode cX2_advance 582 = .ok (.bipush 34, 2) := by decide +kernel
theorem dX2_advance_584 : decode cX2_advance 584 = .ok (.if_icmp .eq 17, 3) := by decide +kernel
theorem dX2_advance_587 : decode cX2_advance 587 = .ok (.aload_n 0, 1) := by decide +kernel
theorem dX2_advance_588 : decode cX2_advance 588 = .ok (.iload 5, 2) := by decide +kernel
theorem dX2_advance_590 : decode cX2_advance 590 = .ok (.iconst 1, 1) := by decide +kernel
theorem dX2_advance_591 : decode cX2_advance 591 = .ok (.iadd, 1) := by decide +kernel
theorem dX2_advance_592 : decode cX2_advance 592 = .ok (.putfield 43, 3) := by decide +kernel
theorem dX2_advance_595 : decode cX2_advance 595 = .ok (.iinc 5 1, 3) := by decide +kernel
theorem dX2_advance_598 : decode cX2_advance 598 = .ok (.goto (-48), 3) := by decide +kernel
theorem dX2_advance_601 : decode cX2_advance 601 = .ok (.aload_n 0, 1) := by decide +kernel
theorem dX2_advance_602 : decode cX2_advance 602 = .ok (.aload_n 0, 1) := by decide +kernel
theorem dX2_advance_603 : decode cX2_advance 603 = .ok (.getfield 43, 3) := by decide +kernel
theorem dX2_advance_606 : decode cX2_advance 606 = .ok (.aload_n 0, 1) := by decide +kernel
theorem dX2_advance_607 : decode cX2_advance 607 = .ok (.getfield 31, 3) := by decide +kernel
theorem dX2_advance_610 : decode cX2_advance 610 = .ok (.if_icmp .ge 34, 3) := by decide +kernel
theorem dX2_advance_613 : decode cX2_advance 613 = .ok (.aload_n 0, 1) := by decide +kernel
theorem dX2_advance_614 : decode cX2_advance 614 = .ok (.getfield 11, 3) := by decide +kernel
theorem dX2_advance_617 : decode cX2_advance 617 = .ok (.aload_n 0, 1) := by decide +kernel
theorem dX2_advance_618 : decode cX2_advance 618 = .ok (.getfield 43, 3) := by decide +kernel
theorem dX2_advance_621 : decode cX2_advance 621 = .ok (.baload, 1) := by decide +kernel
theorem dX2_advance_622 : decode cX2_advance 622 = .ok (.bipush 34, 2) := by decide +kernel
theorem dX2_advance_624 : decode cX2_advance 624 = .ok (.if_icmp .ne 20, 3) := by decide +kernel
theorem dX2_advance_627 : decode cX2_advance 627 = .ok (.aload_n 0, 1) := by decide +kernel
theorem dX2_advance_628 : decode cX2_advance 628 = .ok (.getfield 43, 3) := by decide +kernel
theorem dX2_advance_631 : decode cX2_advance 631 = .ok (.iload_n 1, 1) := by decide +kernel
theorem dX2_advance_632 : decode cX2_advance 632 = .ok (.isub, 1) := by decide +kernel
theorem dX2_advance_633 : decode cX2_advance 633 = .ok (.iconst 1, 1) := by decide +kernel
theorem dX2_advance_634 : decode cX2_advance 634 = .ok (.isub, 1) := by decide +kernel
theorem dX2_advance_635 : decode cX2_advance 635 = .ok (.bipush 100, 2) := by decide +kernel
theorem dX2_advance_637 : decode cX2_advance 637 = .ok (.if_icmp .gt 7, 3) := by decide +kernel
theorem dX2_advance_640 : decode cX2_advance 640 = .ok (.iconst 4, 1) := by decide +kernel
theorem dX2_advance_641 : decode cX2_advance 641 = .ok (.goto 4, 3) := by decide +kernel
theorem dX2_advance_644 : decode cX2_advance 644 = .ok (.iconst 0, 1) := by decide +kernel
theorem dX2_advance_645 : decode cX2_advance 645 = .ok (.putfield 52, 3) := by decide +kernel
theorem dX2_advance_648 : decode cX2_advance 648 = .ok (.aload_n 0, 1) := by decide +kernel
theorem dX2_advance_649 : decode cX2_advance 649 = .ok (.dup, 1) := by decide +kernel
theorem dX2_advance_650 : decode cX2_advance 650 = .ok (.getfield 43, 3) := by decide +kernel
theorem dX2_advance_653 : decode cX2_advance 653 = .ok (.iconst 1, 1) := by decide +kernel
theorem dX2_advance_654 : decode cX2_advance 654 = .ok (.iadd, 1) := by decide +kernel
theorem dX2_advance_655 : decode cX2_advance 655 = .ok (.putfield 43, 3) := by decide +kernel
theorem dX2_advance_658 : decode cX2_advance 658 = .ok (.goto 158, 3) := by decide +kernel
theorem dX2_advance_661 : decode cX2_advance 661 = .ok (.iload 4, 2) := by decide +kernel
theorem dX2_advance_663 : decode cX2_advance 663 = .ok (.bipush 61, 2) := by decide +kernel
theorem dX2_advance_665 : decode cX2_advance 665 = .ok (.if_icmp .ne 89, 3) := by decide +kernel
theorem dX2_advance_668 : decode cX2_advance 668 = .ok (.aload_n 0, 1) := by decide +kernel
theorem dX2_advance_669 : decode cX2_advance 669 = .ok (.getfield 52, 3) := by decide +kernel
theorem dX2_advance_672 : decode cX2_advance 672 = .ok (.bipush 27, 2) := by decide +kernel
theorem dX2_advance_674 : decode cX2_advance 674 = .ok (.if_icmp .eq 30, 3) := by decide +kernel
theorem dX2_advance_677 : decode cX2_advance 677 = .ok (.aload_n 0, 1) := by decide +kernel
theorem dX2_advance_678 : decode cX2_advance 678 = .ok (.getfield 52, 3) := by decide +kernel
theorem dX2_advance_681 : decode cX2_advance 681 = .ok (.bipush 22, 2) := by decide +kernel
theorem dX2_advance_683 : decode cX2_advance 683 = .ok (.if_icmp .eq 21, 3) := by decide +kernel
theorem dX2_advance_686 : decode cX2_advance 686 = .ok (.aload_n 0, 1) := by decide +kernel
theorem dX2_advance_687 : decode cX2_advance 687 = .ok (.getfield 52, 3) := by decide +kernel
theorem dX2_advance_690 : decode cX2_advance 690 = .ok (.bipush 24, 2) := by decide +kernel
theorem dX2_advance_692 : decode cX2_advance 692 = .ok (.if_icmp .eq 12, 3) := by decide +kernel
theorem dX2_advance_695 : decode cX2_advance 695 = .ok (.aload_n 0, 1) := by decide +kernel
theorem dX2_advance_696 : decode cX2_advance 696 = .ok (.getfield 52, 3) := by decide +kernel
theorem dX2_advance_699 : decode cX2_advance 699 = .ok (.bipush 18, 2) := by decide +kernel
theorem dX2_advance_701 : decode cX2_advance 701 = .ok (.if_icmp .ne 53, 3) := by decide +kernel
theorem dX2_advance_704 : decode cX2_advance 704 = .ok (.aload_n 0, 1) := by decide +kernel
theorem dX2_advance_705 : decode cX2_advance 705 = .ok (.aload_n 0, 1) := by decide +kernel
theorem dX2_advance_706 : decode cX2_advance 706 = .ok (.getfield 52, 3) := by decide +kernel
theorem dX2_advance_709 : decode cX2_advance 709 = .ok (.bipush 18, 2) := by decide +kernel
theorem dX2_advance_711 : decode cX2_advance 711 = .ok (.if_icmp .ne 7, 3) := by decide +kernel
theorem dX2_advance_714 : decode cX2_advance 714 = .ok (.iconst 5, 1) := by decide +kernel
theorem dX2_advance_715 : decode cX2_advance 715 = .ok (.goto 23, 3) := by decide +kernel
theorem dX2_advance_718 : decode cX2_advance 718 = .ok (.aload_n 0, 1) := by decide +kernel
theorem dX2_advance_719 : decode cX2_advance 719 = .ok (.getfield 52, 3) := by decide +kernel
theorem dX2_advance_722 : decode cX2_advance 722 = .ok (.bipush 27, 2) := by decide +kernel
theorem dX2_advance_724 : decode cX2_advance 724 = .ok (.if_icmp .ne 8, 3) := by decide +kernel
theorem dX2_advance_727 : decode cX2_advance 727 = .ok (.bipush 21, 2) := by decide +kernel
theorem dX2_advance_729 : decode cX2_advance 729 = .ok (.goto 9, 3) := by decide +kernel
theorem dX2_advance_732 : decode cX2_advance 732 = .ok (.aload_n 0, 1) := by decide +kernel
theorem dX2_advance_733 : decode cX2_advance 733 = .ok (.getfield 52, 3) := by decide +kernel
theorem dX2_advance_736 : decode cX2_advance 736 = .ok (.iconst 1, 1) := by decide +kernel
theorem dX2_advance_737 : decode cX2_advance 737 = .ok (.iadd, 1) := by decide +kernel
theorem dX2_advance_738 : decode cX2_advance 738 = .ok (.putfield 52, 3) := by decide +kernel
theorem dX2_advance_741 : decode cX2_advance 741 = .ok (.aload_n 0, 1) := by decide +kernel
theorem dX2_advance_742 : decode cX2_advance 742 = .ok (.dup, 1) := by decide +kernel
theorem dX2_advance_743 : decode cX2_advance 743 = .ok (.getfield 43, 3) := by decide +kernel
theorem dX2_advance_746 : decode cX2_advance 746 = .ok (.iconst 1, 1) := by decide +kernel
theorem dX2_advance_747 : decode cX2_advance 747 = .ok (.iadd, 1) := by decide +kernel
theorem dX2_advance_748 : decode cX2_advance 748 = .ok (.putfield 43, 3) := by decide +kernel
theorem dX2_advance_751 : decode cX2_advance 751 = .ok (.goto 65, 3) := by decide +kernel
theorem dX2_advance_754 : decode cX2_advance 754 = .ok (.aload_n 0, 1) := by decide +kernel
theorem dX2_advance_755 : decode cX2_advance 755 = .ok (.getfield 52, 3) := by decide +kernel
theorem dX2_advance_758 : decode cX2_advance 758 = .ok (.bipush 8, 2) := by decide +kernel
theorem dX2_advance_760 : decode cX2_advance 760 = .ok (.if_icmp .ne 10, 3) := by decide +kernel
theorem dX2_advance_763 : decode cX2_advance 763 = .ok (.iload 4, 2) := by decide +kernel
theorem dX2_advance_765 : decode cX2_advance 765 = .ok (.bipush 42, 2) := by decide +kernel
theorem dX2_advance_767 : decode cX2_advance 767 = .ok (.if_icmp .eq 19, 3) := by decide +kernel
theorem dX2_advance_770 : decode cX2_advance 770 = .ok (.aload_n 0, 1) := by decide +kernel
theorem dX2_advance_771 : decode cX2_advance 771 = .ok (.getfield 52, 3) := by decide +kernel
theorem dX2_advance_774 : decode cX2_advance 774 = .ok (.bipush 29, 2) := by decide +kernel
theorem dX2_advance_776 : decode cX2_advance 776 = .ok (.if_icmp .ne 40, 3) := by decide +kernel
theorem dX2_advance_779 : decode cX2_advance 779 = .ok (.iload 4, 2) := by decide +kernel
theorem dX2_advance_781 : decode cX2_advance 781 = .ok (.bipush 46, 2) := by decide +kernel
theorem dX2_advance_783 : decode cX2_advance 783 = .ok (.if_icmp .ne 33, 3) := by decide +kernel
theorem dX2_advance_786 : decode cX2_advance 786 = .ok (.aload_n 0, 1) := by decide +kernel
theorem dX2_advance_787 : decode cX2_advance 787 = .ok (.aload_n 0, 1) := by decide +kernel
theorem dX2_advance_788 : decode cX2_advance 788 = .ok (.getfield 52, 3) := by decide +kernel
theorem dX2_advance_791 : decode cX2_advance 791 = .ok (.bipush 8, 2) := by decide +kernel
theorem dX2_advance_793 : decode cX2_advance 793 = .ok (.if_icmp .ne 8, 3) := by decide +kernel
theorem dX2_advance_796 : decode cX2_advance 796 = .ok (.bipush 9, 2) := by decide +kernel
theorem dX2_advance_798 : decode cX2_advance 798 = .ok (.goto 5, 3) := by decide +kernel
theorem dX2_advance_801 : decode cX2_advance 801 = .ok (.bipush 28, 2) := by decide +kernel
theorem dX2_advance_803 : decode cX2_advance 803 = .ok (.putfield 52, 3) := by decide +kernel
theorem dX2_advance_806 : decode cX2_advance 806 = .ok (.aload_n 0, 1) := by decide +kernel
theorem dX2_advance_807 : decode cX2_advance 807 = .ok (.dup, 1) := by decide +kernel
theorem dX2_advance_808 : decode cX2_advance 808 = .ok (.getfield 43, 3) := by decide +kernel
theorem dX2_advance_811 : decode cX2_advance 811 = .ok (.iconst 1, 1) := by decide +kernel
theorem dX2_advance_812 : decode cX2_advance 812 = .ok (.iadd, 1) := by decide +kernel
theorem dX2_advance_813 : decode cX2_advance 813 = .ok (.putfield 43, 3) := by decide +kernel
theorem dX2_advance_816 : decode cX2_advance 816 = .ok (.aload_n 0, 1) := by decide +kernel
theorem dX2_advance_817 : decode cX2_advance 817 = .ok (.getfield 52, 3) := by decide +kernel
theorem dX2_advance_820 : decode cX2_advance 820 = .ok (.ifCond .eq 21, 3) := by decide +kernel
theorem dX2_advance_823 : decode cX2_advance 823 = .ok (.aload_n 0, 1) := by decide +kernel
theorem dX2_advance_824 : decode cX2_advance 824 = .ok (.getfield 52, 3) := by decide +kernel
theorem dX2_advance_827 : decode cX2_advance 827 = .ok (.bipush 29, 2) := by decide +kernel
theorem dX2_advance_829 : decode cX2_advance 829 = .ok (.if_icmp .eq 12, 3) := by decide +kernel
theorem dX2_advance_832 : decode cX2_advance 832 = .ok (.aload_n 0, 1) := by decide +kernel
theorem dX2_advance_833 : decode cX2_advance 833 = .ok (.getfield 52, 3) := by decide +kernel
theorem dX2_advance_836 : decode cX2_advance 836 = .ok (.bipush 30, 2) := by decide +kernel
theorem dX2_advance_838 : decode cX2_advance 838 = .ok (.if_icmp .ne 11, 3) := by decide +kernel
theorem dX2_advance_841 : decode cX2_advance 841 = .ok (.new 62, 3) := by decide +kernel
theorem dX2_advance_844 : decode cX2_advance 844 = .ok (.dup, 1) := by decide +kernel
theorem dX2_advance_845 : decode cX2_advance 845 = .ok (.invokespecial 64, 3) := by decide +kernel
theorem dX2_advance_848 : decode cX2_advance 848 = .ok (.athrow, 1) := by decide +kernel
theorem dX2_advance_849 : decode cX2_advance 849 = .ok (.return_, 1) := by decide +kernel
theorem dX2_append_0 : decode cX2_append 0 = .ok (.aload_n 0, 1) := by decide +kernel
theorem dX2_append_1 : decode cX2_append 1 = .ok (.aload_n 0, 1) := by decide +kernel
theorem dX2_append_2 : decode cX2_append 2 = .ok (.getfield 31, 3) := by decide +kernel
theorem dX2_append_5 : decode cX2_append 5 = .ok (.iconst 4, 1) := by decide +kernel
theorem dX2_append_6 : decode cX2_append 6 = .ok (.iadd, 1) := by decide +kernel
theorem dX2_append_7 : decode cX2_append 7 = .ok (.invokevirtual 34, 3) := by decide +kernel
theorem dX2_append_10 : decode cX2_append 10 = .ok (.bipush 24, 2) := by decide +kernel
theorem dX2_append_12 : decode cX2_append 12 = .ok (.istore_n 2, 1) := by decide +kernel
theorem dX2_append_13 : decode cX2_append 13 = .ok (.iload_n 2, 1) := by decide +kernel
theorem dX2_append_14 : decode cX2_append 14 = .ok (.ifCond .lt 34, 3) := by decide +kernel
theorem dX2_append_17 : decode cX2_append 17 = .ok (.aload_n 0, 1) := by decide +kernel
theorem dX2_append_18 : decode cX2_append 18 = .ok (.getfield 11, 3) := by decide +kernel
theorem dX2_append_21 : decode cX2_append 21 = .ok (.aload_n 0, 1) := by decide +kernel
theorem dX2_append_22 : decode cX2_append 22 = .ok (.getfield 31, 3) := by decide +kernel
theorem dX2_append_25 : decode cX2_append 25 = .ok (.iload_n 1, 1) := by decide +kernel
theorem dX2_append_26 : decode cX2_append 26 = .ok (.iload_n 2, 1) := by decide +kernel
theorem dX2_append_27 : decode cX2_append 27 = .ok (.ishr, 1) := by decide +kernel
theorem dX2_append_28 : decode cX2_append 28 = .ok (.i2b, 1) := by decide +kernel
theorem dX2_append_29 : decode cX2_append 29 = .ok (.bastore, 1) := by decide +kernel
theorem dX2_append_30 : decode cX2_append 30 = .ok (.aload_n 0, 1) := by decide +kernel
theorem dX2_append_31 : decode cX2_append 31 = .ok (.dup, 1) := by decide +kernel
theorem dX2_append_32 : decode cX2_append 32 = .ok (.getfield 31, 3) := by decide +kernel
theorem dX2_append_35 : decode cX2_append 35 = .ok (.iconst 1, 1) := by decide +kernel
theorem dX2_append_36 : decode cX2_append 36 = .ok (.iadd, 1) := by decide +kernel
theorem dX2_append_37 : decode cX2_append 37 = .ok (.putfield 31, 3) := by decide +kernel
theorem dX2_append_40 : decode cX2_append 40 = .ok (.iload_n 2, 1) := by decide +kernel
theorem dX2_append_41 : decode cX2_append 41 = .ok (.bipush 8, 2) := by decide +kernel
theorem dX2_append_43 : decode cX2_append 43 = .ok (.isub, 1) := by decide +kernel
theorem dX2_append_44 : decode cX2_append 44 = .ok (.istore_n 2, 1) := by decide +kernel
theorem dX2_append_45 : decode cX2_append 45 = .ok (.goto (-32), 3) := by decide +kernel
theorem dX2_append_48 : decode cX2_append 48 = .ok (.return_, 1) := by decide +kernel
theorem dX2_rewind_0 : decode cX2_rewind 0 = .ok (.aload_n 0, 1) := by decide +kernel
theorem dX2_rewind_1 : decode cX2_rewind 1 = .ok (.aload_n 0, 1) := by decide +kernel
theorem dX2_rewind_2 : decode cX2_rewind 2 = .ok (.getfield 31, 3) := by decide +kernel
theorem dX2_rewind_5 : decode cX2_rewind 5 = .ok (.iconst 2, 1) := by decide +kernel
theorem dX2_rewind_6 : decode cX2_rewind 6 = .ok (.iadd, 1) := by decide +kernel
theorem dX2_rewind_7 : decode cX2_rewind 7 = .ok (.invokevirtual 34, 3) := by decide +kernel
theorem dX2_rewind_10 : decode cX2_rewind 10 = .ok (.aload_n 0, 1) := by decide +kernel
theorem dX2_rewind_11 : decode cX2_rewind 11 = .ok (.getfield 11, 3) := by decide +kernel
theorem dX2_rewind_14 : decode cX2_rewind 14 = .ok (.aload_n 0, 1) := by decide +kernel
theorem dX2_rewind_15 : decode cX2_rewind 15 = .ok (.getfield 31, 3) := by decide +kernel
theorem dX2_rewind_18 : decode cX2_rewind 18 = .ok (.iconst 0, 1) := by decide +kernel
theorem dX2_rewind_19 : decode cX2_rewind 19 = .ok (.bastore, 1) := by decide +kernel
theorem dX2_rewind_20 : decode cX2_rewind 20 = .ok (.aload_n 0, 1) := by decide +kernel
theorem dX2_rewind_21 : decode cX2_rewind 21 = .ok (.getfield 11, 3) := by decide +kernel
theorem dX2_rewind_24 : decode cX2_rewind 24 = .ok (.aload_n 0, 1) := by decide +kernel
theorem dX2_rewind_25 : decode cX2_rewind 25 = .ok (.getfield 31, 3) := by decide +kernel
theorem dX2_rewind_28 : decode cX2_rewind 28 = .ok (.iconst 1, 1) := by decide +kernel
theorem dX2_rewind_29 : decode cX2_rewind 29 = .ok (.iadd, 1) := by decide +kernel
theorem dX2_rewind_30 : decode cX2_rewind 30 = .ok (.iconst 0, 1) := by decide +kernel
theorem dX2_rewind_31 : decode cX2_rewind 31 = .ok (.bastore, 1) := by decide +kernel
theorem dX2_rewind_32 : decode cX2_rewind 32 = .ok (.aload_n 0, 1) := by decide +kernel
theorem dX2_rewind_33 : decode cX2_rewind 33 = .ok (.iconst 0, 1) := by decide +kernel
theorem dX2_rewind_34 : decode cX2_rewind 34 = .ok (.putfield 43, 3) := by decide +kernel
theorem dX2_rewind_37 : decode cX2_rewind 37 = .ok (.return_, 1) := by decide +kernel
theorem dX2_widen_0 : decode cX2_widen 0 = .ok (.aload_n 0, 1) := by decide +kernel
theorem dX2_widen_1 : decode cX2_widen 1 = .ok (.aload_n 0, 1) := by decide +kernel
theorem dX2_widen_2 : decode cX2_widen 2 = .ok (.getfield 11, 3) := by decide +kernel
theorem dX2_widen_5 : decode cX2_widen 5 = .ok (.iload_n 1, 1) := by decide +kernel
theorem dX2_widen_6 : decode cX2_widen 6 = .ok (.iload_n 1, 1) := by decide +kernel
theorem dX2_widen_7 : decode cX2_widen 7 = .ok (.sipush 10242, 3) := by decide +kernel
theorem dX2_widen_10 : decode cX2_widen 10 = .ok (.if_icmp .gt 9, 3) := by decide +kernel
theorem dX2_widen_13 : decode cX2_widen 13 = .ok (.sipush 10242, 3) := by decide +kernel
theorem dX2_widen_16 : decode cX2_widen 16 = .ok (.goto 5, 3) := by decide +kernel
theorem dX2_widen_19 : decode cX2_widen 19 = .ok (.ldc 38, 2) := by decide +kernel
theorem dX2_widen_21 : decode cX2_widen 21 = .ok (.invokestatic 39, 3) := by decide +kernel
theorem dX2_widen_24 : decode cX2_widen 24 = .ok (.putfield 11, 3) := by decide +kernel
theorem dX2_widen_27 : decode cX2_widen 27 = .ok (.return_, 1) := by decide +kernel
theorem dX3_advance_0 : decode cX3_advance 0 = .ok (.aload_n 0, 1) := by decide +kernel
theorem dX3_advance_1 : decode cX3_advance 1 = .ok (.getfield 58, 3) := by decide +kernel
theorem dX3_advance_4 : decode cX3_advance 4 = .ok (.ifnull 13, 3) := by decide +kernel
theorem dX3_advance_7 : decode cX3_advance 7 = .ok (.aload_n 0, 1) := by decide +kernel
theorem dX3_advance_8 : decode cX3_advance 8 = .ok (.getfield 14, 3) := by decide +kernel
theorem dX3_advance_11 : decode cX3_advance 11 = .ok (.getfield 99, 3) := by decide +kernel
theorem dX3_advance_14 : decode cX3_advance 14 = .ok (.ifCond .eq 4, 3) := by decide +kernel
theorem dX3_advance_17 : decode cX3_advance 17 = .ok (.return_, 1) := by decide +kernel
theorem dX3_advance_18 : decode cX3_advance 18 = .ok (.aload_n 0, 1) := by decide +kernel
theorem dX3_advance_19 : decode cX3_advance 19 = .ok (.iload_n 1, 1) := by decide +kernel
theorem dX3_advance_20 : decode cX3_advance 20 = .ok (.putfield 140, 3) := by decide +kernel
theorem dX3_advance_23 : decode cX3_advance 23 = .ok (.aload_n 0, 1) := by decide +kernel
theorem dX3_advance_24 : decode cX3_advance 24 = .ok (.getfield 35, 3) := by decide +kernel
theorem dX3_advance_27 : decode cX3_advance 27 = .ok (.aload_n 0, 1) := by decide +kernel
theorem dX3_advance_28 : decode cX3_advance 28 = .ok (.getfield 14, 3) := by decide +kernel
theorem dX3_advance_31 : decode cX3_advance 31 = .ok (.getfield 87, 3) := by decide +kernel
theorem dX3_advance_34 : decode cX3_advance 34 = .ok (.iload_n 1, 1) := by decide +kernel
theorem dX3_advance_35 : decode cX3_advance 35 = .ok (.invokevirtual 143, 3) := by decide +kernel
theorem dX3_advance_38 : decode cX3_advance 38 = .ok (.aload_n 0, 1) := by decide +kernel
theorem dX3_advance_39 : decode cX3_advance 39 = .ok (.invokevirtual 146, 3) := by decide +kernel
theorem dX3_advance_42 : decode cX3_advance 42 = .ok (.aload_n 0, 1) := by decide +kernel
theorem dX3_advance_43 : decode cX3_advance 43 = .ok (.getfield 149, 3) := by decide +kernel
theorem dX3_advance_46 : decode cX3_advance 46 = .ok (.ifCond .eq 57, 3) := by decide +kernel
theorem dX3_advance_49 : decode cX3_advance 49 = .ok (.aload_n 0, 1) := by decide +kernel
theorem dX3_advance_50 : decode cX3_advance 50 = .ok (.getfield 29, 3) := by decide +kernel
theorem dX3_advance_53 : decode cX3_advance 53 = .ok (.ldc 136, 2) := by decide +kernel
theorem dX3_advance_55 : decode cX3_advance 55 = .ok (.invokestatic 152, 3) := by decide +kernel
theorem dX3_advance_58 : decode cX3_advance 58 = .ok (.aload_n 0, 1) := by decide +kernel
theorem dX3_advance_59 : decode cX3_advance 59 = .ok (.getfield 14, 3) := by decide +kernel
theorem dX3_advance_62 : decode cX3_advance 62 = .ok (.aload_n 0, 1) := by decide +kernel
theorem dX3_advance_63 : decode cX3_advance 63 = .ok (.getfield 149, 3) := by decide +kernel
theorem dX3_advance_66 : decode cX3_advance 66 = .ok (.putfield 96, 3) := by decide +kernel
theorem dX3_advance_69 : decode cX3_advance 69 = .ok (.aload_n 0, 1) := by decide +kernel
theorem dX3_advance_70 : decode cX3_advance 70 = .ok (.getfield 14, 3) := by decide +kernel
theorem dX3_advance_73 : decode cX3_advance 73 = .ok (.iconst 2, 1) := by decide +kernel
theorem dX3_advance_74 : decode cX3_advance 74 = .ok (.putfield 99, 3) := by decide +kernel
theorem dX3_advance_77 : decode cX3_advance 77 = .ok (.aload_n 0, 1) := by decide +kernel
theorem dX3_advance_78 : decode cX3_advance 78 = .ok (.getfield 14, 3) := by decide +kernel
theorem dX3_advance_81 : decode cX3_advance 81 = .ok (.iconst 0, 1) := by decide +kernel
theorem dX3_advance_82 : decode cX3_advance 82 = .ok (.putfield 81, 3) := by decide +kernel
theorem dX3_advance_85 : decode cX3_advance 85 = .ok (.aload_n 0, 1) := by decide +kernel
theorem dX3_advance_86 : decode cX3_advance 86 = .ok (.getfield 14, 3) := by decide +kernel
theorem dX3_advance_89 : decode cX3_advance 89 = .ok (.iconst 4, 1) := by decide +kernel
theorem dX3_advance_90 : decode cX3_advance 90 = .ok (.aload_n 0, 1) := by decide +kernel
theorem dX3_advance_91 : decode cX3_advance 91 = .ok (.getfield 58, 3) := by decide +kernel
theorem dX3_advance_94 : decode cX3_advance 94 = .ok (.getfield 137, 3) := by decide +kernel
theorem dX3_advance_97 : decode cX3_advance 97 = .ok (.iconst 0, 1) := by decide +kernel
theorem dX3_advance_98 : decode cX3_advance 98 = .ok (.iaload, 1) := by decide +kernel
theorem dX3_advance_99 : decode cX3_advance 99 = .ok (.iadd, 1) := by decide +kernel
theorem dX3_advance_100 : decode cX3_advance 100 = .ok (.putfield 84, 3) := by decide +kernel
theorem dX3_advance_103 : decode cX3_advance 103 = .ok (.return_, 1) := by decide +kernel
theorem dX3_callFunc_0 : decode cX3_callFunc 0 = .ok (.aload_n 0, 1) := by decide +kernel
theorem dX3_callFunc_1 : decode cX3_callFunc 1 = .ok (.getfield 58, 3) := by decide +kernel
theorem dX3_callFunc_4 : decode cX3_callFunc 4 = .ok (.getfield 241, 3) := by decide +kernel
theorem dX3_callFunc_7 : decode cX3_callFunc 7 = .ok (.aload_n 0, 1) := by decide +kernel
theorem dX3_callFunc_8 : decode cX3_callFunc 8 = .ok (.getfield 14, 3) := by decide +kernel
theorem dX3_callFunc_11 : decode cX3_callFunc 11 = .ok (.getfield 78, 3) := by decide +kernel
theorem dX3_callFunc_14 : decode cX3_callFunc 14 = .ok (.iaload, 1) := by decide +kernel
theorem dX3_callFunc_15 : decode cX3_callFunc 15 = .ok (.sipush 255, 3) := by decide +kernel
theorem dX3_callFunc_18 : decode cX3_callFunc 18 = .ok (.iand, 1) := by decide +kernel
theorem dX3_callFunc_19 : decode cX3_callFunc 19 = .ok (.istore_n 2, 1) := by decide +kernel
theorem dX3_callFunc_20 : decode cX3_callFunc 20 = .ok (.aload_n 0, 1) := by decide +kernel
theorem dX3_callFunc_21 : decode cX3_callFunc 21 = .ok (.getfield 58, 3) := by decide +kernel
theorem dX3_callFunc_24 : decode cX3_callFunc 24 = .ok (.getfield 241, 3) := by decide +kernel
theorem dX3_callFunc_27 : decode cX3_callFunc 27 = .ok (.aload_n 0, 1) := by decide +kernel
theorem dX3_callFunc_28 : decode cX3_callFunc 28 = .ok (.getfield 14, 3) := by decide +kernel
theorem dX3_callFunc_31 : decode cX3_callFunc 31 = .ok (.getfield 78, 3) := by decide +kernel
theorem dX3_callFunc_34 : decode cX3_callFunc 34 = .ok (.iaload, 1) := by decide +kernel
theorem dX3_callFunc_35 : decode cX3_callFunc 35 = .ok (.bipush 8, 2) := by decide +kernel
theorem dX3_callFunc_37 : decode cX3_callFunc 37 = .ok (.ishr, 1) := by decide +kernel
theorem dX3_callFunc_38 : decode cX3_callFunc 38 = .ok (.istore_n 3, 1) := by decide +kernel
theorem dX3_callFunc_39 : decode cX3_callFunc 39 = .ok (.aload_n 0, 1) := by decide +kernel
theorem dX3_callFunc_40 : decode cX3_callFunc 40 = .ok (.getfield 229, 3) := by decide +kernel
theorem dX3_callFunc_43 : decode cX3_callFunc 43 = .ok (.bipush 20, 2) := by decide +kernel
theorem dX3_callFunc_45 : decode cX3_callFunc 45 = .ok (.if_icmp .ge 14, 3) := by decide +kernel
theorem dX3_callFunc_48 : decode cX3_callFunc 48 = .ok (.aload_n 0, 1) := by decide +kernel
theorem dX3_callFunc_49 : decode cX3_callFunc 49 = .ok (.getfield 232, 3) := by decide +kernel
theorem dX3_callFunc_52 : decode cX3_callFunc 52 = .ok (.iload_n 2, 1) := by decide +kernel
theorem dX3_callFunc_53 : decode cX3_callFunc 53 = .ok (.iadd, 1) := by decide +kernel
theorem dX3_callFunc_54 : decode cX3_callFunc 54 = .ok (.bipush 60, 2) := by decide +kernel
theorem dX3_callFunc_56 : decode cX3_callFunc 56 = .ok (.if_icmp .le 10, 3) := by decide +kernel
theorem dX3_callFunc_59 : decode cX3_callFunc 59 = .ok (.aload_n 0, 1) := by decide +kernel
theorem dX3_callFunc_60 : decode cX3_callFunc 60 = .ok (.bipush 7, 2) := by decide +kernel
theorem dX3_callFunc_62 : decode cX3_callFunc 62 = .ok (.invokevirtual 313, 3) := by decide +kernel
theorem dX3_callFunc_65 : decode cX3_callFunc 65 = .ok (.return_, 1) := by decide +kernel
theorem dX3_callFunc_66 : decode cX3_callFunc 66 = .ok (.aload_n 0, 1) := by decide +kernel
theorem dX3_callFunc_67 : decode cX3_callFunc 67 = .ok (.dup, 1) := by decide +kernel
theorem dX3_callFunc_68 : decode cX3_callFunc 68 = .ok (.getfield 229, 3) := by decide +kernel
theorem dX3_callFunc_71 : decode cX3_callFunc 71 = .ok (.iconst 1, 1) := by decide +kernel
theorem dX3_callFunc_72 : decode cX3_callFunc 72 = .ok (.iadd, 1) := by decide +kernel
theorem dX3_callFunc_73 : decode cX3_callFunc 73 = .ok (.putfield 229, 3) := by decide +kernel
theorem dX3_callFunc_76 : decode cX3_callFunc 76 = .ok (.aload_n 0, 1) := by decide +kernel
theorem dX3_callFunc_77 : decode cX3_callFunc 77 = .ok (.aload_n 0, 1) := by decide +kernel
theorem dX3_callFunc_78 : decode cX3_callFunc 78 = .ok (.getfield 232, 3) := by decide +kernel
theorem dX3_callFunc_81 : decode cX3_callFunc 81 = .ok (.iload_n 2, 1) := by decide +kernel
theorem dX3_callFunc_82 : decode cX3_callFunc 82 = .ok (.iadd, 1) := by decide +kernel
theorem dX3_callFunc_83 : decode cX3_callFunc 83 = .ok (.putfield 232, 3) := by decide +kernel
theorem dX3_callFunc_86 : decode cX3_callFunc 86 = .ok (.aload_n 0, 1) := by decide +kernel
theorem dX3_callFunc_87 : decode cX3_callFunc 87 = .ok (.aload_n 0, 1) := by decide +kernel
theorem dX3_callFunc_88 : decode cX3_callFunc 88 = .ok (.getfield 235, 3) := by decide +kernel
theorem dX3_callFunc_91 : decode cX3_callFunc 91 = .ok (.iload_n 3, 1) := by decide +kernel
theorem dX3_callFunc_92 : decode cX3_callFunc 92 = .ok (.iadd, 1) := by decide +kernel
theorem dX3_callFunc_93 : decode cX3_callFunc 93 = .ok (.putfield 235, 3) := by decide +kernel
theorem dX3_callFunc_96 : decode cX3_callFunc 96 = .ok (.aload_n 0, 1) := by decide +kernel
theorem dX3_callFunc_97 : decode cX3_callFunc 97 = .ok (.iload_n 1, 1) := by decide +kernel
theorem dX3_callFunc_98 : decode cX3_callFunc 98 = .ok (.aload_n 0, 1) := by decide +kernel
theorem dX3_callFunc_99 : decode cX3_callFunc 99 = .ok (.getfield 14, 3) := by decide +kernel
theorem dX3_callFunc_102 : decode cX3_callFunc 102 = .ok (.getfield 78, 3) := by decide +kernel
theorem dX3_callFunc_105 : decode cX3_callFunc 105 = .ok (.iconst 1, 1) := by decide +kernel
theorem dX3_callFunc_106 : decode cX3_callFunc 106 = .ok (.iadd, 1) := by decide +kernel
theorem dX3_callFunc_107 : decode cX3_callFunc 107 = .ok (.iload_n 2, 1) := by decide +kernel
theorem dX3_callFunc_108 : decode cX3_callFunc 108 = .ok (.iload_n 3, 1) := by decide +kernel
theorem dX3_callFunc_109 : decode cX3_callFunc 109 = .ok (.invokevirtual 378, 3) := by decide +kernel
theorem dX3_callFunc_112 : decode cX3_callFunc 112 = .ok (.return_, 1) := by decide +kernel
theorem dX3_callProc_0 : decode cX3_callProc 0 = .ok (.aload_n 0, 1) := by decide +kernel
theorem dX3_callProc_1 : decode cX3_callProc 1 = .ok (.getfield 14, 3) := by decide +kernel
theorem dX3_callProc_4 : decode cX3_callProc 4 = .ok (.getfield 102, 3) := by decide +kernel
theorem dX3_callProc_7 : decode cX3_callProc 7 = .ok (.bipush 50, 2) := by decide +kernel
theorem dX3_callProc_9 : decode cX3_callProc 9 = .ok (.if_icmp .lt 10, 3) := by decide +kernel
theorem dX3_callProc_12 : decode cX3_callProc 12 = .ok (.aload_n 0, 1) := by decide +kernel
theorem dX3_callProc_13 : decode cX3_callProc 13 = .ok (.bipush 7, 2) := by decide +kernel
theorem dX3_callProc_15 : decode cX3_callProc 15 = .ok (.invokevirtual 313, 3) := by decide +kernel
theorem dX3_callProc_18 : decode cX3_callProc 18 = .ok (.return_, 1) := by decide +kernel
theorem dX3_callProc_19 : decode cX3_callProc 19 = .ok (.aload_n 0, 1) := by decide +kernel
theorem dX3_callProc_20 : decode cX3_callProc 20 = .ok (.getfield 58, 3) := by decide +kernel
theorem dX3_callProc_23 : decode cX3_callProc 23 = .ok (.getfield 382, 3) := by decide +kernel
theorem dX3_callProc_26 : decode cX3_callProc 26 = .ok (.iload_n 1, 1) := by decide +kernel
theorem dX3_callProc_27 : decode cX3_callProc 27 = .ok (.iaload, 1) := by decide +kernel
theorem dX3_callProc_28 : decode cX3_callProc 28 = .ok (.istore_n 2, 1) := by decide +kernel
theorem dX3_callProc_29 : decode cX3_callProc 29 = .ok (.aload_n 0, 1) := by decide +kernel
theorem dX3_callProc_30 : decode cX3_callProc 30 = .ok (.getfield 58, 3) := by decide +kernel
theorem dX3_callProc_33 : decode cX3_callProc 33 = .ok (.getfield 105, 3) := by decide +kernel
theorem dX3_callProc_36 : decode cX3_callProc 36 = .ok (.iload_n 1, 1) := by decide +kernel
theorem dX3_callProc_37 : decode cX3_callProc 37 = .ok (.iaload, 1) := by decide +kernel
theorem dX3_callProc_38 : decode cX3_callProc 38 = .ok (.iload_n 2, 1) := by decide +kernel
theorem dX3_callProc_39 : decode cX3_callProc 39 = .ok (.isub, 1) := by decide +kernel
theorem dX3_callProc_40 : decode cX3_callProc 40 = .ok (.istore_n 3, 1) := by decide +kernel
theorem dX3_callProc_41 : decode cX3_callProc 41 = .ok (.aload_n 0, 1) := by decide +kernel
theorem dX3_callProc_42 : decode cX3_callProc 42 = .ok (.getfield 14, 3) := by decide +kernel
theorem dX3_callProc_45 : decode cX3_callProc 45 = .ok (.getfield 84, 3) := by decide +kernel
theorem dX3_callProc_48 : decode cX3_callProc 48 = .ok (.iload_n 2, 1) := by decide +kernel
theorem dX3_callProc_49 : decode cX3_callProc 49 = .ok (.isub, 1) := by decide +kernel
theorem dX3_callProc_50 : decode cX3_callProc 50 = .ok (.istore 4, 2) := by decide +kernel
theorem dX3_callProc_52 : decode cX3_callProc 52 = .ok (.iload 4, 2) := by decide +kernel
theorem dX3_callProc_54 : decode cX3_callProc 54 = .ok (.aload_n 0, 1) := by decide +kernel
theorem dX3_callProc_55 : decode cX3_callProc 55 = .ok (.getfield 14, 3) := by decide +kernel
theorem dX3_callProc_58 : decode cX3_callProc 58 = .ok (.getfield 84, 3) := by decide +kernel
theorem dX3_callProc_61 : decode cX3_callProc 61 = .ok (.if_icmp .ge 26, 3) := by decide +kernel
theorem dX3_callProc_64 : decode cX3_callProc 64 = .ok (.iload_n 3, 1) := by decide +kernel
theorem dX3_callProc_65 : decode cX3_callProc 65 = .ok (.aload_n 0, 1) := by decide +kernel
theorem dX3_callProc_66 : decode cX3_callProc 66 = .ok (.getfield 39, 3) := by decide +kernel
theorem dX3_callProc_69 : decode cX3_callProc 69 = .ok (.aload_n 0, 1) := by decide +kernel
theorem dX3_callProc_70 : decode cX3_callProc 70 = .ok (.getfield 18, 3) := by decide +kernel
theorem dX3_callProc_73 : decode cX3_callProc 73 = .ok (.iload 4, 2) := by decide +kernel
theorem dX3_callProc_75 : decode cX3_callProc 75 = .ok (.iaload, 1) := by decide +kernel
theorem dX3_callProc_76 : decode cX3_callProc 76 = .ok (.invokevirtual 316, 3) := by decide +kernel
theorem dX3_callProc_79 : decode cX3_callProc 79 = .ok (.iadd, 1) := by decide +kernel
theorem dX3_callProc_80 : decode cX3_callProc 80 = .ok (.istore_n 3, 1) := by decide +kernel
theorem dX3_callProc_81 : decode cX3_callProc 81 = .ok (.iinc 4 1, 3) := by decide +kernel
theorem dX3_callProc_84 : decode cX3_callProc 84 = .ok (.goto (-32), 3) := by decide +kernel
theorem dX3_callProc_87 : decode cX3_callProc 87 = .ok (.aload_n 0, 1) := by decide +kernel
theorem dX3_callProc_88 : decode cX3_callProc 88 = .ok (.getfield 14, 3) := by decide +kernel
theorem dX3_callProc_91 : decode cX3_callProc 91 = .ok (.getfield 108, 3) := by decide +kernel
theorem dX3_callProc_94 : decode cX3_callProc 94 = .ok (.iload_n 3, 1) := by decide +kernel
theorem dX3_callProc_95 : decode cX3_callProc 95 = .ok (.iadd, 1) := by decide +kernel
theorem dX3_callProc_96 : decode cX3_callProc 96 = .ok (.aload_n 0, 1) := by decide +kernel
theorem dX3_callProc_97 : decode cX3_callProc 97 = .ok (.getfield 14, 3) := by decide +kernel
theorem dX3_callProc_100 : decode cX3_callProc 100 = .ok (.getfield 114, 3) := by decide +kernel
theorem dX3_callProc_103 : decode cX3_callProc 103 = .ok (.iadd, 1) := by decide +kernel
theorem dX3_callProc_104 : decode cX3_callProc 104 = .ok (.ldc_w 394, 3) := by decide +kernel
theorem dX3_callProc_107 : decode cX3_callProc 107 = .ok (.if_icmp .le 10, 3) := by decide +kernel
theorem dX3_callProc_110 : decode cX3_callProc 110 = .ok (.aload_n 0, 1) := by decide +kernel
theorem dX3_callProc_111 : decode cX3_callProc 111 = .ok (.bipush 6, 2) := by decide +kernel
theorem dX3_callProc_113 : decode cX3_callProc 113 = .ok (.invokevirtual 313, 3) := by decide +kernel
theorem dX3_callProc_116 : decode cX3_callProc 116 = .ok (.return_, 1) := by decide +kernel
theorem dX3_callProc_117 : decode cX3_callProc 117 = .ok (.aload_n 0, 1) := by decide +kernel
theorem dX3_callProc_118 : decode cX3_callProc 118 = .ok (.iload_n 1, 1) := by decide +kernel
theorem dX3_callProc_119 : decode cX3_callProc 119 = .ok (.aload_n 0, 1) := by decide +kernel
theorem dX3_callProc_120 : decode cX3_callProc 120 = .ok (.getfield 14, 3) := by decide +kernel
theorem dX3_callProc_123 : decode cX3_callProc 123 = .ok (.getfield 78, 3) := by decide +kernel
theorem dX3_callProc_126 : decode cX3_callProc 126 = .ok (.iload_n 1, 1) := by decide +kernel
theorem dX3_callProc_127 : decode cX3_callProc 127 = .ok (.aload_n 0, 1) := by decide +kernel
theorem dX3_callProc_128 : decode cX3_callProc 128 = .ok (.getfield 14, 3) := by decide +kernel
theorem dX3_callProc_131 : decode cX3_callProc 131 = .ok (.getfield 111, 3) := by decide +kernel
theorem dX3_callProc_134 : decode cX3_callProc 134 = .ok (.invokevirtual 378, 3) := by decide +kernel
theorem dX3_callProc_137 : decode cX3_callProc 137 = .ok (.aload_n 0, 1) := by decide +kernel
theorem dX3_callProc_138 : decode cX3_callProc 138 = .ok (.getfield 14, 3) := by decide +kernel
theorem dX3_callProc_141 : decode cX3_callProc 141 = .ok (.dup, 1) := by decide +kernel
theorem dX3_callProc_142 : decode cX3_callProc 142 = .ok (.getfield 102, 3) := by decide +kernel
theorem dX3_callProc_145 : decode cX3_callProc 145 = .ok (.iconst 1, 1) := by decide +kernel
theorem dX3_callProc_146 : decode cX3_callProc 146 = .ok (.iadd, 1) := by decide +kernel
theorem dX3_callProc_147 : decode cX3_callProc 147 = .ok (.putfield 102, 3) := by decide +kernel
theorem dX3_callProc_150 : decode cX3_callProc 150 = .ok (.aload_n 0, 1) := by decide +kernel
theorem dX3_callProc_151 : decode cX3_callProc 151 = .ok (.getfield 14, 3) := by decide +kernel
theorem dX3_callProc_154 : decode cX3_callProc 154 = .ok (.aload_n 0, 1) := by decide +kernel
theorem dX3_callProc_155 : decode cX3_callProc 155 = .ok (.getfield 14, 3) := by decide +kernel
theorem dX3_callProc_158 : decode cX3_callProc 158 = .ok (.getfield 108, 3) := by decide +kernel
theorem dX3_callProc_161 : decode cX3_callProc 161 = .ok (.iload_n 3, 1) := by decide +kernel
theorem dX3_callProc_162 : decode cX3_callProc 162 = .ok (.iadd, 1) := by decide +kernel
theorem dX3_callProc_163 : decode cX3_callProc 163 = .ok (.putfield 108, 3) := by decide +kernel
theorem dX3_callProc_166 : decode cX3_callProc 166 = .ok (.aload_n 0, 1) := by decide +kernel
theorem dX3_callProc_167 : decode cX3_callProc 167 = .ok (.getfield 14, 3) := by decide +kernel
theorem dX3_callProc_170 : decode cX3_callProc 170 = .ok (.iload_n 3, 1) := by decide +kernel
theorem dX3_callProc_171 : decode cX3_callProc 171 = .ok (.putfield 111, 3) := by decide +kernel
theorem dX3_callProc_174 : decode cX3_callProc 174 = .ok (.return_, 1) := by decide +kernel
theorem dX3_callsAndPoints_0 : decode cX3_callsAndPoints 0 = .ok (.iload_n 1, 1) := by decide +kernel
theorem dX3_callsAndPoints_1 : decode cX3_callsAndPoints 1 = .ok (.tableswitch 127 16 24 #[51, 61, 69, 76, 84, 91, 127, 127, 98], 51) := by decide +kernel
theorem dX3_callsAndPoints_52 : decode cX3_callsAndPoints 52 = .ok (.aload_n 0, 1) := by decide +kernel
theorem dX3_callsAndPoints_53 : decode cX3_callsAndPoints 53 = .ok (.ldc 131, 2) := by decide +kernel
theorem dX3_callsAndPoints_55 : decode cX3_callsAndPoints 55 = .ok (.iconst 4, 1) := by decide +kernel
theorem dX3_callsAndPoints_56 : decode cX3_callsAndPoints 56 = .ok (.invokevirtual 132, 3) := by decide +kernel
theorem dX3_callsAndPoints_59 : decode cX3_callsAndPoints 59 = .ok (.goto 84, 3) := by decide +kernel
theorem dX3_callsAndPoints_62 : decode cX3_callsAndPoints 62 = .ok (.aload_n 0, 1) := by decide +kernel
theorem dX3_callsAndPoints_63 : decode cX3_callsAndPoints 63 = .ok (.iload_n 2, 1) := by decide +kernel
theorem dX3_callsAndPoints_64 : decode cX3_callsAndPoints 64 = .ok (.invokevirtual 359, 3) := by decide +kernel
theorem dX3_callsAndPoints_67 : decode cX3_callsAndPoints 67 = .ok (.goto 76, 3) := by decide +kernel
theorem dX3_callsAndPoints_70 : decode cX3_callsAndPoints 70 = .ok (.aload_n 0, 1) := by decide +kernel
theorem dX3_callsAndPoints_71 : decode cX3_callsAndPoints 71 = .ok (.invokevirtual 362, 3) := by decide +kernel
theorem dX3_callsAndPoints_74 : decode cX3_callsAndPoints 74 = .ok (.goto 69, 3) := by decide +kernel
theorem dX3_callsAndPoints_77 : decode cX3_callsAndPoints 77 = .ok (.aload_n 0, 1) := by decide +kernel
theorem dX3_callsAndPoints_78 : decode cX3_callsAndPoints 78 = .ok (.iload_n 2, 1) := by decide +kernel
theorem dX3_callsAndPoints_79 : decode cX3_callsAndPoints 79 = .ok (.invokevirtual 365, 3) := by decide +kernel
theorem dX3_callsAndPoints_82 : decode cX3_callsAndPoints 82 = .ok (.goto 61, 3) := by decide +kernel
theorem dX3_callsAndPoints_85 : decode cX3_callsAndPoints 85 = .ok (.aload_n 0, 1) := by decide +kernel
theorem dX3_callsAndPoints_86 : decode cX3_callsAndPoints 86 = .ok (.invokevirtual 368, 3) := by decide +kernel
theorem dX3_callsAndPoints_89 : decode cX3_callsAndPoints 89 = .ok (.goto 54, 3) := by decide +kernel
theorem dX3_callsAndPoints_92 : decode cX3_callsAndPoints 92 = .ok (.aload_n 0, 1) := by decide +kernel
theorem dX3_callsAndPoints_93 : decode cX3_callsAndPoints 93 = .ok (.invokevirtual 371, 3) := by decide +kernel
theorem dX3_callsAndPoints_96 : decode cX3_callsAndPoints 96 = .ok (.goto 47, 3) := by decide +kernel
theorem dX3_callsAndPoints_99 : decode cX3_callsAndPoints 99 = .ok (.aload_n 0, 1) := by decide +kernel
theorem dX3_callsAndPoints_100 : decode cX3_callsAndPoints 100 = .ok (.invokevirtual 339, 3) := by decide +kernel
theorem dX3_callsAndPoints_103 : decode cX3_callsAndPoints 103 = .ok (.istore_n 3, 1) := by decide +kernel
theorem dX3_callsAndPoints_104 : decode cX3_callsAndPoints 104 = .ok (.aload_n 0, 1) := by decide +kernel
theorem dX3_callsAndPoints_105 : decode cX3_callsAndPoints 105 = .ok (.iload_n 3, 1) := by decide +kernel
theorem dX3_callsAndPoints_106 : decode cX3_callsAndPoints 106 = .ok (.invokevirtual 342, 3) := by decide +kernel
theorem dX3_callsAndPoints_109 : decode cX3_callsAndPoints 109 = .ok (.ifCond .eq 34, 3) := by decide +kernel
theorem dX3_callsAndPoints_112 : decode cX3_callsAndPoints 112 = .ok (.iload_n 3, 1) := by decide +kernel
theorem dX3_callsAndPoints_113 : decode cX3_callsAndPoints 113 = .ok (.ldc_w 326, 3) := by decide +kernel
theorem dX3_callsAndPoints_116 : decode cX3_callsAndPoints 116 = .ok (.if_icmp .ne 27, 3) := by decide +kernel
theorem dX3_callsAndPoints_119 : decode cX3_callsAndPoints 119 = .ok (.aload_n 0, 1) := by decide +kernel
theorem dX3_callsAndPoints_120 : decode cX3_callsAndPoints 120 = .ok (.bipush 8, 2) := by decide +kernel
theorem dX3_callsAndPoints_122 : decode cX3_callsAndPoints 122 = .ok (.invokevirtual 313, 3) := by decide +kernel
theorem dX3_callsAndPoints_125 : decode cX3_callsAndPoints 125 = .ok (.goto 18, 3) := by decide +kernel
theorem dX3_callsAndPoints_128 : decode cX3_callsAndPoints 128 = .ok (.aload_n 0, 1) := by decide +kernel
theorem dX3_callsAndPoints_129 : decode cX3_callsAndPoints 129 = .ok (.iload_n 1, 1) := by decide +kernel
theorem dX3_callsAndPoints_130 : decode cX3_callsAndPoints 130 = .ok (.bipush 22, 2) := by decide +kernel
theorem dX3_callsAndPoints_132 : decode cX3_callsAndPoints 132 = .ok (.if_icmp .ne 7, 3) := by decide +kernel
theorem dX3_callsAndPoints_135 : decode cX3_callsAndPoints 135 = .ok (.iconst 1, 1) := by decide +kernel
theorem dX3_callsAndPoints_136 : decode cX3_callsAndPoints 136 = .ok (.goto 4, 3) := by decide +kernel
theorem dX3_callsAndPoints_139 : decode cX3_callsAndPoints 139 = .ok (.iconst 0, 1) := by decide +kernel
theorem dX3_callsAndPoints_140 : decode cX3_callsAndPoints 140 = .ok (.invokevirtual 374, 3) := by decide +kernel
theorem dX3_callsAndPoints_143 : decode cX3_callsAndPoints 143 = .ok (.return_, 1) := by decide +kernel
theorem dX3_data_0 : decode cX3_data 0 = .ok (.iload_n 1, 1) := by decide +kernel
theorem dX3_data_1 : decode cX3_data 1 = .ok (.tableswitch 323 32 42 #[59, 87, 115, 152, 175, 190, 209, 260, 323, 232, 250], 59) := by decide +kernel
theorem dX3_data_60 : decode cX3_data 60 = .ok (.aload_n 0, 1) := by decide +kernel
theorem dX3_data_61 : decode cX3_data 61 = .ok (.aload_n 0, 1) := by decide +kernel
theorem dX3_data_62 : decode cX3_data 62 = .ok (.getfield 58, 3) := by decide +kernel
theorem dX3_data_65 : decode cX3_data 65 = .ok (.getfield 241, 3) := by decide +kernel
theorem dX3_data_68 : decode cX3_data 68 = .ok (.iload_n 3, 1) := by decide +kernel
theorem dX3_data_69 : decode cX3_data 69 = .ok (.iconst 1, 1) := by decide +kernel
theorem dX3_data_70 : decode cX3_data 70 = .ok (.iadd, 1) := by decide +kernel
theorem dX3_data_71 : decode cX3_data 71 = .ok (.iaload, 1) := by decide +kernel
theorem dX3_data_72 : decode cX3_data 72 = .ok (.invokevirtual 322, 3) := by decide +kernel
theorem dX3_data_75 : decode cX3_data 75 = .ok (.aload_n 0, 1) := by decide +kernel
theorem dX3_data_76 : decode cX3_data 76 = .ok (.getfield 14, 3) := by decide +kernel
theorem dX3_data_79 : decode cX3_data 79 = .ok (.iload_n 3, 1) := by decide +kernel
theorem dX3_data_80 : decode cX3_data 80 = .ok (.iconst 2, 1) := by decide +kernel
theorem dX3_data_81 : decode cX3_data 81 = .ok (.iadd, 1) := by decide +kernel
theorem dX3_data_82 : decode cX3_data 82 = .ok (.putfield 78, 3) := by decide +kernel
theorem dX3_data_85 : decode cX3_data 85 = .ok (.goto 264, 3) := by decide +kernel
theorem dX3_data_88 : decode cX3_data 88 = .ok (.aload_n 0, 1) := by decide +kernel
theorem dX3_data_89 : decode cX3_data 89 = .ok (.aload_n 0, 1) := by decide +kernel
theorem dX3_data_90 : decode cX3_data 90 = .ok (.getfield 58, 3) := by decide +kernel
theorem dX3_data_93 : decode cX3_data 93 = .ok (.getfield 241, 3) := by decide +kernel
theorem dX3_data_96 : decode cX3_data 96 = .ok (.iload_n 3, 1) := by decide +kernel
theorem dX3_data_97 : decode cX3_data 97 = .ok (.iconst 1, 1) := by decide +kernel
theorem dX3_data_98 : decode cX3_data 98 = .ok (.iadd, 1) := by decide +kernel
theorem dX3_data_99 : decode cX3_data 99 = .ok (.iaload, 1) := by decide +kernel
theorem dX3_data_100 : decode cX3_data 100 = .ok (.invokevirtual 391, 3) := by decide +kernel
theorem dX3_data_103 : decode cX3_data 103 = .ok (.aload_n 0, 1) := by decide +kernel
theorem dX3_data_104 : decode cX3_data 104 = .ok (.getfield 14, 3) := by decide +kernel
theorem dX3_data_107 : decode cX3_data 107 = .ok (.iload_n 3, 1) := by decide +kernel
theorem dX3_data_108 : decode cX3_data 108 = .ok (.iconst 2, 1) := by decide +kernel
theorem dX3_data_109 : decode cX3_data 109 = .ok (.iadd, 1) := by decide +kernel
theorem dX3_data_110 : decode cX3_data 110 = .ok (.putfield 78, 3) := by decide +kernel
theorem dX3_data_113 : decode cX3_data 113 = .ok (.goto 236, 3) := by decide +kernel
theorem dX3_data_116 : decode cX3_data 116 = .ok (.aload_n 0, 1) := by decide +kernel
theorem dX3_data_117 : decode cX3_data 117 = .ok (.aload_n 0, 1) := by decide +kernel
theorem dX3_data_118 : decode cX3_data 118 = .ok (.getfield 39, 3) := by decide +kernel
theorem dX3_data_121 : decode cX3_data 121 = .ok (.aload_n 0, 1) := by decide +kernel
theorem dX3_data_122 : decode cX3_data 122 = .ok (.getfield 58, 3) := by decide +kernel
theorem dX3_data_125 : decode cX3_data 125 = .ok (.getfield 241, 3) := by decide +kernel
theorem dX3_data_128 : decode cX3_data 128 = .ok (.iload_n 3, 1) := by decide +kernel
theorem dX3_data_129 : decode cX3_data 129 = .ok (.iconst 1, 1) := by decide +kernel
theorem dX3_data_130 : decode cX3_data 130 = .ok (.iadd, 1) := by decide +kernel
theorem dX3_data_131 : decode cX3_data 131 = .ok (.iload_n 2, 1) := by decide +kernel
theorem dX3_data_132 : decode cX3_data 132 = .ok (.invokevirtual 431, 3) := by decide +kernel
theorem dX3_data_135 : decode cX3_data 135 = .ok (.invokevirtual 391, 3) := by decide +kernel
theorem dX3_data_138 : decode cX3_data 138 = .ok (.aload_n 0, 1) := by decide +kernel
theorem dX3_data_139 : decode cX3_data 139 = .ok (.getfield 14, 3) := by decide +kernel
theorem dX3_data_142 : decode cX3_data 142 = .ok (.iload_n 3, 1) := by decide +kernel
theorem dX3_data_143 : decode cX3_data 143 = .ok (.iconst 1, 1) := by decide +kernel
theorem dX3_data_144 : decode cX3_data 144 = .ok (.iadd, 1) := by decide +kernel
theorem dX3_data_145 : decode cX3_data 145 = .ok (.iload_n 2, 1) := by decide +kernel
theorem dX3_data_146 : decode cX3_data 146 = .ok (.iadd, 1) := by decide +kernel
theorem dX3_data_147 : decode cX3_data 147 = .ok (.putfield 78, 3) := by decide +kernel
theorem dX3_data_150 : decode cX3_data 150 = .ok (.goto 199, 3) := by decide +kernel
theorem dX3_data_153 : decode cX3_data 153 = .ok (.aload_n 0, 1) := by decide +kernel
theorem dX3_data_154 : decode cX3_data 154 = .ok (.aload_n 0, 1) := by decide +kernel
theorem dX3_data_155 : decode cX3_data 155 = .ok (.getfield 18, 3) := by decide +kernel
theorem dX3_data_158 : decode cX3_data 158 = .ok (.aload_n 0, 1) := by decide +kernel
theorem dX3_data_159 : decode cX3_data 159 = .ok (.getfield 14, 3) := by decide +kernel
theorem dX3_data_162 : decode cX3_data 162 = .ok (.getfield 81, 3) := by decide +kernel
theorem dX3_data_165 : decode cX3_data 165 = .ok (.iconst 4, 1) := by decide +kernel
theorem dX3_data_166 : decode cX3_data 166 = .ok (.iadd, 1) := by decide +kernel
theorem dX3_data_167 : decode cX3_data 167 = .ok (.iload_n 2, 1) := by decide +kernel
theorem dX3_data_168 : decode cX3_data 168 = .ok (.iadd, 1) := by decide +kernel
theorem dX3_data_169 : decode cX3_data 169 = .ok (.iaload, 1) := by decide +kernel
theorem dX3_data_170 : decode cX3_data 170 = .ok (.invokevirtual 322, 3) := by decide +kernel
theorem dX3_data_173 : decode cX3_data 173 = .ok (.goto 176, 3) := by decide +kernel
theorem dX3_data_176 : decode cX3_data 176 = .ok (.aload_n 0, 1) := by decide +kernel
theorem dX3_data_177 : decode cX3_data 177 = .ok (.aload_n 0, 1) := by decide +kernel
theorem dX3_data_178 : decode cX3_data 178 = .ok (.getfield 18, 3) := by decide +kernel
theorem dX3_data_181 : decode cX3_data 181 = .ok (.iconst 4, 1) := by decide +kernel
theorem dX3_data_182 : decode cX3_data 182 = .ok (.iload_n 2, 1) := by decide +kernel
theorem dX3_data_183 : decode cX3_data 183 = .ok (.iadd, 1) := by decide +kernel
theorem dX3_data_184 : decode cX3_data 184 = .ok (.iaload, 1) := by decide +kernel
theorem dX3_data_185 : decode cX3_data 185 = .ok (.invokevirtual 322, 3) := by decide +kernel
theorem dX3_data_188 : decode cX3_data 188 = .ok (.goto 161, 3) := by decide +kernel
theorem dX3_data_191 : decode cX3_data 191 = .ok (.aload_n 0, 1) := by decide +kernel
theorem dX3_data_192 : decode cX3_data 192 = .ok (.getfield 14, 3) := by decide +kernel
theorem dX3_data_195 : decode cX3_data 195 = .ok (.aload_n 0, 1) := by decide +kernel
theorem dX3_data_196 : decode cX3_data 196 = .ok (.getfield 14, 3) := by decide +kernel
theorem dX3_data_199 : decode cX3_data 199 = .ok (.getfield 84, 3) := by decide +kernel
theorem dX3_data_202 : decode cX3_data 202 = .ok (.iload_n 2, 1) := by decide +kernel
theorem dX3_data_203 : decode cX3_data 203 = .ok (.isub, 1) := by decide +kernel
theorem dX3_data_204 : decode cX3_data 204 = .ok (.putfield 84, 3) := by decide +kernel
theorem dX3_data_207 : decode cX3_data 207 = .ok (.goto 142, 3) := by decide +kernel
theorem dX3_data_210 : decode cX3_data 210 = .ok (.aload_n 0, 1) := by decide +kernel
theorem dX3_data_211 : decode cX3_data 211 = .ok (.aload_n 0, 1) := by decide +kernel
theorem dX3_data_212 : decode cX3_data 212 = .ok (.getfield 18, 3) := by decide +kernel
theorem dX3_data_215 : decode cX3_data 215 = .ok (.aload_n 0, 1) := by decide +kernel
theorem dX3_data_216 : decode cX3_data 216 = .ok (.getfield 14, 3) := by decide +kernel
theorem dX3_data_219 : decode cX3_data 219 = .ok (.getfield 84, 3) := by decide +kernel
theorem dX3_data_222 : decode cX3_data 222 = .ok (.iconst 1, 1) := by decide +kernel
theorem dX3_data_223 : decode cX3_data 223 = .ok (.isub, 1) := by decide +kernel
theorem dX3_data_224 : decode cX3_data 224 = .ok (.iload_n 2, 1) := by decide +kernel
theorem dX3_data_225 : decode cX3_data 225 = .ok (.isub, 1) := by decide +kernel
theorem dX3_data_226 : decode cX3_data 226 = .ok (.iaload, 1) := by decide +kernel
theorem dX3_data_227 : decode cX3_data 227 = .ok (.invokevirtual 322, 3) := by decide +kernel
theorem dX3_data_230 : decode cX3_data 230 = .ok (.goto 119, 3) := by decide +kernel
theorem dX3_data_233 : decode cX3_data 233 = .ok (.aload_n 0, 1) := by decide +kernel
theorem dX3_data_234 : decode cX3_data 234 = .ok (.aload_n 0, 1) := by decide +kernel
theorem dX3_data_235 : decode cX3_data 235 = .ok (.getfield 29, 3) := by decide +kernel
theorem dX3_data_238 : decode cX3_data 238 = .ok (.aload_n 0, 1) := by decide +kernel
theorem dX3_data_239 : decode cX3_data 239 = .ok (.getfield 235, 3) := by decide +kernel
theorem dX3_data_242 : decode cX3_data 242 = .ok (.iload_n 2, 1) := by decide +kernel
theorem dX3_data_243 : decode cX3_data 243 = .ok (.iadd, 1) := by decide +kernel
theorem dX3_data_244 : decode cX3_data 244 = .ok (.iaload, 1) := by decide +kernel
theorem dX3_data_245 : decode cX3_data 245 = .ok (.invokevirtual 322, 3) := by decide +kernel
theorem dX3_data_248 : decode cX3_data 248 = .ok (.goto 101, 3) := by decide +kernel
theorem dX3_data_251 : decode cX3_data 251 = .ok (.aload_n 0, 1) := by decide +kernel
theorem dX3_data_252 : decode cX3_data 252 = .ok (.ldc 136, 2) := by decide +kernel
theorem dX3_data_254 : decode cX3_data 254 = .ok (.iload_n 2, 1) := by decide +kernel
theorem dX3_data_255 : decode cX3_data 255 = .ok (.invokevirtual 132, 3) := by decide +kernel
theorem dX3_data_258 : decode cX3_data 258 = .ok (.goto 91, 3) := by decide +kernel
theorem dX3_data_261 : decode cX3_data 261 = .ok (.aload_n 0, 1) := by decide +kernel
theorem dX3_data_262 : decode cX3_data 262 = .ok (.getfield 18, 3) := by decide +kernel
theorem dX3_data_265 : decode cX3_data 265 = .ok (.aload_n 0, 1) := by decide +kernel
theorem dX3_data_266 : decode cX3_data 266 = .ok (.getfield 14, 3) := by decide +kernel
theorem dX3_data_269 : decode cX3_data 269 = .ok (.getfield 84, 3) := by decide +kernel
theorem dX3_data_272 : decode cX3_data 272 = .ok (.iconst 1, 1) := by decide +kernel
theorem dX3_data_273 : decode cX3_data 273 = .ok (.isub, 1) := by decide +kernel
theorem dX3_data_274 : decode cX3_data 274 = .ok (.iaload, 1) := by decide +kernel
theorem dX3_data_275 : decode cX3_data 275 = .ok (.istore 4, 2) := by decide +kernel
theorem dX3_data_277 : decode cX3_data 277 = .ok (.aload_n 0, 1) := by decide +kernel
theorem dX3_data_278 : decode cX3_data 278 = .ok (.getfield 18, 3) := by decide +kernel
theorem dX3_data_281 : decode cX3_data 281 = .ok (.aload_n 0, 1) := by decide +kernel
theorem dX3_data_282 : decode cX3_data 282 = .ok (.getfield 14, 3) := by decide +kernel
theorem dX3_data_285 : decode cX3_data 285 = .ok (.getfield 84, 3) := by decide +kernel
theorem dX3_data_288 : decode cX3_data 288 = .ok (.iconst 1, 1) := by decide +kernel
theorem dX3_data_289 : decode cX3_data 289 = .ok (.isub, 1) := by decide +kernel
theorem dX3_data_290 : decode cX3_data 290 = .ok (.aload_n 0, 1) := by decide +kernel
theorem dX3_data_291 : decode cX3_data 291 = .ok (.getfield 18, 3) := by decide +kernel
theorem dX3_data_294 : decode cX3_data 294 = .ok (.aload_n 0, 1) := by decide +kernel
theorem dX3_data_295 : decode cX3_data 295 = .ok (.getfield 14, 3) := by decide +kernel
theorem dX3_data_298 : decode cX3_data 298 = .ok (.getfield 84, 3) := by decide +kernel
theorem dX3_data_301 : decode cX3_data 301 = .ok (.iconst 2, 1) := by decide +kernel
theorem dX3_data_302 : decode cX3_data 302 = .ok (.isub, 1) := by decide +kernel
theorem dX3_data_303 : decode cX3_data 303 = .ok (.iaload, 1) := by decide +kernel
theorem dX3_data_304 : decode cX3_data 304 = .ok (.iastore, 1) := by decide +kernel
theorem dX3_data_305 : decode cX3_data 305 = .ok (.aload_n 0, 1) := by decide +kernel
theorem dX3_data_306 : decode cX3_data 306 = .ok (.getfield 18, 3) := by decide +kernel
theorem dX3_data_309 : decode cX3_data 309 = .ok (.aload_n 0, 1) := by decide +kernel
theorem dX3_data_310 : decode cX3_data 310 = .ok (.getfield 14, 3) := by decide +kernel
theorem dX3_data_313 : decode cX3_data 313 = .ok (.getfield 84, 3) := by decide +kernel
theorem dX3_data_316 : decode cX3_data 316 = .ok (.iconst 2, 1) := by decide +kernel
theorem dX3_data_317 : decode cX3_data 317 = .ok (.isub, 1) := by decide +kernel
theorem dX3_data_318 : decode cX3_data 318 = .ok (.iload 4, 2) := by decide +kernel
theorem dX3_data_320 : decode cX3_data 320 = .ok (.iastore, 1) := by decide +kernel
theorem dX3_data_321 : decode cX3_data 321 = .ok (.goto 28, 3) := by decide +kernel
theorem dX3_data_324 : decode cX3_data 324 = .ok (.aload_n 0, 1) := by decide +kernel
theorem dX3_data_325 : decode cX3_data 325 = .ok (.aload_n 0, 1) := by decide +kernel
theorem dX3_data_326 : decode cX3_data 326 = .ok (.getfield 39, 3) := by decide +kernel
theorem dX3_data_329 : decode cX3_data 329 = .ok (.aload_n 0, 1) := by decide +kernel
theorem dX3_data_330 : decode cX3_data 330 = .ok (.getfield 18, 3) := by decide +kernel
theorem dX3_data_333 : decode cX3_data 333 = .ok (.aload_n 0, 1) := by decide +kernel
theorem dX3_data_334 : decode cX3_data 334 = .ok (.getfield 14, 3) := by decide +kernel
theorem dX3_data_337 : decode cX3_data 337 = .ok (.getfield 84, 3) := by decide +kernel
theorem dX3_data_340 : decode cX3_data 340 = .ok (.iconst 1, 1) := by decide +kernel
theorem dX3_data_341 : decode cX3_data 341 = .ok (.isub, 1) := by decide +kernel
theorem dX3_data_342 : decode cX3_data 342 = .ok (.iaload, 1) := by decide +kernel
theorem dX3_data_343 : decode cX3_data 343 = .ok (.invokevirtual 316, 3) := by decide +kernel
theorem dX3_data_346 : decode cX3_data 346 = .ok (.invokevirtual 319, 3) := by decide +kernel
theorem dX3_data_349 : decode cX3_data 349 = .ok (.return_, 1) := by decide +kernel
theorem dX3_endFunc_0 : decode cX3_endFunc 0 = .ok (.aload_n 0, 1) := by decide +kernel
theorem dX3_endFunc_1 : decode cX3_endFunc 1 = .ok (.invokevirtual 339, 3) := by decide +kernel
theorem dX3_endFunc_4 : decode cX3_endFunc 4 = .ok (.istore_n 1, 1) := by decide +kernel
theorem dX3_endFunc_5 : decode cX3_endFunc 5 = .ok (.aload_n 0, 1) := by decide +kernel
theorem dX3_endFunc_6 : decode cX3_endFunc 6 = .ok (.getfield 14, 3) := by decide +kernel
theorem dX3_endFunc_9 : decode cX3_endFunc 9 = .ok (.getfield 81, 3) := by decide +kernel
theorem dX3_endFunc_12 : decode cX3_endFunc 12 = .ok (.istore_n 2, 1) := by decide +kernel
theorem dX3_endFunc_13 : decode cX3_endFunc 13 = .ok (.aload_n 0, 1) := by decide +kernel
theorem dX3_endFunc_14 : decode cX3_endFunc 14 = .ok (.dup, 1) := by decide +kernel
theorem dX3_endFunc_15 : decode cX3_endFunc 15 = .ok (.getfield 229, 3) := by decide +kernel
theorem dX3_endFunc_18 : decode cX3_endFunc 18 = .ok (.iconst 1, 1) := by decide +kernel
theorem dX3_endFunc_19 : decode cX3_endFunc 19 = .ok (.isub, 1) := by decide +kernel
theorem dX3_endFunc_20 : decode cX3_endFunc 20 = .ok (.putfield 229, 3) := by decide +kernel
theorem dX3_endFunc_23 : decode cX3_endFunc 23 = .ok (.aload_n 0, 1) := by decide +kernel
theorem dX3_endFunc_24 : decode cX3_endFunc 24 = .ok (.aload_n 0, 1) := by decide +kernel
theorem dX3_endFunc_25 : decode cX3_endFunc 25 = .ok (.getfield 232, 3) := by decide +kernel
theorem dX3_endFunc_28 : decode cX3_endFunc 28 = .ok (.aload_n 0, 1) := by decide +kernel
theorem dX3_endFunc_29 : decode cX3_endFunc 29 = .ok (.getfield 18, 3) := by decide +kernel
theorem dX3_endFunc_32 : decode cX3_endFunc 32 = .ok (.iload_n 2, 1) := by decide +kernel
theorem dX3_endFunc_33 : decode cX3_endFunc 33 = .ok (.iconst 2, 1) := by decide +kernel
theorem dX3_endFunc_34 : decode cX3_endFunc 34 = .ok (.iadd, 1) := by decide +kernel
theorem dX3_endFunc_35 : decode cX3_endFunc 35 = .ok (.iaload, 1) := by decide +kernel
theorem dX3_endFunc_36 : decode cX3_endFunc 36 = .ok (.invokestatic 388, 3) := by decide +kernel
theorem dX3_endFunc_39 : decode cX3_endFunc 39 = .ok (.isub, 1) := by decide +kernel
theorem dX3_endFunc_40 : decode cX3_endFunc 40 = .ok (.putfield 232, 3) := by decide +kernel
theorem dX3_endFunc_43 : decode cX3_endFunc 43 = .ok (.aload_n 0, 1) := by decide +kernel
theorem dX3_endFunc_44 : decode cX3_endFunc 44 = .ok (.aload_n 0, 1) := by decide +kernel
theorem dX3_endFunc_45 : decode cX3_endFunc 45 = .ok (.getfield 235, 3) := by decide +kernel
theorem dX3_endFunc_48 : decode cX3_endFunc 48 = .ok (.aload_n 0, 1) := by decide +kernel
theorem dX3_endFunc_49 : decode cX3_endFunc 49 = .ok (.getfield 18, 3) := by decide +kernel
theorem dX3_endFunc_52 : decode cX3_endFunc 52 = .ok (.iload_n 2, 1) := by decide +kernel
theorem dX3_endFunc_53 : decode cX3_endFunc 53 = .ok (.iconst 3, 1) := by decide +kernel
theorem dX3_endFunc_54 : decode cX3_endFunc 54 = .ok (.iadd, 1) := by decide +kernel
theorem dX3_endFunc_55 : decode cX3_endFunc 55 = .ok (.iaload, 1) := by decide +kernel
theorem dX3_endFunc_56 : decode cX3_endFunc 56 = .ok (.invokestatic 388, 3) := by decide +kernel
theorem dX3_endFunc_59 : decode cX3_endFunc 59 = .ok (.isub, 1) := by decide +kernel
theorem dX3_endFunc_60 : decode cX3_endFunc 60 = .ok (.putfield 235, 3) := by decide +kernel
theorem dX3_endFunc_63 : decode cX3_endFunc 63 = .ok (.aload_n 0, 1) := by decide +kernel
theorem dX3_endFunc_64 : decode cX3_endFunc 64 = .ok (.getfield 14, 3) := by decide +kernel
theorem dX3_endFunc_67 : decode cX3_endFunc 67 = .ok (.aload_n 0, 1) := by decide +kernel
theorem dX3_endFunc_68 : decode cX3_endFunc 68 = .ok (.getfield 18, 3) := by decide +kernel
theorem dX3_endFunc_71 : decode cX3_endFunc 71 = .ok (.iload_n 2, 1) := by decide +kernel
theorem dX3_endFunc_72 : decode cX3_endFunc 72 = .ok (.iaload, 1) := by decide +kernel
theorem dX3_endFunc_73 : decode cX3_endFunc 73 = .ok (.invokestatic 388, 3) := by decide +kernel
theorem dX3_endFunc_76 : decode cX3_endFunc 76 = .ok (.putfield 78, 3) := by decide +kernel
theorem dX3_endFunc_79 : decode cX3_endFunc 79 = .ok (.aload_n 0, 1) := by decide +kernel
theorem dX3_endFunc_80 : decode cX3_endFunc 80 = .ok (.getfield 14, 3) := by decide +kernel
theorem dX3_endFunc_83 : decode cX3_endFunc 83 = .ok (.aload_n 0, 1) := by decide +kernel
theorem dX3_endFunc_84 : decode cX3_endFunc 84 = .ok (.getfield 18, 3) := by decide +kernel
theorem dX3_endFunc_87 : decode cX3_endFunc 87 = .ok (.iload_n 2, 1) := by decide +kernel
theorem dX3_endFunc_88 : decode cX3_endFunc 88 = .ok (.iconst 1, 1) := by decide +kernel
theorem dX3_endFunc_89 : decode cX3_endFunc 89 = .ok (.iadd, 1) := by decide +kernel
theorem dX3_endFunc_90 : decode cX3_endFunc 90 = .ok (.iaload, 1) := by decide +kernel
theorem dX3_endFunc_91 : decode cX3_endFunc 91 = .ok (.invokestatic 388, 3) := by decide +kernel
theorem dX3_endFunc_94 : decode cX3_endFunc 94 = .ok (.putfield 81, 3) := by decide +kernel
theorem dX3_endFunc_97 : decode cX3_endFunc 97 = .ok (.aload_n 0, 1) := by decide +kernel
theorem dX3_endFunc_98 : decode cX3_endFunc 98 = .ok (.getfield 14, 3) := by decide +kernel
theorem dX3_endFunc_101 : decode cX3_endFunc 101 = .ok (.iload_n 2, 1) := by decide +kernel
theorem dX3_endFunc_102 : decode cX3_endFunc 102 = .ok (.putfield 84, 3) := by decide +kernel
theorem dX3_endFunc_105 : decode cX3_endFunc 105 = .ok (.aload_n 0, 1) := by decide +kernel
theorem dX3_endFunc_106 : decode cX3_endFunc 106 = .ok (.iload_n 1, 1) := by decide +kernel
theorem dX3_endFunc_107 : decode cX3_endFunc 107 = .ok (.invokevirtual 391, 3) := by decide +kernel
theorem dX3_endFunc_110 : decode cX3_endFunc 110 = .ok (.return_, 1) := by decide +kernel
theorem dX3_enter_0 : decode cX3_enter 0 = .ok (.aload_n 0, 1) := by decide +kernel
theorem dX3_enter_1 : decode cX3_enter 1 = .ok (.getfield 14, 3) := by decide +kernel
theorem dX3_enter_4 : decode cX3_enter 4 = .ok (.getfield 84, 3) := by decide +kernel
theorem dX3_enter_7 : decode cX3_enter 7 = .ok (.aload_n 0, 1) := by decide +kernel
theorem dX3_enter_8 : decode cX3_enter 8 = .ok (.getfield 58, 3) := by decide +kernel
theorem dX3_enter_11 : decode cX3_enter 11 = .ok (.getfield 382, 3) := by decide +kernel
theorem dX3_enter_14 : decode cX3_enter 14 = .ok (.iload_n 1, 1) := by decide +kernel
theorem dX3_enter_15 : decode cX3_enter 15 = .ok (.iaload, 1) := by decide +kernel
theorem dX3_enter_16 : decode cX3_enter 16 = .ok (.isub, 1) := by decide +kernel
theorem dX3_enter_17 : decode cX3_enter 17 = .ok (.iconst 4, 1) := by decide +kernel
theorem dX3_enter_18 : decode cX3_enter 18 = .ok (.isub, 1) := by decide +kernel
theorem dX3_enter_19 : decode cX3_enter 19 = .ok (.istore 5, 2) := by decide +kernel
theorem dX3_enter_21 : decode cX3_enter 21 = .ok (.aload_n 0, 1) := by decide +kernel
theorem dX3_enter_22 : decode cX3_enter 22 = .ok (.getfield 18, 3) := by decide +kernel
theorem dX3_enter_25 : decode cX3_enter 25 = .ok (.iload 5, 2) := by decide +kernel
theorem dX3_enter_27 : decode cX3_enter 27 = .ok (.iload_n 2, 1) := by decide +kernel
theorem dX3_enter_28 : decode cX3_enter 28 = .ok (.invokestatic 182, 3) := by decide +kernel
theorem dX3_enter_31 : decode cX3_enter 31 = .ok (.iastore, 1) := by decide +kernel
theorem dX3_enter_32 : decode cX3_enter 32 = .ok (.aload_n 0, 1) := by decide +kernel
theorem dX3_enter_33 : decode cX3_enter 33 = .ok (.getfield 18, 3) := by decide +kernel
theorem dX3_enter_36 : decode cX3_enter 36 = .ok (.iload 5, 2) := by decide +kernel
theorem dX3_enter_38 : decode cX3_enter 38 = .ok (.iconst 1, 1) := by decide +kernel
theorem dX3_enter_39 : decode cX3_enter 39 = .ok (.iadd, 1) := by decide +kernel
theorem dX3_enter_40 : decode cX3_enter 40 = .ok (.aload_n 0, 1) := by decide +kernel
theorem dX3_enter_41 : decode cX3_enter 41 = .ok (.getfield 14, 3) := by decide +kernel
theorem dX3_enter_44 : decode cX3_enter 44 = .ok (.getfield 81, 3) := by decide +kernel
theorem dX3_enter_47 : decode cX3_enter 47 = .ok (.invokestatic 182, 3) := by decide +kernel
theorem dX3_enter_50 : decode cX3_enter 50 = .ok (.iastore, 1) := by decide +kernel
theorem dX3_enter_51 : decode cX3_enter 51 = .ok (.aload_n 0, 1) := by decide +kernel
theorem dX3_enter_52 : decode cX3_enter 52 = .ok (.getfield 18, 3) := by decide +kernel
theorem dX3_enter_55 : decode cX3_enter 55 = .ok (.iload 5, 2) := by decide +kernel
theorem dX3_enter_57 : decode cX3_enter 57 = .ok (.iconst 2, 1) := by decide +kernel
theorem dX3_enter_58 : decode cX3_enter 58 = .ok (.iadd, 1) := by decide +kernel
theorem dX3_enter_59 : decode cX3_enter 59 = .ok (.iload_n 3, 1) := by decide +kernel
theorem dX3_enter_60 : decode cX3_enter 60 = .ok (.invokestatic 182, 3) := by decide +kernel
theorem dX3_enter_63 : decode cX3_enter 63 = .ok (.iastore, 1) := by decide +kernel
theorem dX3_enter_64 : decode cX3_enter 64 = .ok (.aload_n 0, 1) := by decide +kernel
theorem dX3_enter_65 : decode cX3_enter 65 = .ok (.getfield 18, 3) := by decide +kernel
theorem dX3_enter_68 : decode cX3_enter 68 = .ok (.iload 5, 2) := by decide +kernel
theorem dX3_enter_70 : decode cX3_enter 70 = .ok (.iconst 3, 1) := by decide +kernel
theorem dX3_enter_71 : decode cX3_enter 71 = .ok (.iadd, 1) := by decide +kernel
theorem dX3_enter_72 : decode cX3_enter 72 = .ok (.iload 4, 2) := by decide +kernel
theorem dX3_enter_74 : decode cX3_enter 74 = .ok (.invokestatic 182, 3) := by decide +kernel
theorem dX3_enter_77 : decode cX3_enter 77 = .ok (.iastore, 1) := by decide +kernel
theorem dX3_enter_78 : decode cX3_enter 78 = .ok (.aload_n 0, 1) := by decide +kernel
theorem dX3_enter_79 : decode cX3_enter 79 = .ok (.getfield 14, 3) := by decide +kernel
theorem dX3_enter_82 : decode cX3_enter 82 = .ok (.iload 5, 2) := by decide +kernel
theorem dX3_enter_84 : decode cX3_enter 84 = .ok (.putfield 81, 3) := by decide +kernel
theorem dX3_enter_87 : decode cX3_enter 87 = .ok (.aload_n 0, 1) := by decide +kernel
theorem dX3_enter_88 : decode cX3_enter 88 = .ok (.ldc 136, 2) := by decide +kernel
theorem dX3_enter_90 : decode cX3_enter 90 = .ok (.aload_n 0, 1) := by decide +kernel
theorem dX3_enter_91 : decode cX3_enter 91 = .ok (.getfield 58, 3) := by decide +kernel
theorem dX3_enter_94 : decode cX3_enter 94 = .ok (.getfield 137, 3) := by decide +kernel
theorem dX3_enter_97 : decode cX3_enter 97 = .ok (.iload_n 1, 1) := by decide +kernel
theorem dX3_enter_98 : decode cX3_enter 98 = .ok (.iaload, 1) := by decide +kernel
theorem dX3_enter_99 : decode cX3_enter 99 = .ok (.aload_n 0, 1) := by decide +kernel
theorem dX3_enter_100 : decode cX3_enter 100 = .ok (.getfield 58, 3) := by decide +kernel
theorem dX3_enter_103 : decode cX3_enter 103 = .ok (.getfield 382, 3) := by decide +kernel
theorem dX3_enter_106 : decode cX3_enter 106 = .ok (.iload_n 1, 1) := by decide +kernel
theorem dX3_enter_107 : decode cX3_enter 107 = .ok (.iaload, 1) := by decide +kernel
theorem dX3_enter_108 : decode cX3_enter 108 = .ok (.isub, 1) := by decide +kernel
theorem dX3_enter_109 : decode cX3_enter 109 = .ok (.invokevirtual 132, 3) := by decide +kernel
theorem dX3_enter_112 : decode cX3_enter 112 = .ok (.aload_n 0, 1) := by decide +kernel
theorem dX3_enter_113 : decode cX3_enter 113 = .ok (.getfield 14, 3) := by decide +kernel
theorem dX3_enter_116 : decode cX3_enter 116 = .ok (.aload_n 0, 1) := by decide +kernel
theorem dX3_enter_117 : decode cX3_enter 117 = .ok (.getfield 58, 3) := by decide +kernel
theorem dX3_enter_120 : decode cX3_enter 120 = .ok (.getfield 385, 3) := by decide +kernel
theorem dX3_enter_123 : decode cX3_enter 123 = .ok (.iload_n 1, 1) := by decide +kernel
theorem dX3_enter_124 : decode cX3_enter 124 = .ok (.iaload, 1) := by decide +kernel
theorem dX3_enter_125 : decode cX3_enter 125 = .ok (.putfield 78, 3) := by decide +kernel
theorem dX3_enter_128 : decode cX3_enter 128 = .ok (.return_, 1) := by decide +kernel
theorem dX3_evaluate_0 : decode cX3_evaluate 0 = .ok (.aload_n 0, 1) := by decide +kernel
theorem dX3_evaluate_1 : decode cX3_evaluate 1 = .ok (.getfield 14, 3) := by decide +kernel
theorem dX3_evaluate_4 : decode cX3_evaluate 4 = .ok (.getfield 78, 3) := by decide +kernel
theorem dX3_evaluate_7 : decode cX3_evaluate 7 = .ok (.istore_n 2, 1) := by decide +kernel
theorem dX3_evaluate_8 : decode cX3_evaluate 8 = .ok (.aload_n 0, 1) := by decide +kernel
theorem dX3_evaluate_9 : decode cX3_evaluate 9 = .ok (.getfield 14, 3) := by decide +kernel
theorem dX3_evaluate_12 : decode cX3_evaluate 12 = .ok (.getfield 81, 3) := by decide +kernel
theorem dX3_evaluate_15 : decode cX3_evaluate 15 = .ok (.istore_n 3, 1) := by decide +kernel
theorem dX3_evaluate_16 : decode cX3_evaluate 16 = .ok (.aload_n 0, 1) := by decide +kernel
theorem dX3_evaluate_17 : decode cX3_evaluate 17 = .ok (.getfield 14, 3) := by decide +kernel
theorem dX3_evaluate_20 : decode cX3_evaluate 20 = .ok (.getfield 84, 3) := by decide +kernel
theorem dX3_evaluate_23 : decode cX3_evaluate 23 = .ok (.istore 4, 2) := by decide +kernel
theorem dX3_evaluate_25 : decode cX3_evaluate 25 = .ok (.aload_n 0, 1) := by decide +kernel
theorem dX3_evaluate_26 : decode cX3_evaluate 26 = .ok (.getfield 14, 3) := by decide +kernel
theorem dX3_evaluate_29 : decode cX3_evaluate 29 = .ok (.getfield 93, 3) := by decide +kernel
theorem dX3_evaluate_32 : decode cX3_evaluate 32 = .ok (.istore 5, 2) := by decide +kernel
theorem dX3_evaluate_34 : decode cX3_evaluate 34 = .ok (.aload_n 0, 1) := by decide +kernel
theorem dX3_evaluate_35 : decode cX3_evaluate 35 = .ok (.getfield 14, 3) := by decide +kernel
theorem dX3_evaluate_38 : decode cX3_evaluate 38 = .ok (.getfield 128, 3) := by decide +kernel
theorem dX3_evaluate_41 : decode cX3_evaluate 41 = .ok (.lstore 6, 2) := by decide +kernel
theorem dX3_evaluate_43 : decode cX3_evaluate 43 = .ok (.aload_n 0, 1) := by decide +kernel
theorem dX3_evaluate_44 : decode cX3_evaluate 44 = .ok (.getfield 14, 3) := by decide +kernel
theorem dX3_evaluate_47 : decode cX3_evaluate 47 = .ok (.iload 4, 2) := by decide +kernel
theorem dX3_evaluate_49 : decode cX3_evaluate 49 = .ok (.putfield 81, 3) := by decide +kernel
theorem dX3_evaluate_52 : decode cX3_evaluate 52 = .ok (.aload_n 0, 1) := by decide +kernel
theorem dX3_evaluate_53 : decode cX3_evaluate 53 = .ok (.getfield 14, 3) := by decide +kernel
theorem dX3_evaluate_56 : decode cX3_evaluate 56 = .ok (.iload_n 1, 1) := by decide +kernel
theorem dX3_evaluate_57 : decode cX3_evaluate 57 = .ok (.putfield 78, 3) := by decide +kernel
theorem dX3_evaluate_60 : decode cX3_evaluate 60 = .ok (.aload_n 0, 1) := by decide +kernel
theorem dX3_evaluate_61 : decode cX3_evaluate 61 = .ok (.getfield 14, 3) := by decide +kernel
theorem dX3_evaluate_64 : decode cX3_evaluate 64 = .ok (.iconst 0, 1) := by decide +kernel
theorem dX3_evaluate_65 : decode cX3_evaluate 65 = .ok (.putfield 93, 3) := by decide +kernel
theorem dX3_evaluate_68 : decode cX3_evaluate 68 = .ok (.aload_n 0, 1) := by decide +kernel
theorem dX3_evaluate_69 : decode cX3_evaluate 69 = .ok (.ldc 131, 2) := by decide +kernel
theorem dX3_evaluate_71 : decode cX3_evaluate 71 = .ok (.iconst 4, 1) := by decide +kernel
theorem dX3_evaluate_72 : decode cX3_evaluate 72 = .ok (.invokevirtual 132, 3) := by decide +kernel
theorem dX3_evaluate_75 : decode cX3_evaluate 75 = .ok (.aload_n 0, 1) := by decide +kernel
theorem dX3_evaluate_76 : decode cX3_evaluate 76 = .ok (.invokevirtual 146, 3) := by decide +kernel
theorem dX3_evaluate_79 : decode cX3_evaluate 79 = .ok (.aload_n 0, 1) := by decide +kernel
theorem dX3_evaluate_80 : decode cX3_evaluate 80 = .ok (.getfield 18, 3) := by decide +kernel
theorem dX3_evaluate_83 : decode cX3_evaluate 83 = .ok (.aload_n 0, 1) := by decide +kernel
theorem dX3_evaluate_84 : decode cX3_evaluate 84 = .ok (.getfield 14, 3) := by decide +kernel
theorem dX3_evaluate_87 : decode cX3_evaluate 87 = .ok (.getfield 84, 3) := by decide +kernel
theorem dX3_evaluate_90 : decode cX3_evaluate 90 = .ok (.iconst 1, 1) := by decide +kernel
theorem dX3_evaluate_91 : decode cX3_evaluate 91 = .ok (.isub, 1) := by decide +kernel
theorem dX3_evaluate_92 : decode cX3_evaluate 92 = .ok (.iaload, 1) := by decide +kernel
theorem dX3_evaluate_93 : decode cX3_evaluate 93 = .ok (.istore 8, 2) := by decide +kernel
theorem dX3_evaluate_95 : decode cX3_evaluate 95 = .ok (.aload_n 0, 1) := by decide +kernel
theorem dX3_evaluate_96 : decode cX3_evaluate 96 = .ok (.getfield 149, 3) := by decide +kernel
theorem dX3_evaluate_99 : decode cX3_evaluate 99 = .ok (.ifCond .eq 21, 3) := by decide +kernel
theorem dX3_evaluate_102 : decode cX3_evaluate 102 = .ok (.aload_n 0, 1) := by decide +kernel
theorem dX3_evaluate_103 : decode cX3_evaluate 103 = .ok (.getfield 29, 3) := by decide +kernel
theorem dX3_evaluate_106 : decode cX3_evaluate 106 = .ok (.ldc 136, 2) := by decide +kernel
theorem dX3_evaluate_108 : decode cX3_evaluate 108 = .ok (.invokestatic 152, 3) := by decide +kernel
theorem dX3_evaluate_111 : decode cX3_evaluate 111 = .ok (.aload_n 0, 1) := by decide +kernel
theorem dX3_evaluate_112 : decode cX3_evaluate 112 = .ok (.getfield 149, 3) := by decide +kernel
theorem dX3_evaluate_115 : decode cX3_evaluate 115 = .ok (.invokestatic 182, 3) := by decide +kernel
theorem dX3_evaluate_118 : decode cX3_evaluate 118 = .ok (.istore 8, 2) := by decide +kernel
theorem dX3_evaluate_120 : decode cX3_evaluate 120 = .ok (.aload_n 0, 1) := by decide +kernel
theorem dX3_evaluate_121 : decode cX3_evaluate 121 = .ok (.aload_n 0, 1) := by decide +kernel
theorem dX3_evaluate_122 : decode cX3_evaluate 122 = .ok (.getfield 14, 3) := by decide +kernel
theorem dX3_evaluate_125 : decode cX3_evaluate 125 = .ok (.getfield 93, 3) := by decide +kernel
theorem dX3_evaluate_128 : decode cX3_evaluate 128 = .ok (.putfield 185, 3) := by decide +kernel
theorem dX3_evaluate_131 : decode cX3_evaluate 131 = .ok (.aload_n 0, 1) := by decide +kernel
theorem dX3_evaluate_132 : decode cX3_evaluate 132 = .ok (.getfield 14, 3) := by decide +kernel
theorem dX3_evaluate_135 : decode cX3_evaluate 135 = .ok (.iload_n 2, 1) := by decide +kernel
theorem dX3_evaluate_136 : decode cX3_evaluate 136 = .ok (.putfield 78, 3) := by decide +kernel
theorem dX3_evaluate_139 : decode cX3_evaluate 139 = .ok (.aload_n 0, 1) := by decide +kernel
theorem dX3_evaluate_140 : decode cX3_evaluate 140 = .ok (.getfield 14, 3) := by decide +kernel
theorem dX3_evaluate_143 : decode cX3_evaluate 143 = .ok (.iload_n 3, 1) := by decide +kernel
theorem dX3_evaluate_144 : decode cX3_evaluate 144 = .ok (.putfield 81, 3) := by decide +kernel
theorem dX3_evaluate_147 : decode cX3_evaluate 147 = .ok (.aload_n 0, 1) := by decide +kernel
theorem dX3_evaluate_148 : decode cX3_evaluate 148 = .ok (.getfield 14, 3) := by decide +kernel
theorem dX3_evaluate_151 : decode cX3_evaluate 151 = .ok (.iload 4, 2) := by decide +kernel
theorem dX3_evaluate_153 : decode cX3_evaluate 153 = .ok (.putfield 84, 3) := by decide +kernel
theorem dX3_evaluate_156 : decode cX3_evaluate 156 = .ok (.aload_n 0, 1) := by decide +kernel
theorem dX3_evaluate_157 : decode cX3_evaluate 157 = .ok (.getfield 14, 3) := by decide +kernel
theorem dX3_evaluate_160 : decode cX3_evaluate 160 = .ok (.iload 5, 2) := by decide +kernel
theorem dX3_evaluate_162 : decode cX3_evaluate 162 = .ok (.putfield 93, 3) := by decide +kernel
theorem dX3_evaluate_165 : decode cX3_evaluate 165 = .ok (.aload_n 0, 1) := by decide +kernel
theorem dX3_evaluate_166 : decode cX3_evaluate 166 = .ok (.getfield 14, 3) := by decide +kernel
theorem dX3_evaluate_169 : decode cX3_evaluate 169 = .ok (.lload 6, 2) := by decide +kernel
theorem dX3_evaluate_171 : decode cX3_evaluate 171 = .ok (.putfield 128, 3) := by decide +kernel
theorem dX3_evaluate_174 : decode cX3_evaluate 174 = .ok (.iload 8, 2) := by decide +kernel
theorem dX3_evaluate_176 : decode cX3_evaluate 176 = .ok (.ireturn, 1) := by decide +kernel
theorem dX3_execute_0 : decode cX3_execute 0 = .ok (.aload_n 0, 1) := by decide +kernel
theorem dX3_execute_1 : decode cX3_execute 1 = .ok (.invokevirtual 238, 3) := by decide +kernel
theorem dX3_execute_4 : decode cX3_execute 4 = .ok (.aload_n 0, 1) := by decide +kernel
theorem dX3_execute_5 : decode cX3_execute 5 = .ok (.getfield 58, 3) := by decide +kernel
theorem dX3_execute_8 : decode cX3_execute 8 = .ok (.getfield 241, 3) := by decide +kernel
theorem dX3_execute_11 : decode cX3_execute 11 = .ok (.astore_n 1, 1) := by decide +kernel
theorem dX3_execute_12 : decode cX3_execute 12 = .ok (.lconst 0, 1) := by decide +kernel
theorem dX3_execute_13 : decode cX3_execute 13 = .ok (.lstore_n 2, 1) := by decide +kernel
theorem dX3_execute_14 : decode cX3_execute 14 = .ok (.lload_n 2, 1) := by decide +kernel
theorem dX3_execute_15 : decode cX3_execute 15 = .ok (.ldc2_w 244, 3) := by decide +kernel
theorem dX3_execute_18 : decode cX3_execute 18 = .ok (.lcmp, 1) := by decide +kernel
theorem dX3_execute_19 : decode cX3_execute 19 = .ok (.ifCond .ge 426, 3) := by decide +kernel
theorem dX3_execute_22 : decode cX3_execute 22 = .ok (.aload_n 0, 1) := by decide +kernel
theorem dX3_execute_23 : decode cX3_execute 23 = .ok (.getfield 225, 3) := by decide +kernel
theorem dX3_execute_26 : decode cX3_execute 26 = .ok (.ifCond .ne 419, 3) := by decide +kernel
theorem dX3_execute_29 : decode cX3_execute 29 = .ok (.aload_n 0, 1) := by decide +kernel
theorem dX3_execute_30 : decode cX3_execute 30 = .ok (.getfield 39, 3) := by decide +kernel
theorem dX3_execute_33 : decode cX3_execute 33 = .ok (.invokevirtual 188, 3) := by decide +kernel
theorem dX3_execute_36 : decode cX3_execute 36 = .ok (.ifCond .eq 7, 3) := by decide +kernel
theorem dX3_execute_39 : decode cX3_execute 39 = .ok (.aload_n 0, 1) := by decide +kernel
theorem dX3_execute_40 : decode cX3_execute 40 = .ok (.invokevirtual 246, 3) := by decide +kernel
theorem dX3_execute_43 : decode cX3_execute 43 = .ok (.aload_n 0, 1) := by decide +kernel
theorem dX3_execute_44 : decode cX3_execute 44 = .ok (.getfield 14, 3) := by decide +kernel
theorem dX3_execute_47 : decode cX3_execute 47 = .ok (.getfield 78, 3) := by decide +kernel
theorem dX3_execute_50 : decode cX3_execute 50 = .ok (.istore 4, 2) := by decide +kernel
theorem dX3_execute_52 : decode cX3_execute 52 = .ok (.iload 4, 2) := by decide +kernel
theorem dX3_execute_54 : decode cX3_execute 54 = .ok (.ifCond .lt 10, 3) := by decide +kernel
theorem dX3_execute_57 : decode cX3_execute 57 = .ok (.iload 4, 2) := by decide +kernel
theorem dX3_execute_59 : decode cX3_execute 59 = .ok (.aload_n 1, 1) := by decide +kernel
theorem dX3_execute_60 : decode cX3_execute 60 = .ok (.arraylength, 1) := by decide +kernel
theorem dX3_execute_61 : decode cX3_execute 61 = .ok (.if_icmp .lt 4, 3) := by decide +kernel
theorem dX3_execute_64 : decode cX3_execute 64 = .ok (.return_, 1) := by decide +kernel
theorem dX3_execute_65 : decode cX3_execute 65 = .ok (.aload_n 0, 1) := by decide +kernel
theorem dX3_execute_66 : decode cX3_execute 66 = .ok (.getfield 14, 3) := by decide +kernel
theorem dX3_execute_69 : decode cX3_execute 69 = .ok (.iload 4, 2) := by decide +kernel
theorem dX3_execute_71 : decode cX3_execute 71 = .ok (.iconst 1, 1) := by decide +kernel
theorem dX3_execute_72 : decode cX3_execute 72 = .ok (.iadd, 1) := by decide +kernel
theorem dX3_execute_73 : decode cX3_execute 73 = .ok (.putfield 78, 3) := by decide +kernel
theorem dX3_execute_76 : decode cX3_execute 76 = .ok (.aload_n 1, 1) := by decide +kernel
theorem dX3_execute_77 : decode cX3_execute 77 = .ok (.iload 4, 2) := by decide +kernel
theorem dX3_execute_79 : decode cX3_execute 79 = .ok (.iaload, 1) := by decide +kernel
theorem dX3_execute_80 : decode cX3_execute 80 = .ok (.sipush 255, 3) := by decide +kernel
theorem dX3_execute_83 : decode cX3_execute 83 = .ok (.iand, 1) := by decide +kernel
theorem dX3_execute_84 : decode cX3_execute 84 = .ok (.istore 5, 2) := by decide +kernel
theorem dX3_execute_86 : decode cX3_execute 86 = .ok (.aload_n 1, 1) := by decide +kernel
theorem dX3_execute_87 : decode cX3_execute 87 = .ok (.iload 4, 2) := by decide +kernel
theorem dX3_execute_89 : decode cX3_execute 89 = .ok (.iaload, 1) := by decide +kernel
theorem dX3_execute_90 : decode cX3_execute 90 = .ok (.bipush 8, 2) := by decide +kernel
theorem dX3_execute_92 : decode cX3_execute 92 = .ok (.ishr, 1) := by decide +kernel
theorem dX3_execute_93 : decode cX3_execute 93 = .ok (.istore 6, 2) := by decide +kernel
theorem dX3_execute_95 : decode cX3_execute 95 = .ok (.iload 5, 2) := by decide +kernel
theorem dX3_execute_97 : decode cX3_execute 97 = .ok (.iconst 4, 1) := by decide +kernel
theorem dX3_execute_98 : decode cX3_execute 98 = .ok (.ishr, 1) := by decide +kernel
theorem dX3_execute_99 : decode cX3_execute 99 = .ok (.tableswitch 333 0 12 #[65, 78, 89, 102, 113, 126, 137, 150, 163, 333, 218, 248, 284], 65) := by decide +kernel
theorem dX3_execute_164 : decode cX3_execute 164 = .ok (.aload_n 0, 1) := by decide +kernel
theorem dX3_execute_165 : decode cX3_execute 165 = .ok (.iload 5, 2) := by decide +kernel
theorem dX3_execute_167 : decode cX3_execute 167 = .ok (.iload 6, 2) := by decide +kernel
theorem dX3_execute_169 : decode cX3_execute 169 = .ok (.iload 4, 2) := by decide +kernel
theorem dX3_execute_171 : decode cX3_execute 171 = .ok (.invokevirtual 249, 3) := by decide +kernel
theorem dX3_execute_174 : decode cX3_execute 174 = .ok (.goto 264, 3) := by decide +kernel
theorem dX3_execute_177 : decode cX3_execute 177 = .ok (.aload_n 0, 1) := by decide +kernel
theorem dX3_execute_178 : decode cX3_execute 178 = .ok (.iload 5, 2) := by decide +kernel
theorem dX3_execute_180 : decode cX3_execute 180 = .ok (.iload 6, 2) := by decide +kernel
theorem dX3_execute_182 : decode cX3_execute 182 = .ok (.invokevirtual 253, 3) := by decide +kernel
theorem dX3_execute_185 : decode cX3_execute 185 = .ok (.goto 253, 3) := by decide +kernel
theorem dX3_execute_188 : decode cX3_execute 188 = .ok (.aload_n 0, 1) := by decide +kernel
theorem dX3_execute_189 : decode cX3_execute 189 = .ok (.iload 5, 2) := by decide +kernel
theorem dX3_execute_191 : decode cX3_execute 191 = .ok (.iload 6, 2) := by decide +kernel
theorem dX3_execute_193 : decode cX3_execute 193 = .ok (.iload 4, 2) := by decide +kernel
theorem dX3_execute_195 : decode cX3_execute 195 = .ok (.invokevirtual 256, 3) := by decide +kernel
theorem dX3_execute_198 : decode cX3_execute 198 = .ok (.goto 240, 3) := by decide +kernel
theorem dX3_execute_201 : decode cX3_execute 201 = .ok (.aload_n 0, 1) := by decide +kernel
theorem dX3_execute_202 : decode cX3_execute 202 = .ok (.iload 5, 2) := by decide +kernel
theorem dX3_execute_204 : decode cX3_execute 204 = .ok (.iload 6, 2) := by decide +kernel
theorem dX3_execute_206 : decode cX3_execute 206 = .ok (.invokevirtual 259, 3) := by decide +kernel
theorem dX3_execute_209 : decode cX3_execute 209 = .ok (.goto 229, 3) := by decide +kernel
theorem dX3_execute_212 : decode cX3_execute 212 = .ok (.aload_n 0, 1) := by decide +kernel
theorem dX3_execute_213 : decode cX3_execute 213 = .ok (.iload 5, 2) := by decide +kernel
theorem dX3_execute_215 : decode cX3_execute 215 = .ok (.iload 6, 2) := by decide +kernel
theorem dX3_execute_217 : decode cX3_execute 217 = .ok (.iload 4, 2) := by decide +kernel
theorem dX3_execute_219 : decode cX3_execute 219 = .ok (.invokevirtual 262, 3) := by decide +kernel
theorem dX3_execute_222 : decode cX3_execute 222 = .ok (.goto 216, 3) := by decide +kernel
theorem dX3_execute_225 : decode cX3_execute 225 = .ok (.aload_n 0, 1) := by decide +kernel
theorem dX3_execute_226 : decode cX3_execute 226 = .ok (.iload 5, 2) := by decide +kernel
theorem dX3_execute_228 : decode cX3_execute 228 = .ok (.iload 6, 2) := by decide +kernel
theorem dX3_execute_230 : decode cX3_execute 230 = .ok (.invokevirtual 265, 3) := by decide +kernel
theorem dX3_execute_233 : decode cX3_execute 233 = .ok (.goto 205, 3) := by decide +kernel
theorem dX3_execute_236 : decode cX3_execute 236 = .ok (.aload_n 0, 1) := by decide +kernel
theorem dX3_execute_237 : decode cX3_execute 237 = .ok (.iload 5, 2) := by decide +kernel
theorem dX3_execute_239 : decode cX3_execute 239 = .ok (.iload 6, 2) := by decide +kernel
theorem dX3_execute_241 : decode cX3_execute 241 = .ok (.iload 4, 2) := by decide +kernel
theorem dX3_execute_243 : decode cX3_execute 243 = .ok (.invokevirtual 268, 3) := by decide +kernel
theorem dX3_execute_246 : decode cX3_execute 246 = .ok (.goto 192, 3) := by decide +kernel
theorem dX3_execute_249 : decode cX3_execute 249 = .ok (.aload_n 0, 1) := by decide +kernel
theorem dX3_execute_250 : decode cX3_execute 250 = .ok (.iload 5, 2) := by decide +kernel
theorem dX3_execute_252 : decode cX3_execute 252 = .ok (.iload 6, 2) := by decide +kernel
theorem dX3_execute_254 : decode cX3_execute 254 = .ok (.iload 4, 2) := by decide +kernel
theorem dX3_execute_256 : decode cX3_execute 256 = .ok (.invokevirtual 271, 3) := by decide +kernel
theorem dX3_execute_259 : decode cX3_execute 259 = .ok (.goto 179, 3) := by decide +kernel
theorem dX3_execute_262 : decode cX3_execute 262 = .ok (.aload_n 0, 1) := by decide +kernel
theorem dX3_execute_263 : decode cX3_execute 263 = .ok (.getfield 14, 3) := by decide +kernel
theorem dX3_execute_266 : decode cX3_execute 266 = .ok (.dup, 1) := by decide +kernel
theorem dX3_execute_267 : decode cX3_execute 267 = .ok (.getfield 84, 3) := by decide +kernel
theorem dX3_execute_270 : decode cX3_execute 270 = .ok (.iconst 1, 1) := by decide +kernel
theorem dX3_execute_271 : decode cX3_execute 271 = .ok (.isub, 1) := by decide +kernel
theorem dX3_execute_272 : decode cX3_execute 272 = .ok (.putfield 84, 3) := by decide +kernel
theorem dX3_execute_275 : decode cX3_execute 275 = .ok (.aload_n 0, 1) := by decide +kernel
theorem dX3_execute_276 : decode cX3_execute 276 = .ok (.aload_n 0, 1) := by decide +kernel
theorem dX3_execute_277 : decode cX3_execute 277 = .ok (.getfield 47, 3) := by decide +kernel
theorem dX3_execute_280 : decode cX3_execute 280 = .ok (.iload 5, 2) := by decide +kernel
theorem dX3_execute_282 : decode cX3_execute 282 = .ok (.aload_n 0, 1) := by decide +kernel
theorem dX3_execute_283 : decode cX3_execute 283 = .ok (.getfield 18, 3) := by decide +kernel
theorem dX3_execute_286 : decode cX3_execute 286 = .ok (.aload_n 0, 1) := by decide +kernel
theorem dX3_execute_287 : decode cX3_execute 287 = .ok (.getfield 14, 3) := by decide +kernel
theorem dX3_execute_290 : decode cX3_execute 290 = .ok (.getfield 84, 3) := by decide +kernel
theorem dX3_execute_293 : decode cX3_execute 293 = .ok (.iconst 1, 1) := by decide +kernel
theorem dX3_execute_294 : decode cX3_execute 294 = .ok (.isub, 1) := by decide +kernel
theorem dX3_execute_295 : decode cX3_execute 295 = .ok (.iaload, 1) := by decide +kernel
theorem dX3_execute_296 : decode cX3_execute 296 = .ok (.aload_n 0, 1) := by decide +kernel
theorem dX3_execute_297 : decode cX3_execute 297 = .ok (.getfield 18, 3) := by decide +kernel
theorem dX3_execute_300 : decode cX3_execute 300 = .ok (.aload_n 0, 1) := by decide +kernel
theorem dX3_execute_301 : decode cX3_execute 301 = .ok (.getfield 14, 3) := by decide +kernel
theorem dX3_execute_304 : decode cX3_execute 304 = .ok (.getfield 84, 3) := by decide +kernel
theorem dX3_execute_307 : decode cX3_execute 307 = .ok (.iaload, 1) := by decide +kernel
theorem dX3_execute_308 : decode cX3_execute 308 = .ok (.invokevirtual 274, 3) := by decide +kernel
theorem dX3_execute_311 : decode cX3_execute 311 = .ok (.invokevirtual 280, 3) := by decide +kernel
theorem dX3_execute_314 : decode cX3_execute 314 = .ok (.goto 124, 3) := by decide +kernel
theorem dX3_execute_317 : decode cX3_execute 317 = .ok (.aload_n 0, 1) := by decide +kernel
theorem dX3_execute_318 : decode cX3_execute 318 = .ok (.aload_n 0, 1) := by decide +kernel
theorem dX3_execute_319 : decode cX3_execute 319 = .ok (.getfield 47, 3) := by decide +kernel
theorem dX3_execute_322 : decode cX3_execute 322 = .ok (.iload 5, 2) := by decide +kernel
theorem dX3_execute_324 : decode cX3_execute 324 = .ok (.aload_n 0, 1) := by decide +kernel
theorem dX3_execute_325 : decode cX3_execute 325 = .ok (.getfield 18, 3) := by decide +kernel
theorem dX3_execute_328 : decode cX3_execute 328 = .ok (.aload_n 0, 1) := by decide +kernel
theorem dX3_execute_329 : decode cX3_execute 329 = .ok (.getfield 14, 3) := by decide +kernel
theorem dX3_execute_332 : decode cX3_execute 332 = .ok (.getfield 84, 3) := by decide +kernel
theorem dX3_execute_335 : decode cX3_execute 335 = .ok (.iconst 1, 1) := by decide +kernel
theorem dX3_execute_336 : decode cX3_execute 336 = .ok (.isub, 1) := by decide +kernel
theorem dX3_execute_337 : decode cX3_execute 337 = .ok (.iaload, 1) := by decide +kernel
theorem dX3_execute_338 : decode cX3_execute 338 = .ok (.invokevirtual 284, 3) := by decide +kernel
theorem dX3_execute_341 : decode cX3_execute 341 = .ok (.invokevirtual 280, 3) := by decide +kernel
theorem dX3_execute_344 : decode cX3_execute 344 = .ok (.goto 94, 3) := by decide +kernel
theorem dX3_execute_347 : decode cX3_execute 347 = .ok (.aload_n 0, 1) := by decide +kernel
theorem dX3_execute_348 : decode cX3_execute 348 = .ok (.iload 5, 2) := by decide +kernel
theorem dX3_execute_350 : decode cX3_execute 350 = .ok (.sipush 176, 3) := by decide +kernel
theorem dX3_execute_353 : decode cX3_execute 353 = .ok (.if_icmp .ne 18, 3) := by decide +kernel
theorem dX3_execute_356 : decode cX3_execute 356 = .ok (.aload_n 0, 1) := by decide +kernel
theorem dX3_execute_357 : decode cX3_execute 357 = .ok (.getfield 14, 3) := by decide +kernel
theorem dX3_execute_360 : decode cX3_execute 360 = .ok (.getfield 81, 3) := by decide +kernel
theorem dX3_execute_363 : decode cX3_execute 363 = .ok (.iconst 4, 1) := by decide +kernel
theorem dX3_execute_364 : decode cX3_execute 364 = .ok (.iadd, 1) := by decide +kernel
theorem dX3_execute_365 : decode cX3_execute 365 = .ok (.iload 6, 2) := by decide +kernel
theorem dX3_execute_367 : decode cX3_execute 367 = .ok (.iadd, 1) := by decide +kernel
theorem dX3_execute_368 : decode cX3_execute 368 = .ok (.goto 7, 3) := by decide +kernel
theorem dX3_execute_371 : decode cX3_execute 371 = .ok (.iconst 4, 1) := by decide +kernel
theorem dX3_execute_372 : decode cX3_execute 372 = .ok (.iload 6, 2) := by decide +kernel
theorem dX3_execute_374 : decode cX3_execute 374 = .ok (.iadd, 1) := by decide +kernel
theorem dX3_execute_375 : decode cX3_execute 375 = .ok (.iload 4, 2) := by decide +kernel
theorem dX3_execute_377 : decode cX3_execute 377 = .ok (.invokevirtual 290, 3) := by decide +kernel
theorem dX3_execute_380 : decode cX3_execute 380 = .ok (.goto 58, 3) := by decide +kernel
theorem dX3_execute_383 : decode cX3_execute 383 = .ok (.aload_n 0, 1) := by decide +kernel
theorem dX3_execute_384 : decode cX3_execute 384 = .ok (.iload 5, 2) := by decide +kernel
theorem dX3_execute_386 : decode cX3_execute 386 = .ok (.sipush 192, 3) := by decide +kernel
theorem dX3_execute_389 : decode cX3_execute 389 = .ok (.if_icmp .ne 18, 3) := by decide +kernel
theorem dX3_execute_392 : decode cX3_execute 392 = .ok (.aload_n 0, 1) := by decide +kernel
theorem dX3_execute_393 : decode cX3_execute 393 = .ok (.getfield 14, 3) := by decide +kernel
theorem dX3_execute_396 : decode cX3_execute 396 = .ok (.getfield 81, 3) := by decide +kernel
theorem dX3_execute_399 : decode cX3_execute 399 = .ok (.iconst 4, 1) := by decide +kernel
theorem dX3_execute_400 : decode cX3_execute 400 = .ok (.iadd, 1) := by decide +kernel
theorem dX3_execute_401 : decode cX3_execute 401 = .ok (.iload 6, 2) := by decide +kernel
theorem dX3_execute_403 : decode cX3_execute 403 = .ok (.iadd, 1) := by decide +kernel
theorem dX3_execute_404 : decode cX3_execute 404 = .ok (.goto 7, 3) := by decide +kernel
theorem dX3_execute_407 : decode cX3_execute 407 = .ok (.iconst 4, 1) := by decide +kernel
theorem dX3_execute_408 : decode cX3_execute 408 = .ok (.iload 6, 2) := by decide +kernel
theorem dX3_execute_410 : decode cX3_execute 410 = .ok (.iadd, 1) := by decide +kernel
theorem dX3_execute_411 : decode cX3_execute 411 = .ok (.iload 4, 2) := by decide +kernel
theorem dX3_execute_413 : decode cX3_execute 413 = .ok (.iload 5, 2) := by decide +kernel
theorem dX3_execute_415 : decode cX3_execute 415 = .ok (.sipush 192, 3) := by decide +kernel
theorem dX3_execute_418 : decode cX3_execute 418 = .ok (.if_icmp .ne 7, 3) := by decide +kernel
theorem dX3_execute_421 : decode cX3_execute 421 = .ok (.iconst 1, 1) := by decide +kernel
theorem dX3_execute_422 : decode cX3_execute 422 = .ok (.goto 4, 3) := by decide +kernel
theorem dX3_execute_425 : decode cX3_execute 425 = .ok (.iconst 0, 1) := by decide +kernel
theorem dX3_execute_426 : decode cX3_execute 426 = .ok (.invokevirtual 293, 3) := by decide +kernel
theorem dX3_execute_429 : decode cX3_execute 429 = .ok (.goto 9, 3) := by decide +kernel
theorem dX3_execute_432 : decode cX3_execute 432 = .ok (.aload_n 0, 1) := by decide +kernel
theorem dX3_execute_433 : decode cX3_execute 433 = .ok (.iload 6, 2) := by decide +kernel
theorem dX3_execute_435 : decode cX3_execute 435 = .ok (.invokevirtual 297, 3) := by decide +kernel
theorem dX3_execute_438 : decode cX3_execute 438 = .ok (.lload_n 2, 1) := by decide +kernel
theorem dX3_execute_439 : decode cX3_execute 439 = .ok (.lconst 1, 1) := by decide +kernel
theorem dX3_execute_440 : decode cX3_execute 440 = .ok (.ladd, 1) := by decide +kernel
theorem dX3_execute_441 : decode cX3_execute 441 = .ok (.lstore_n 2, 1) := by decide +kernel
theorem dX3_execute_442 : decode cX3_execute 442 = .ok (.goto (-428), 3) := by decide +kernel
theorem dX3_execute_445 : decode cX3_execute 445 = .ok (.return_, 1) := by decide +kernel
theorem dX3_flow_0 : decode cX3_flow 0 = .ok (.iload_n 1, 1) := by decide +kernel
theorem dX3_flow_1 : decode cX3_flow 1 = .ok (.tableswitch 303 0 9 #[55, 110, 110, 126, 139, 139, 193, 193, 218, 247], 55) := by decide +kernel
theorem dX3_flow_56 : decode cX3_flow 56 = .ok (.aload_n 0, 1) := by decide +kernel
theorem dX3_flow_57 : decode cX3_flow 57 = .ok (.getfield 140, 3) := by decide +kernel
theorem dX3_flow_60 : decode cX3_flow 60 = .ok (.ifCond .le 42, 3) := by decide +kernel
theorem dX3_flow_63 : decode cX3_flow 63 = .ok (.aload_n 0, 1) := by decide +kernel
theorem dX3_flow_64 : decode cX3_flow 64 = .ok (.getfield 14, 3) := by decide +kernel
theorem dX3_flow_67 : decode cX3_flow 67 = .ok (.getfield 87, 3) := by decide +kernel
theorem dX3_flow_70 : decode cX3_flow 70 = .ok (.aload_n 0, 1) := by decide +kernel
theorem dX3_flow_71 : decode cX3_flow 71 = .ok (.getfield 35, 3) := by decide +kernel
theorem dX3_flow_74 : decode cX3_flow 74 = .ok (.getfield 327, 3) := by decide +kernel
theorem dX3_flow_77 : decode cX3_flow 77 = .ok (.if_icmp .eq 20, 3) := by decide +kernel
theorem dX3_flow_80 : decode cX3_flow 80 = .ok (.aload_n 0, 1) := by decide +kernel
theorem dX3_flow_81 : decode cX3_flow 81 = .ok (.getfield 14, 3) := by decide +kernel
theorem dX3_flow_84 : decode cX3_flow 84 = .ok (.getfield 87, 3) := by decide +kernel
theorem dX3_flow_87 : decode cX3_flow 87 = .ok (.aload_n 0, 1) := by decide +kernel
theorem dX3_flow_88 : decode cX3_flow 88 = .ok (.getfield 35, 3) := by decide +kernel
theorem dX3_flow_91 : decode cX3_flow 91 = .ok (.getfield 330, 3) := by decide +kernel
theorem dX3_flow_94 : decode cX3_flow 94 = .ok (.if_icmp .ne 8, 3) := by decide +kernel
theorem dX3_flow_97 : decode cX3_flow 97 = .ok (.aload_n 0, 1) := by decide +kernel
theorem dX3_flow_98 : decode cX3_flow 98 = .ok (.iload_n 3, 1) := by decide +kernel
theorem dX3_flow_99 : decode cX3_flow 99 = .ok (.invokevirtual 333, 3) := by decide +kernel
theorem dX3_flow_102 : decode cX3_flow 102 = .ok (.aload_n 0, 1) := by decide +kernel
theorem dX3_flow_103 : decode cX3_flow 103 = .ok (.iload_n 2, 1) := by decide +kernel
theorem dX3_flow_104 : decode cX3_flow 104 = .ok (.iload_n 3, 1) := by decide +kernel
theorem dX3_flow_105 : decode cX3_flow 105 = .ok (.invokevirtual 336, 3) := by decide +kernel
theorem dX3_flow_108 : decode cX3_flow 108 = .ok (.goto 201, 3) := by decide +kernel
theorem dX3_flow_111 : decode cX3_flow 111 = .ok (.aload_n 0, 1) := by decide +kernel
theorem dX3_flow_112 : decode cX3_flow 112 = .ok (.getfield 14, 3) := by decide +kernel
theorem dX3_flow_115 : decode cX3_flow 115 = .ok (.iconst 1, 1) := by decide +kernel
theorem dX3_flow_116 : decode cX3_flow 116 = .ok (.putfield 99, 3) := by decide +kernel
theorem dX3_flow_119 : decode cX3_flow 119 = .ok (.aload_n 0, 1) := by decide +kernel
theorem dX3_flow_120 : decode cX3_flow 120 = .ok (.iconst 1, 1) := by decide +kernel
theorem dX3_flow_121 : decode cX3_flow 121 = .ok (.putfield 225, 3) := by decide +kernel
theorem dX3_flow_124 : decode cX3_flow 124 = .ok (.goto 185, 3) := by decide +kernel
theorem dX3_flow_127 : decode cX3_flow 127 = .ok (.aload_n 0, 1) := by decide +kernel
theorem dX3_flow_128 : decode cX3_flow 128 = .ok (.getfield 14, 3) := by decide +kernel
theorem dX3_flow_131 : decode cX3_flow 131 = .ok (.iload_n 3, 1) := by decide +kernel
theorem dX3_flow_132 : decode cX3_flow 132 = .ok (.iload_n 2, 1) := by decide +kernel
theorem dX3_flow_133 : decode cX3_flow 133 = .ok (.iadd, 1) := by decide +kernel
theorem dX3_flow_134 : decode cX3_flow 134 = .ok (.putfield 78, 3) := by decide +kernel
theorem dX3_flow_137 : decode cX3_flow 137 = .ok (.goto 172, 3) := by decide +kernel
theorem dX3_flow_140 : decode cX3_flow 140 = .ok (.aload_n 0, 1) := by decide +kernel
theorem dX3_flow_141 : decode cX3_flow 141 = .ok (.invokevirtual 339, 3) := by decide +kernel
theorem dX3_flow_144 : decode cX3_flow 144 = .ok (.istore 4, 2) := by decide +kernel
theorem dX3_flow_146 : decode cX3_flow 146 = .ok (.aload_n 0, 1) := by decide +kernel
theorem dX3_flow_147 : decode cX3_flow 147 = .ok (.iload 4, 2) := by decide +kernel
theorem dX3_flow_149 : decode cX3_flow 149 = .ok (.invokevirtual 342, 3) := by decide +kernel
theorem dX3_flow_152 : decode cX3_flow 152 = .ok (.ifCond .eq 157, 3) := by decide +kernel
theorem dX3_flow_155 : decode cX3_flow 155 = .ok (.iload 4, 2) := by decide +kernel
theorem dX3_flow_157 : decode cX3_flow 157 = .ok (.ldc_w 325, 3) := by decide +kernel
theorem dX3_flow_160 : decode cX3_flow 160 = .ok (.if_icmp .ne 7, 3) := by decide +kernel
theorem dX3_flow_163 : decode cX3_flow 163 = .ok (.iconst 1, 1) := by decide +kernel
theorem dX3_flow_164 : decode cX3_flow 164 = .ok (.goto 4, 3) := by decide +kernel
theorem dX3_flow_167 : decode cX3_flow 167 = .ok (.iconst 0, 1) := by decide +kernel
theorem dX3_flow_168 : decode cX3_flow 168 = .ok (.iload_n 1, 1) := by decide +kernel
theorem dX3_flow_169 : decode cX3_flow 169 = .ok (.iconst 5, 1) := by decide +kernel
theorem dX3_flow_170 : decode cX3_flow 170 = .ok (.if_icmp .ne 7, 3) := by decide +kernel
theorem dX3_flow_173 : decode cX3_flow 173 = .ok (.iconst 1, 1) := by decide +kernel
theorem dX3_flow_174 : decode cX3_flow 174 = .ok (.goto 4, 3) := by decide +kernel
theorem dX3_flow_177 : decode cX3_flow 177 = .ok (.iconst 0, 1) := by decide +kernel
theorem dX3_flow_178 : decode cX3_flow 178 = .ok (.if_icmp .ne 131, 3) := by decide +kernel
theorem dX3_flow_181 : decode cX3_flow 181 = .ok (.aload_n 0, 1) := by decide +kernel
theorem dX3_flow_182 : decode cX3_flow 182 = .ok (.getfield 14, 3) := by decide +kernel
theorem dX3_flow_185 : decode cX3_flow 185 = .ok (.iload_n 3, 1) := by decide +kernel
theorem dX3_flow_186 : decode cX3_flow 186 = .ok (.iload_n 2, 1) := by decide +kernel
theorem dX3_flow_187 : decode cX3_flow 187 = .ok (.iadd, 1) := by decide +kernel
theorem dX3_flow_188 : decode cX3_flow 188 = .ok (.putfield 78, 3) := by decide +kernel
theorem dX3_flow_191 : decode cX3_flow 191 = .ok (.goto 118, 3) := by decide +kernel
theorem dX3_flow_194 : decode cX3_flow 194 = .ok (.aload_n 0, 1) := by decide +kernel
theorem dX3_flow_195 : decode cX3_flow 195 = .ok (.iload_n 1, 1) := by decide +kernel
theorem dX3_flow_196 : decode cX3_flow 196 = .ok (.bipush 7, 2) := by decide +kernel
theorem dX3_flow_198 : decode cX3_flow 198 = .ok (.if_icmp .ne 9, 3) := by decide +kernel
theorem dX3_flow_201 : decode cX3_flow 201 = .ok (.ldc_w 325, 3) := by decide +kernel
theorem dX3_flow_204 : decode cX3_flow 204 = .ok (.goto 6, 3) := by decide +kernel
theorem dX3_flow_207 : decode cX3_flow 207 = .ok (.ldc_w 326, 3) := by decide +kernel
theorem dX3_flow_210 : decode cX3_flow 210 = .ok (.iload_n 3, 1) := by decide +kernel
theorem dX3_flow_211 : decode cX3_flow 211 = .ok (.iload_n 2, 1) := by decide +kernel
theorem dX3_flow_212 : decode cX3_flow 212 = .ok (.iadd, 1) := by decide +kernel
theorem dX3_flow_213 : decode cX3_flow 213 = .ok (.invokevirtual 345, 3) := by decide +kernel
theorem dX3_flow_216 : decode cX3_flow 216 = .ok (.goto 93, 3) := by decide +kernel
theorem dX3_flow_219 : decode cX3_flow 219 = .ok (.aload_n 0, 1) := by decide +kernel
theorem dX3_flow_220 : decode cX3_flow 220 = .ok (.aload_n 0, 1) := by decide +kernel
theorem dX3_flow_221 : decode cX3_flow 221 = .ok (.getfield 18, 3) := by decide +kernel
theorem dX3_flow_224 : decode cX3_flow 224 = .ok (.aload_n 0, 1) := by decide +kernel
theorem dX3_flow_225 : decode cX3_flow 225 = .ok (.getfield 14, 3) := by decide +kernel
theorem dX3_flow_228 : decode cX3_flow 228 = .ok (.getfield 84, 3) := by decide +kernel
theorem dX3_flow_231 : decode cX3_flow 231 = .ok (.iconst 1, 1) := by decide +kernel
theorem dX3_flow_232 : decode cX3_flow 232 = .ok (.isub, 1) := by decide +kernel
theorem dX3_flow_233 : decode cX3_flow 233 = .ok (.iaload, 1) := by decide +kernel
theorem dX3_flow_234 : decode cX3_flow 234 = .ok (.invokevirtual 342, 3) := by decide +kernel
theorem dX3_flow_237 : decode cX3_flow 237 = .ok (.ifCond .eq 72, 3) := by decide +kernel
theorem dX3_flow_240 : decode cX3_flow 240 = .ok (.aload_n 0, 1) := by decide +kernel
theorem dX3_flow_241 : decode cX3_flow 241 = .ok (.iconst 1, 1) := by decide +kernel
theorem dX3_flow_242 : decode cX3_flow 242 = .ok (.invokevirtual 319, 3) := by decide +kernel
theorem dX3_flow_245 : decode cX3_flow 245 = .ok (.goto 64, 3) := by decide +kernel
theorem dX3_flow_248 : decode cX3_flow 248 = .ok (.aload_n 0, 1) := by decide +kernel
theorem dX3_flow_249 : decode cX3_flow 249 = .ok (.aload_n 0, 1) := by decide +kernel
theorem dX3_flow_250 : decode cX3_flow 250 = .ok (.getfield 18, 3) := by decide +kernel
theorem dX3_flow_253 : decode cX3_flow 253 = .ok (.aload_n 0, 1) := by decide +kernel
theorem dX3_flow_254 : decode cX3_flow 254 = .ok (.getfield 14, 3) := by decide +kernel
theorem dX3_flow_257 : decode cX3_flow 257 = .ok (.getfield 84, 3) := by decide +kernel
theorem dX3_flow_260 : decode cX3_flow 260 = .ok (.iconst 1, 1) := by decide +kernel
theorem dX3_flow_261 : decode cX3_flow 261 = .ok (.isub, 1) := by decide +kernel
theorem dX3_flow_262 : decode cX3_flow 262 = .ok (.iaload, 1) := by decide +kernel
theorem dX3_flow_263 : decode cX3_flow 263 = .ok (.invokevirtual 342, 3) := by decide +kernel
theorem dX3_flow_266 : decode cX3_flow 266 = .ok (.ifCond .eq 43, 3) := by decide +kernel
theorem dX3_flow_269 : decode cX3_flow 269 = .ok (.aload_n 0, 1) := by decide +kernel
theorem dX3_flow_270 : decode cX3_flow 270 = .ok (.aload_n 0, 1) := by decide +kernel
theorem dX3_flow_271 : decode cX3_flow 271 = .ok (.getfield 18, 3) := by decide +kernel
theorem dX3_flow_274 : decode cX3_flow 274 = .ok (.aload_n 0, 1) := by decide +kernel
theorem dX3_flow_275 : decode cX3_flow 275 = .ok (.getfield 14, 3) := by decide +kernel
theorem dX3_flow_278 : decode cX3_flow 278 = .ok (.getfield 84, 3) := by decide +kernel
theorem dX3_flow_281 : decode cX3_flow 281 = .ok (.iconst 1, 1) := by decide +kernel
theorem dX3_flow_282 : decode cX3_flow 282 = .ok (.isub, 1) := by decide +kernel
theorem dX3_flow_283 : decode cX3_flow 283 = .ok (.iaload, 1) := by decide +kernel
theorem dX3_flow_284 : decode cX3_flow 284 = .ok (.ldc_w 326, 3) := by decide +kernel
theorem dX3_flow_287 : decode cX3_flow 287 = .ok (.if_icmp .ne 7, 3) := by decide +kernel
theorem dX3_flow_290 : decode cX3_flow 290 = .ok (.iconst 1, 1) := by decide +kernel
theorem dX3_flow_291 : decode cX3_flow 291 = .ok (.goto 4, 3) := by decide +kernel
theorem dX3_flow_294 : decode cX3_flow 294 = .ok (.iconst 0, 1) := by decide +kernel
theorem dX3_flow_295 : decode cX3_flow 295 = .ok (.invokestatic 348, 3) := by decide +kernel
theorem dX3_flow_298 : decode cX3_flow 298 = .ok (.invokevirtual 280, 3) := by decide +kernel
theorem dX3_flow_301 : decode cX3_flow 301 = .ok (.goto 8, 3) := by decide +kernel
theorem dX3_flow_304 : decode cX3_flow 304 = .ok (.aload_n 0, 1) := by decide +kernel
theorem dX3_flow_305 : decode cX3_flow 305 = .ok (.iconst 1, 1) := by decide +kernel
theorem dX3_flow_306 : decode cX3_flow 306 = .ok (.putfield 225, 3) := by decide +kernel
theorem dX3_flow_309 : decode cX3_flow 309 = .ok (.return_, 1) := by decide +kernel
theorem dX3_fold_0 : decode cX3_fold 0 = .ok (.aload_n 0, 1) := by decide +kernel
theorem dX3_fold_1 : decode cX3_fold 1 = .ok (.getfield 18, 3) := by decide +kernel
theorem dX3_fold_4 : decode cX3_fold 4 = .ok (.aload_n 0, 1) := by decide +kernel
theorem dX3_fold_5 : decode cX3_fold 5 = .ok (.getfield 14, 3) := by decide +kernel
theorem dX3_fold_8 : decode cX3_fold 8 = .ok (.getfield 84, 3) := by decide +kernel
theorem dX3_fold_11 : decode cX3_fold 11 = .ok (.iconst 1, 1) := by decide +kernel
theorem dX3_fold_12 : decode cX3_fold 12 = .ok (.isub, 1) := by decide +kernel
theorem dX3_fold_13 : decode cX3_fold 13 = .ok (.iaload, 1) := by decide +kernel
theorem dX3_fold_14 : decode cX3_fold 14 = .ok (.istore_n 1, 1) := by decide +kernel
theorem dX3_fold_15 : decode cX3_fold 15 = .ok (.aload_n 0, 1) := by decide +kernel
theorem dX3_fold_16 : decode cX3_fold 16 = .ok (.getfield 39, 3) := by decide +kernel
theorem dX3_fold_19 : decode cX3_fold 19 = .ok (.iload_n 1, 1) := by decide +kernel
theorem dX3_fold_20 : decode cX3_fold 20 = .ok (.invokevirtual 396, 3) := by decide +kernel
theorem dX3_fold_23 : decode cX3_fold 23 = .ok (.iconst 5, 1) := by decide +kernel
theorem dX3_fold_24 : decode cX3_fold 24 = .ok (.if_icmp .ge 11, 3) := by decide +kernel
theorem dX3_fold_27 : decode cX3_fold 27 = .ok (.aload_n 0, 1) := by decide +kernel
theorem dX3_fold_28 : decode cX3_fold 28 = .ok (.iconst 1, 1) := by decide +kernel
theorem dX3_fold_29 : decode cX3_fold 29 = .ok (.invokevirtual 313, 3) := by decide +kernel
theorem dX3_fold_32 : decode cX3_fold 32 = .ok (.goto 57, 3) := by decide +kernel
theorem dX3_fold_35 : decode cX3_fold 35 = .ok (.aload_n 0, 1) := by decide +kernel
theorem dX3_fold_36 : decode cX3_fold 36 = .ok (.getfield 39, 3) := by decide +kernel
theorem dX3_fold_39 : decode cX3_fold 39 = .ok (.iload_n 1, 1) := by decide +kernel
theorem dX3_fold_40 : decode cX3_fold 40 = .ok (.invokevirtual 399, 3) := by decide +kernel
theorem dX3_fold_43 : decode cX3_fold 43 = .ok (.ifCond .ne 25, 3) := by decide +kernel
theorem dX3_fold_46 : decode cX3_fold 46 = .ok (.aload_n 0, 1) := by decide +kernel
theorem dX3_fold_47 : decode cX3_fold 47 = .ok (.ldc 136, 2) := by decide +kernel
theorem dX3_fold_49 : decode cX3_fold 49 = .ok (.invokevirtual 280, 3) := by decide +kernel
theorem dX3_fold_52 : decode cX3_fold 52 = .ok (.aload_n 0, 1) := by decide +kernel
theorem dX3_fold_53 : decode cX3_fold 53 = .ok (.getfield 14, 3) := by decide +kernel
theorem dX3_fold_56 : decode cX3_fold 56 = .ok (.dup, 1) := by decide +kernel
theorem dX3_fold_57 : decode cX3_fold 57 = .ok (.getfield 78, 3) := by decide +kernel
theorem dX3_fold_60 : decode cX3_fold 60 = .ok (.iconst 1, 1) := by decide +kernel
theorem dX3_fold_61 : decode cX3_fold 61 = .ok (.iadd, 1) := by decide +kernel
theorem dX3_fold_62 : decode cX3_fold 62 = .ok (.putfield 78, 3) := by decide +kernel
theorem dX3_fold_65 : decode cX3_fold 65 = .ok (.goto 24, 3) := by decide +kernel
theorem dX3_fold_68 : decode cX3_fold 68 = .ok (.aload_n 0, 1) := by decide +kernel
theorem dX3_fold_69 : decode cX3_fold 69 = .ok (.aload_n 0, 1) := by decide +kernel
theorem dX3_fold_70 : decode cX3_fold 70 = .ok (.getfield 39, 3) := by decide +kernel
theorem dX3_fold_73 : decode cX3_fold 73 = .ok (.iload_n 1, 1) := by decide +kernel
theorem dX3_fold_74 : decode cX3_fold 74 = .ok (.iconst 0, 1) := by decide +kernel
theorem dX3_fold_75 : decode cX3_fold 75 = .ok (.invokevirtual 452, 3) := by decide +kernel
theorem dX3_fold_78 : decode cX3_fold 78 = .ok (.invokevirtual 322, 3) := by decide +kernel
theorem dX3_fold_81 : decode cX3_fold 81 = .ok (.aload_n 0, 1) := by decide +kernel
theorem dX3_fold_82 : decode cX3_fold 82 = .ok (.iconst 1, 1) := by decide +kernel
theorem dX3_fold_83 : decode cX3_fold 83 = .ok (.invokestatic 182, 3) := by decide +kernel
theorem dX3_fold_86 : decode cX3_fold 86 = .ok (.invokevirtual 322, 3) := by decide +kernel
theorem dX3_fold_89 : decode cX3_fold 89 = .ok (.return_, 1) := by decide +kernel
theorem dX3_foldOn_0 : decode cX3_foldOn 0 = .ok (.iload_n 1, 1) := by decide +kernel
theorem dX3_foldOn_1 : decode cX3_foldOn 1 = .ok (.bipush 112, 2) := by decide +kernel
theorem dX3_foldOn_3 : decode cX3_foldOn 3 = .ok (.if_icmp .ne 8, 3) := by decide +kernel
theorem dX3_foldOn_6 : decode cX3_foldOn 6 = .ok (.aload_n 0, 1) := by decide +kernel
theorem dX3_foldOn_7 : decode cX3_foldOn 7 = .ok (.invokevirtual 455, 3) := by decide +kernel
theorem dX3_foldOn_10 : decode cX3_foldOn 10 = .ok (.return_, 1) := by decide +kernel
theorem dX3_foldOn_11 : decode cX3_foldOn 11 = .ok (.aload_n 0, 1) := by decide +kernel
theorem dX3_foldOn_12 : decode cX3_foldOn 12 = .ok (.getfield 18, 3) := by decide +kernel
theorem dX3_foldOn_15 : decode cX3_foldOn 15 = .ok (.aload_n 0, 1) := by decide +kernel
theorem dX3_foldOn_16 : decode cX3_foldOn 16 = .ok (.getfield 14, 3) := by decide +kernel
theorem dX3_foldOn_19 : decode cX3_foldOn 19 = .ok (.getfield 84, 3) := by decide +kernel
theorem dX3_foldOn_22 : decode cX3_foldOn 22 = .ok (.iconst 1, 1) := by decide +kernel
theorem dX3_foldOn_23 : decode cX3_foldOn 23 = .ok (.isub, 1) := by decide +kernel
theorem dX3_foldOn_24 : decode cX3_foldOn 24 = .ok (.iaload, 1) := by decide +kernel
theorem dX3_foldOn_25 : decode cX3_foldOn 25 = .ok (.invokestatic 388, 3) := by decide +kernel
theorem dX3_foldOn_28 : decode cX3_foldOn 28 = .ok (.istore 4, 2) := by decide +kernel
theorem dX3_foldOn_30 : decode cX3_foldOn 30 = .ok (.aload_n 0, 1) := by decide +kernel
theorem dX3_foldOn_31 : decode cX3_foldOn 31 = .ok (.getfield 18, 3) := by decide +kernel
theorem dX3_foldOn_34 : decode cX3_foldOn 34 = .ok (.aload_n 0, 1) := by decide +kernel
theorem dX3_foldOn_35 : decode cX3_foldOn 35 = .ok (.getfield 14, 3) := by decide +kernel
theorem dX3_foldOn_38 : decode cX3_foldOn 38 = .ok (.getfield 84, 3) := by decide +kernel
theorem dX3_foldOn_41 : decode cX3_foldOn 41 = .ok (.iconst 2, 1) := by decide +kernel
theorem dX3_foldOn_42 : decode cX3_foldOn 42 = .ok (.isub, 1) := by decide +kernel
theorem dX3_foldOn_43 : decode cX3_foldOn 43 = .ok (.iaload, 1) := by decide +kernel
theorem dX3_foldOn_44 : decode cX3_foldOn 44 = .ok (.istore 5, 2) := by decide +kernel
theorem dX3_foldOn_46 : decode cX3_foldOn 46 = .ok (.aload_n 0, 1) := by decide +kernel
theorem dX3_foldOn_47 : decode cX3_foldOn 47 = .ok (.getfield 18, 3) := by decide +kernel
theorem dX3_foldOn_50 : decode cX3_foldOn 50 = .ok (.aload_n 0, 1) := by decide +kernel
theorem dX3_foldOn_51 : decode cX3_foldOn 51 = .ok (.getfield 14, 3) := by decide +kernel
theorem dX3_foldOn_54 : decode cX3_foldOn 54 = .ok (.getfield 84, 3) := by decide +kernel
theorem dX3_foldOn_57 : decode cX3_foldOn 57 = .ok (.iconst 3, 1) := by decide +kernel
theorem dX3_foldOn_58 : decode cX3_foldOn 58 = .ok (.isub, 1) := by decide +kernel
theorem dX3_foldOn_59 : decode cX3_foldOn 59 = .ok (.iaload, 1) := by decide +kernel
theorem dX3_foldOn_60 : decode cX3_foldOn 60 = .ok (.istore 6, 2) := by decide +kernel
theorem dX3_foldOn_62 : decode cX3_foldOn 62 = .ok (.iload 4, 2) := by decide +kernel
theorem dX3_foldOn_64 : decode cX3_foldOn 64 = .ok (.aload_n 0, 1) := by decide +kernel
theorem dX3_foldOn_65 : decode cX3_foldOn 65 = .ok (.getfield 39, 3) := by decide +kernel
theorem dX3_foldOn_68 : decode cX3_foldOn 68 = .ok (.iload 6, 2) := by decide +kernel
theorem dX3_foldOn_70 : decode cX3_foldOn 70 = .ok (.invokevirtual 399, 3) := by decide +kernel
theorem dX3_foldOn_73 : decode cX3_foldOn 73 = .ok (.if_icmp .lt 26, 3) := by decide +kernel
theorem dX3_foldOn_76 : decode cX3_foldOn 76 = .ok (.aload_n 0, 1) := by decide +kernel
theorem dX3_foldOn_77 : decode cX3_foldOn 77 = .ok (.getfield 14, 3) := by decide +kernel
theorem dX3_foldOn_80 : decode cX3_foldOn 80 = .ok (.aload_n 0, 1) := by decide +kernel
theorem dX3_foldOn_81 : decode cX3_foldOn 81 = .ok (.getfield 14, 3) := by decide +kernel
theorem dX3_foldOn_84 : decode cX3_foldOn 84 = .ok (.getfield 84, 3) := by decide +kernel
theorem dX3_foldOn_87 : decode cX3_foldOn 87 = .ok (.iconst 2, 1) := by decide +kernel
theorem dX3_foldOn_88 : decode cX3_foldOn 88 = .ok (.isub, 1) := by decide +kernel
theorem dX3_foldOn_89 : decode cX3_foldOn 89 = .ok (.putfield 84, 3) := by decide +kernel
theorem dX3_foldOn_92 : decode cX3_foldOn 92 = .ok (.aload_n 0, 1) := by decide +kernel
theorem dX3_foldOn_93 : decode cX3_foldOn 93 = .ok (.iload 5, 2) := by decide +kernel
theorem dX3_foldOn_95 : decode cX3_foldOn 95 = .ok (.invokevirtual 280, 3) := by decide +kernel
theorem dX3_foldOn_98 : decode cX3_foldOn 98 = .ok (.return_, 1) := by decide +kernel
theorem dX3_foldOn_99 : decode cX3_foldOn 99 = .ok (.aload_n 0, 1) := by decide +kernel
theorem dX3_foldOn_100 : decode cX3_foldOn 100 = .ok (.getfield 39, 3) := by decide +kernel
theorem dX3_foldOn_103 : decode cX3_foldOn 103 = .ok (.iload 6, 2) := by decide +kernel
theorem dX3_foldOn_105 : decode cX3_foldOn 105 = .ok (.iload 4, 2) := by decide +kernel
theorem dX3_foldOn_107 : decode cX3_foldOn 107 = .ok (.invokevirtual 452, 3) := by decide +kernel
theorem dX3_foldOn_110 : decode cX3_foldOn 110 = .ok (.istore 7, 2) := by decide +kernel
theorem dX3_foldOn_112 : decode cX3_foldOn 112 = .ok (.iload_n 2, 1) := by decide +kernel
theorem dX3_foldOn_113 : decode cX3_foldOn 113 = .ok (.ifCond .ne 17, 3) := by decide +kernel
theorem dX3_foldOn_116 : decode cX3_foldOn 116 = .ok (.aload_n 0, 1) := by decide +kernel
theorem dX3_foldOn_117 : decode cX3_foldOn 117 = .ok (.getfield 47, 3) := by decide +kernel
theorem dX3_foldOn_120 : decode cX3_foldOn 120 = .ok (.iload 5, 2) := by decide +kernel
theorem dX3_foldOn_122 : decode cX3_foldOn 122 = .ok (.iload 7, 2) := by decide +kernel
theorem dX3_foldOn_124 : decode cX3_foldOn 124 = .ok (.invokevirtual 458, 3) := by decide +kernel
theorem dX3_foldOn_127 : decode cX3_foldOn 127 = .ok (.goto 43, 3) := by decide +kernel
theorem dX3_foldOn_130 : decode cX3_foldOn 130 = .ok (.iload_n 2, 1) := by decide +kernel
theorem dX3_foldOn_131 : decode cX3_foldOn 131 = .ok (.iconst 1, 1) := by decide +kernel
theorem dX3_foldOn_132 : decode cX3_foldOn 132 = .ok (.if_icmp .ne 17, 3) := by decide +kernel
theorem dX3_foldOn_135 : decode cX3_foldOn 135 = .ok (.aload_n 0, 1) := by decide +kernel
theorem dX3_foldOn_136 : decode cX3_foldOn 136 = .ok (.getfield 47, 3) := by decide +kernel
theorem dX3_foldOn_139 : decode cX3_foldOn 139 = .ok (.iload 5, 2) := by decide +kernel
theorem dX3_foldOn_141 : decode cX3_foldOn 141 = .ok (.iload 7, 2) := by decide +kernel
theorem dX3_foldOn_143 : decode cX3_foldOn 143 = .ok (.invokevirtual 461, 3) := by decide +kernel
theorem dX3_foldOn_146 : decode cX3_foldOn 146 = .ok (.goto 24, 3) := by decide +kernel
theorem dX3_foldOn_149 : decode cX3_foldOn 149 = .ok (.aload_n 0, 1) := by decide +kernel
theorem dX3_foldOn_150 : decode cX3_foldOn 150 = .ok (.getfield 47, 3) := by decide +kernel
theorem dX3_foldOn_153 : decode cX3_foldOn 153 = .ok (.iload 5, 2) := by decide +kernel
theorem dX3_foldOn_155 : decode cX3_foldOn 155 = .ok (.iload 7, 2) := by decide +kernel
theorem dX3_foldOn_157 : decode cX3_foldOn 157 = .ok (.iload_n 2, 1) := by decide +kernel
theorem dX3_foldOn_158 : decode cX3_foldOn 158 = .ok (.iconst 3, 1) := by decide +kernel
theorem dX3_foldOn_159 : decode cX3_foldOn 159 = .ok (.if_icmp .ne 7, 3) := by decide +kernel
theorem dX3_foldOn_162 : decode cX3_foldOn 162 = .ok (.iconst 1, 1) := by decide +kernel
theorem dX3_foldOn_163 : decode cX3_foldOn 163 = .ok (.goto 4, 3) := by decide +kernel
theorem dX3_foldOn_166 : decode cX3_foldOn 166 = .ok (.iconst 0, 1) := by decide +kernel
theorem dX3_foldOn_167 : decode cX3_foldOn 167 = .ok (.invokevirtual 464, 3) := by decide +kernel
theorem dX3_foldOn_170 : decode cX3_foldOn 170 = .ok (.istore 8, 2) := by decide +kernel
theorem dX3_foldOn_172 : decode cX3_foldOn 172 = .ok (.iload 8, 2) := by decide +kernel
theorem dX3_foldOn_174 : decode cX3_foldOn 174 = .ok (.invokestatic 310, 3) := by decide +kernel
theorem dX3_foldOn_177 : decode cX3_foldOn 177 = .ok (.ifCond .eq 13, 3) := by decide +kernel
theorem dX3_foldOn_180 : decode cX3_foldOn 180 = .ok (.aload_n 0, 1) := by decide +kernel
theorem dX3_foldOn_181 : decode cX3_foldOn 181 = .ok (.iload 8, 2) := by decide +kernel
theorem dX3_foldOn_183 : decode cX3_foldOn 183 = .ok (.bipush 15, 2) := by decide +kernel
theorem dX3_foldOn_185 : decode cX3_foldOn 185 = .ok (.iand, 1) := by decide +kernel
theorem dX3_foldOn_186 : decode cX3_foldOn 186 = .ok (.invokevirtual 313, 3) := by decide +kernel
theorem dX3_foldOn_189 : decode cX3_foldOn 189 = .ok (.return_, 1) := by decide +kernel
theorem dX3_foldOn_190 : decode cX3_foldOn 190 = .ok (.aload_n 0, 1) := by decide +kernel
theorem dX3_foldOn_191 : decode cX3_foldOn 191 = .ok (.getfield 18, 3) := by decide +kernel
theorem dX3_foldOn_194 : decode cX3_foldOn 194 = .ok (.aload_n 0, 1) := by decide +kernel
theorem dX3_foldOn_195 : decode cX3_foldOn 195 = .ok (.getfield 14, 3) := by decide +kernel
theorem dX3_foldOn_198 : decode cX3_foldOn 198 = .ok (.getfield 84, 3) := by decide +kernel
theorem dX3_foldOn_201 : decode cX3_foldOn 201 = .ok (.iconst 2, 1) := by decide +kernel
theorem dX3_foldOn_202 : decode cX3_foldOn 202 = .ok (.isub, 1) := by decide +kernel
theorem dX3_foldOn_203 : decode cX3_foldOn 203 = .ok (.iload 8, 2) := by decide +kernel
theorem dX3_foldOn_205 : decode cX3_foldOn 205 = .ok (.iastore, 1) := by decide +kernel
theorem dX3_foldOn_206 : decode cX3_foldOn 206 = .ok (.aload_n 0, 1) := by decide +kernel
theorem dX3_foldOn_207 : decode cX3_foldOn 207 = .ok (.getfield 18, 3) := by decide +kernel
theorem dX3_foldOn_210 : decode cX3_foldOn 210 = .ok (.aload_n 0, 1) := by decide +kernel
theorem dX3_foldOn_211 : decode cX3_foldOn 211 = .ok (.getfield 14, 3) := by decide +kernel
theorem dX3_foldOn_214 : decode cX3_foldOn 214 = .ok (.getfield 84, 3) := by decide +kernel
theorem dX3_foldOn_217 : decode cX3_foldOn 217 = .ok (.iconst 1, 1) := by decide +kernel
theorem dX3_foldOn_218 : decode cX3_foldOn 218 = .ok (.isub, 1) := by decide +kernel
theorem dX3_foldOn_219 : decode cX3_foldOn 219 = .ok (.iload 4, 2) := by decide +kernel
theorem dX3_foldOn_221 : decode cX3_foldOn 221 = .ok (.iconst 1, 1) := by decide +kernel
theorem dX3_foldOn_222 : decode cX3_foldOn 222 = .ok (.iadd, 1) := by decide +kernel
theorem dX3_foldOn_223 : decode cX3_foldOn 223 = .ok (.invokestatic 182, 3) := by decide +kernel
theorem dX3_foldOn_226 : decode cX3_foldOn 226 = .ok (.iastore, 1) := by decide +kernel
theorem dX3_foldOn_227 : decode cX3_foldOn 227 = .ok (.aload_n 0, 1) := by decide +kernel
theorem dX3_foldOn_228 : decode cX3_foldOn 228 = .ok (.getfield 14, 3) := by decide +kernel
theorem dX3_foldOn_231 : decode cX3_foldOn 231 = .ok (.iload_n 3, 1) := by decide +kernel
theorem dX3_foldOn_232 : decode cX3_foldOn 232 = .ok (.putfield 78, 3) := by decide +kernel
theorem dX3_foldOn_235 : decode cX3_foldOn 235 = .ok (.iload_n 2, 1) := by decide +kernel
theorem dX3_foldOn_236 : decode cX3_foldOn 236 = .ok (.iconst 1, 1) := by decide +kernel
theorem dX3_foldOn_237 : decode cX3_foldOn 237 = .ok (.if_icmp .gt 16, 3) := by decide +kernel
theorem dX3_foldOn_240 : decode cX3_foldOn 240 = .ok (.aload_n 0, 1) := by decide +kernel
theorem dX3_foldOn_241 : decode cX3_foldOn 241 = .ok (.aload_n 0, 1) := by decide +kernel
theorem dX3_foldOn_242 : decode cX3_foldOn 242 = .ok (.getfield 39, 3) := by decide +kernel
theorem dX3_foldOn_245 : decode cX3_foldOn 245 = .ok (.iload 8, 2) := by decide +kernel
theorem dX3_foldOn_247 : decode cX3_foldOn 247 = .ok (.invokevirtual 316, 3) := by decide +kernel
theorem dX3_foldOn_250 : decode cX3_foldOn 250 = .ok (.invokevirtual 319, 3) := by decide +kernel
theorem dX3_foldOn_253 : decode cX3_foldOn 253 = .ok (.return_, 1) := by decide +kernel
theorem dX3_gather_0 : decode cX3_gather 0 = .ok (.iload_n 1, 1) := by decide +kernel
theorem dX3_gather_1 : decode cX3_gather 1 = .ok (.tableswitch 109 80 86 #[43, 78, 98, 109, 109, 62, 70], 43) := by decide +kernel
theorem dX3_gather_44 : decode cX3_gather 44 = .ok (.aload_n 0, 1) := by decide +kernel
theorem dX3_gather_45 : decode cX3_gather 45 = .ok (.iconst 0, 1) := by decide +kernel
theorem dX3_gather_46 : decode cX3_gather 46 = .ok (.invokestatic 182, 3) := by decide +kernel
theorem dX3_gather_49 : decode cX3_gather 49 = .ok (.invokevirtual 322, 3) := by decide +kernel
theorem dX3_gather_52 : decode cX3_gather 52 = .ok (.aload_n 0, 1) := by decide +kernel
theorem dX3_gather_53 : decode cX3_gather 53 = .ok (.iconst 1, 1) := by decide +kernel
theorem dX3_gather_54 : decode cX3_gather 54 = .ok (.invokestatic 182, 3) := by decide +kernel
theorem dX3_gather_57 : decode cX3_gather 57 = .ok (.invokevirtual 322, 3) := by decide +kernel
theorem dX3_gather_60 : decode cX3_gather 60 = .ok (.goto 65, 3) := by decide +kernel
theorem dX3_gather_63 : decode cX3_gather 63 = .ok (.aload_n 0, 1) := by decide +kernel
theorem dX3_gather_64 : decode cX3_gather 64 = .ok (.iload_n 2, 1) := by decide +kernel
theorem dX3_gather_65 : decode cX3_gather 65 = .ok (.invokevirtual 516, 3) := by decide +kernel
theorem dX3_gather_68 : decode cX3_gather 68 = .ok (.goto 57, 3) := by decide +kernel
theorem dX3_gather_71 : decode cX3_gather 71 = .ok (.aload_n 0, 1) := by decide +kernel
theorem dX3_gather_72 : decode cX3_gather 72 = .ok (.iload_n 2, 1) := by decide +kernel
theorem dX3_gather_73 : decode cX3_gather 73 = .ok (.invokevirtual 519, 3) := by decide +kernel
theorem dX3_gather_76 : decode cX3_gather 76 = .ok (.goto 49, 3) := by decide +kernel
theorem dX3_gather_79 : decode cX3_gather 79 = .ok (.aload_n 0, 1) := by decide +kernel
theorem dX3_gather_80 : decode cX3_gather 80 = .ok (.aload_n 0, 1) := by decide +kernel
theorem dX3_gather_81 : decode cX3_gather 81 = .ok (.invokevirtual 339, 3) := by decide +kernel
theorem dX3_gather_84 : decode cX3_gather 84 = .ok (.iload_n 2, 1) := by decide +kernel
theorem dX3_gather_85 : decode cX3_gather 85 = .ok (.ifCond .eq 7, 3) := by decide +kernel
theorem dX3_gather_88 : decode cX3_gather 88 = .ok (.iconst 1, 1) := by decide +kernel
theorem dX3_gather_89 : decode cX3_gather 89 = .ok (.goto 4, 3) := by decide +kernel
theorem dX3_gather_92 : decode cX3_gather 92 = .ok (.iconst 0, 1) := by decide +kernel
theorem dX3_gather_93 : decode cX3_gather 93 = .ok (.invokevirtual 522, 3) := by decide +kernel
theorem dX3_gather_96 : decode cX3_gather 96 = .ok (.goto 29, 3) := by decide +kernel
theorem dX3_gather_99 : decode cX3_gather 99 = .ok (.aload_n 0, 1) := by decide +kernel
theorem dX3_gather_100 : decode cX3_gather 100 = .ok (.aload_n 0, 1) := by decide +kernel
theorem dX3_gather_101 : decode cX3_gather 101 = .ok (.invokevirtual 339, 3) := by decide +kernel
theorem dX3_gather_104 : decode cX3_gather 104 = .ok (.invokevirtual 526, 3) := by decide +kernel
theorem dX3_gather_107 : decode cX3_gather 107 = .ok (.goto 18, 3) := by decide +kernel
theorem dX3_gather_110 : decode cX3_gather 110 = .ok (.aload_n 0, 1) := by decide +kernel
theorem dX3_gather_111 : decode cX3_gather 111 = .ok (.iload_n 1, 1) := by decide +kernel
theorem dX3_gather_112 : decode cX3_gather 112 = .ok (.bipush 83, 2) := by decide +kernel
theorem dX3_gather_114 : decode cX3_gather 114 = .ok (.if_icmp .ne 7, 3) := by decide +kernel
theorem dX3_gather_117 : decode cX3_gather 117 = .ok (.iconst 1, 1) := by decide +kernel
theorem dX3_gather_118 : decode cX3_gather 118 = .ok (.goto 4, 3) := by decide +kernel
theorem dX3_gather_121 : decode cX3_gather 121 = .ok (.iconst 0, 1) := by decide +kernel
theorem dX3_gather_122 : decode cX3_gather 122 = .ok (.invokevirtual 529, 3) := by decide +kernel
theorem dX3_gather_125 : decode cX3_gather 125 = .ok (.return_, 1) := by decide +kernel
theorem dX3_gatherIntoSet_0 : decode cX3_gatherIntoSet 0 = .ok (.aload_n 0, 1) := by decide +kernel
theorem dX3_gatherIntoSet_1 : decode cX3_gatherIntoSet 1 = .ok (.getfield 18, 3) := by decide +kernel
theorem dX3_gatherIntoSet_4 : decode cX3_gatherIntoSet 4 = .ok (.aload_n 0, 1) := by decide +kernel
theorem dX3_gatherIntoSet_5 : decode cX3_gatherIntoSet 5 = .ok (.getfield 14, 3) := by decide +kernel
theorem dX3_gatherIntoSet_8 : decode cX3_gatherIntoSet 8 = .ok (.getfield 84, 3) := by decide +kernel
theorem dX3_gatherIntoSet_11 : decode cX3_gatherIntoSet 11 = .ok (.iconst 2, 1) := by decide +kernel
theorem dX3_gatherIntoSet_12 : decode cX3_gatherIntoSet 12 = .ok (.isub, 1) := by decide +kernel
theorem dX3_gatherIntoSet_13 : decode cX3_gatherIntoSet 13 = .ok (.iaload, 1) := by decide +kernel
theorem dX3_gatherIntoSet_14 : decode cX3_gatherIntoSet 14 = .ok (.invokestatic 388, 3) := by decide +kernel
theorem dX3_gatherIntoSet_17 : decode cX3_gatherIntoSet 17 = .ok (.istore_n 3, 1) := by decide +kernel
theorem dX3_gatherIntoSet_18 : decode cX3_gatherIntoSet 18 = .ok (.aload_n 0, 1) := by decide +kernel
theorem dX3_gatherIntoSet_19 : decode cX3_gatherIntoSet 19 = .ok (.getfield 18, 3) := by decide +kernel
theorem dX3_gatherIntoSet_22 : decode cX3_gatherIntoSet 22 = .ok (.aload_n 0, 1) := by decide +kernel
theorem dX3_gatherIntoSet_23 : decode cX3_gatherIntoSet 23 = .ok (.getfield 14, 3) := by decide +kernel
theorem dX3_gatherIntoSet_26 : decode cX3_gatherIntoSet 26 = .ok (.getfield 84, 3) := by decide +kernel
theorem dX3_gatherIntoSet_29 : decode cX3_gatherIntoSet 29 = .ok (.iconst 1, 1) := by decide +kernel
theorem dX3_gatherIntoSet_30 : decode cX3_gatherIntoSet 30 = .ok (.isub, 1) := by decide +kernel
theorem dX3_gatherIntoSet_31 : decode cX3_gatherIntoSet 31 = .ok (.iaload, 1) := by decide +kernel
theorem dX3_gatherIntoSet_32 : decode cX3_gatherIntoSet 32 = .ok (.invokestatic 388, 3) := by decide +kernel
theorem dX3_gatherIntoSet_35 : decode cX3_gatherIntoSet 35 = .ok (.istore 4, 2) := by decide +kernel
theorem dX3_gatherIntoSet_37 : decode cX3_gatherIntoSet 37 = .ok (.iload_n 1, 1) := by decide +kernel
theorem dX3_gatherIntoSet_38 : decode cX3_gatherIntoSet 38 = .ok (.ldc 136, 2) := by decide +kernel
theorem dX3_gatherIntoSet_40 : decode cX3_gatherIntoSet 40 = .ok (.if_icmp .ne 13, 3) := by decide +kernel
theorem dX3_gatherIntoSet_43 : decode cX3_gatherIntoSet 43 = .ok (.iload_n 2, 1) := by decide +kernel
theorem dX3_gatherIntoSet_44 : decode cX3_gatherIntoSet 44 = .ok (.ifCond .ne 9, 3) := by decide +kernel
theorem dX3_gatherIntoSet_47 : decode cX3_gatherIntoSet 47 = .ok (.aload_n 0, 1) := by decide +kernel
theorem dX3_gatherIntoSet_48 : decode cX3_gatherIntoSet 48 = .ok (.iconst 3, 1) := by decide +kernel
theorem dX3_gatherIntoSet_49 : decode cX3_gatherIntoSet 49 = .ok (.invokevirtual 313, 3) := by decide +kernel
theorem dX3_gatherIntoSet_52 : decode cX3_gatherIntoSet 52 = .ok (.return_, 1) := by decide +kernel
theorem dX3_gatherIntoSet_53 : decode cX3_gatherIntoSet 53 = .ok (.iload 4, 2) := by decide +kernel
theorem dX3_gatherIntoSet_55 : decode cX3_gatherIntoSet 55 = .ok (.sipush 1000, 3) := by decide +kernel
theorem dX3_gatherIntoSet_58 : decode cX3_gatherIntoSet 58 = .ok (.if_icmp .le 41, 3) := by decide +kernel
theorem dX3_gatherIntoSet_61 : decode cX3_gatherIntoSet 61 = .ok (.aload_n 0, 1) := by decide +kernel
theorem dX3_gatherIntoSet_62 : decode cX3_gatherIntoSet 62 = .ok (.getfield 14, 3) := by decide +kernel
theorem dX3_gatherIntoSet_65 : decode cX3_gatherIntoSet 65 = .ok (.getfield 84, 3) := by decide +kernel
theorem dX3_gatherIntoSet_68 : decode cX3_gatherIntoSet 68 = .ok (.iconst 2, 1) := by decide +kernel
theorem dX3_gatherIntoSet_69 : decode cX3_gatherIntoSet 69 = .ok (.isub, 1) := by decide +kernel
theorem dX3_gatherIntoSet_70 : decode cX3_gatherIntoSet 70 = .ok (.iload_n 3, 1) := by decide +kernel
theorem dX3_gatherIntoSet_71 : decode cX3_gatherIntoSet 71 = .ok (.isub, 1) := by decide +kernel
theorem dX3_gatherIntoSet_72 : decode cX3_gatherIntoSet 72 = .ok (.istore 5, 2) := by decide +kernel
theorem dX3_gatherIntoSet_74 : decode cX3_gatherIntoSet 74 = .ok (.aload_n 0, 1) := by decide +kernel
theorem dX3_gatherIntoSet_75 : decode cX3_gatherIntoSet 75 = .ok (.getfield 18, 3) := by decide +kernel
theorem dX3_gatherIntoSet_78 : decode cX3_gatherIntoSet 78 = .ok (.iload 5, 2) := by decide +kernel
theorem dX3_gatherIntoSet_80 : decode cX3_gatherIntoSet 80 = .ok (.iload_n 1, 1) := by decide +kernel
theorem dX3_gatherIntoSet_81 : decode cX3_gatherIntoSet 81 = .ok (.ldc 136, 2) := by decide +kernel
theorem dX3_gatherIntoSet_83 : decode cX3_gatherIntoSet 83 = .ok (.if_icmp .ne 7, 3) := by decide +kernel
theorem dX3_gatherIntoSet_86 : decode cX3_gatherIntoSet 86 = .ok (.iload_n 1, 1) := by decide +kernel
theorem dX3_gatherIntoSet_87 : decode cX3_gatherIntoSet 87 = .ok (.goto 10, 3) := by decide +kernel
theorem dX3_gatherIntoSet_90 : decode cX3_gatherIntoSet 90 = .ok (.aload_n 0, 1) := by decide +kernel
theorem dX3_gatherIntoSet_91 : decode cX3_gatherIntoSet 91 = .ok (.getfield 18, 3) := by decide +kernel
theorem dX3_gatherIntoSet_94 : decode cX3_gatherIntoSet 94 = .ok (.iload 5, 2) := by decide +kernel
theorem dX3_gatherIntoSet_96 : decode cX3_gatherIntoSet 96 = .ok (.iaload, 1) := by decide +kernel
theorem dX3_gatherIntoSet_97 : decode cX3_gatherIntoSet 97 = .ok (.iastore, 1) := by decide +kernel
theorem dX3_gatherIntoSet_98 : decode cX3_gatherIntoSet 98 = .ok (.return_, 1) := by decide +kernel
theorem dX3_gatherIntoSet_99 : decode cX3_gatherIntoSet 99 = .ok (.aload_n 0, 1) := by decide +kernel
theorem dX3_gatherIntoSet_100 : decode cX3_gatherIntoSet 100 = .ok (.ldc 136, 2) := by decide +kernel
theorem dX3_gatherIntoSet_102 : decode cX3_gatherIntoSet 102 = .ok (.invokevirtual 322, 3) := by decide +kernel
theorem dX3_gatherIntoSet_105 : decode cX3_gatherIntoSet 105 = .ok (.aload_n 0, 1) := by decide +kernel
theorem dX3_gatherIntoSet_106 : decode cX3_gatherIntoSet 106 = .ok (.getfield 14, 3) := by decide +kernel
theorem dX3_gatherIntoSet_109 : decode cX3_gatherIntoSet 109 = .ok (.dup, 1) := by decide +kernel
theorem dX3_gatherIntoSet_110 : decode cX3_gatherIntoSet 110 = .ok (.getfield 84, 3) := by decide +kernel
theorem dX3_gatherIntoSet_113 : decode cX3_gatherIntoSet 113 = .ok (.iconst 1, 1) := by decide +kernel
theorem dX3_gatherIntoSet_114 : decode cX3_gatherIntoSet 114 = .ok (.isub, 1) := by decide +kernel
theorem dX3_gatherIntoSet_115 : decode cX3_gatherIntoSet 115 = .ok (.putfield 84, 3) := by decide +kernel
theorem dX3_gatherIntoSet_118 : decode cX3_gatherIntoSet 118 = .ok (.aload_n 0, 1) := by decide +kernel
theorem dX3_gatherIntoSet_119 : decode cX3_gatherIntoSet 119 = .ok (.getfield 47, 3) := by decide +kernel
theorem dX3_gatherIntoSet_122 : decode cX3_gatherIntoSet 122 = .ok (.aload_n 0, 1) := by decide +kernel
theorem dX3_gatherIntoSet_123 : decode cX3_gatherIntoSet 123 = .ok (.getfield 18, 3) := by decide +kernel
theorem dX3_gatherIntoSet_126 : decode cX3_gatherIntoSet 126 = .ok (.aload_n 0, 1) := by decide +kernel
theorem dX3_gatherIntoSet_127 : decode cX3_gatherIntoSet 127 = .ok (.getfield 14, 3) := by decide +kernel
theorem dX3_gatherIntoSet_130 : decode cX3_gatherIntoSet 130 = .ok (.getfield 84, 3) := by decide +kernel
theorem dX3_gatherIntoSet_133 : decode cX3_gatherIntoSet 133 = .ok (.iconst 2, 1) := by decide +kernel
theorem dX3_gatherIntoSet_134 : decode cX3_gatherIntoSet 134 = .ok (.isub, 1) := by decide +kernel
theorem dX3_gatherIntoSet_135 : decode cX3_gatherIntoSet 135 = .ok (.iload_n 3, 1) := by decide +kernel
theorem dX3_gatherIntoSet_136 : decode cX3_gatherIntoSet 136 = .ok (.isub, 1) := by decide +kernel
theorem dX3_gatherIntoSet_137 : decode cX3_gatherIntoSet 137 = .ok (.iload_n 3, 1) := by decide +kernel
theorem dX3_gatherIntoSet_138 : decode cX3_gatherIntoSet 138 = .ok (.aload_n 0, 1) := by decide +kernel
theorem dX3_gatherIntoSet_139 : decode cX3_gatherIntoSet 139 = .ok (.getfield 14, 3) := by decide +kernel
theorem dX3_gatherIntoSet_142 : decode cX3_gatherIntoSet 142 = .ok (.getfield 84, 3) := by decide +kernel
theorem dX3_gatherIntoSet_145 : decode cX3_gatherIntoSet 145 = .ok (.iload_n 1, 1) := by decide +kernel
theorem dX3_gatherIntoSet_146 : decode cX3_gatherIntoSet 146 = .ok (.invokevirtual 536, 3) := by decide +kernel
theorem dX3_gatherIntoSet_149 : decode cX3_gatherIntoSet 149 = .ok (.ifCond .eq 87, 3) := by decide +kernel
theorem dX3_gatherIntoSet_152 : decode cX3_gatherIntoSet 152 = .ok (.aload_n 0, 1) := by decide +kernel
theorem dX3_gatherIntoSet_153 : decode cX3_gatherIntoSet 153 = .ok (.getfield 14, 3) := by decide +kernel
theorem dX3_gatherIntoSet_156 : decode cX3_gatherIntoSet 156 = .ok (.dup, 1) := by decide +kernel
theorem dX3_gatherIntoSet_157 : decode cX3_gatherIntoSet 157 = .ok (.getfield 84, 3) := by decide +kernel
theorem dX3_gatherIntoSet_160 : decode cX3_gatherIntoSet 160 = .ok (.iconst 1, 1) := by decide +kernel
theorem dX3_gatherIntoSet_161 : decode cX3_gatherIntoSet 161 = .ok (.iadd, 1) := by decide +kernel
theorem dX3_gatherIntoSet_162 : decode cX3_gatherIntoSet 162 = .ok (.putfield 84, 3) := by decide +kernel
theorem dX3_gatherIntoSet_165 : decode cX3_gatherIntoSet 165 = .ok (.aload_n 0, 1) := by decide +kernel
theorem dX3_gatherIntoSet_166 : decode cX3_gatherIntoSet 166 = .ok (.getfield 18, 3) := by decide +kernel
theorem dX3_gatherIntoSet_169 : decode cX3_gatherIntoSet 169 = .ok (.aload_n 0, 1) := by decide +kernel
theorem dX3_gatherIntoSet_170 : decode cX3_gatherIntoSet 170 = .ok (.getfield 14, 3) := by decide +kernel
theorem dX3_gatherIntoSet_173 : decode cX3_gatherIntoSet 173 = .ok (.getfield 84, 3) := by decide +kernel
theorem dX3_gatherIntoSet_176 : decode cX3_gatherIntoSet 176 = .ok (.iconst 2, 1) := by decide +kernel
theorem dX3_gatherIntoSet_177 : decode cX3_gatherIntoSet 177 = .ok (.isub, 1) := by decide +kernel
theorem dX3_gatherIntoSet_178 : decode cX3_gatherIntoSet 178 = .ok (.iload_n 3, 1) := by decide +kernel
theorem dX3_gatherIntoSet_179 : decode cX3_gatherIntoSet 179 = .ok (.iconst 1, 1) := by decide +kernel
theorem dX3_gatherIntoSet_180 : decode cX3_gatherIntoSet 180 = .ok (.iadd, 1) := by decide +kernel
theorem dX3_gatherIntoSet_181 : decode cX3_gatherIntoSet 181 = .ok (.invokestatic 182, 3) := by decide +kernel
theorem dX3_gatherIntoSet_184 : decode cX3_gatherIntoSet 184 = .ok (.iastore, 1) := by decide +kernel
theorem dX3_gatherIntoSet_185 : decode cX3_gatherIntoSet 185 = .ok (.aload_n 0, 1) := by decide +kernel
theorem dX3_gatherIntoSet_186 : decode cX3_gatherIntoSet 186 = .ok (.getfield 18, 3) := by decide +kernel
theorem dX3_gatherIntoSet_189 : decode cX3_gatherIntoSet 189 = .ok (.aload_n 0, 1) := by decide +kernel
theorem dX3_gatherIntoSet_190 : decode cX3_gatherIntoSet 190 = .ok (.getfield 14, 3) := by decide +kernel
theorem dX3_gatherIntoSet_193 : decode cX3_gatherIntoSet 193 = .ok (.getfield 84, 3) := by decide +kernel
theorem dX3_gatherIntoSet_196 : decode cX3_gatherIntoSet 196 = .ok (.iconst 1, 1) := by decide +kernel
theorem dX3_gatherIntoSet_197 : decode cX3_gatherIntoSet 197 = .ok (.isub, 1) := by decide +kernel
theorem dX3_gatherIntoSet_198 : decode cX3_gatherIntoSet 198 = .ok (.iload 4, 2) := by decide +kernel
theorem dX3_gatherIntoSet_200 : decode cX3_gatherIntoSet 200 = .ok (.aload_n 0, 1) := by decide +kernel
theorem dX3_gatherIntoSet_201 : decode cX3_gatherIntoSet 201 = .ok (.getfield 39, 3) := by decide +kernel
theorem dX3_gatherIntoSet_204 : decode cX3_gatherIntoSet 204 = .ok (.iload_n 1, 1) := by decide +kernel
theorem dX3_gatherIntoSet_205 : decode cX3_gatherIntoSet 205 = .ok (.invokevirtual 316, 3) := by decide +kernel
theorem dX3_gatherIntoSet_208 : decode cX3_gatherIntoSet 208 = .ok (.iadd, 1) := by decide +kernel
theorem dX3_gatherIntoSet_209 : decode cX3_gatherIntoSet 209 = .ok (.sipush 1000, 3) := by decide +kernel
theorem dX3_gatherIntoSet_212 : decode cX3_gatherIntoSet 212 = .ok (.if_icmp .le 9, 3) := by decide +kernel
theorem dX3_gatherIntoSet_215 : decode cX3_gatherIntoSet 215 = .ok (.sipush 3000, 3) := by decide +kernel
theorem dX3_gatherIntoSet_218 : decode cX3_gatherIntoSet 218 = .ok (.goto 14, 3) := by decide +kernel
theorem dX3_gatherIntoSet_221 : decode cX3_gatherIntoSet 221 = .ok (.iload 4, 2) := by decide +kernel
theorem dX3_gatherIntoSet_223 : decode cX3_gatherIntoSet 223 = .ok (.aload_n 0, 1) := by decide +kernel
theorem dX3_gatherIntoSet_224 : decode cX3_gatherIntoSet 224 = .ok (.getfield 39, 3) := by decide +kernel
theorem dX3_gatherIntoSet_227 : decode cX3_gatherIntoSet 227 = .ok (.iload_n 1, 1) := by decide +kernel
theorem dX3_gatherIntoSet_228 : decode cX3_gatherIntoSet 228 = .ok (.invokevirtual 316, 3) := by decide +kernel
theorem dX3_gatherIntoSet_231 : decode cX3_gatherIntoSet 231 = .ok (.iadd, 1) := by decide +kernel
theorem dX3_gatherIntoSet_232 : decode cX3_gatherIntoSet 232 = .ok (.invokestatic 182, 3) := by decide +kernel
theorem dX3_gatherIntoSet_235 : decode cX3_gatherIntoSet 235 = .ok (.iastore, 1) := by decide +kernel
theorem dX3_gatherIntoSet_236 : decode cX3_gatherIntoSet 236 = .ok (.return_, 1) := by decide +kernel
theorem dX3_gatherIntoTuple_0 : decode cX3_gatherIntoTuple 0 = .ok (.aload_n 0, 1) := by decide +kernel
theorem dX3_gatherIntoTuple_1 : decode cX3_gatherIntoTuple 1 = .ok (.getfield 18, 3) := by decide +kernel
theorem dX3_gatherIntoTuple_4 : decode cX3_gatherIntoTuple 4 = .ok (.aload_n 0, 1) := by decide +kernel
theorem dX3_gatherIntoTuple_5 : decode cX3_gatherIntoTuple 5 = .ok (.getfield 14, 3) := by decide +kernel
theorem dX3_gatherIntoTuple_8 : decode cX3_gatherIntoTuple 8 = .ok (.getfield 84, 3) := by decide +kernel
theorem dX3_gatherIntoTuple_11 : decode cX3_gatherIntoTuple 11 = .ok (.iconst 2, 1) := by decide +kernel
theorem dX3_gatherIntoTuple_12 : decode cX3_gatherIntoTuple 12 = .ok (.isub, 1) := by decide +kernel
theorem dX3_gatherIntoTuple_13 : decode cX3_gatherIntoTuple 13 = .ok (.iaload, 1) := by decide +kernel
theorem dX3_gatherIntoTuple_14 : decode cX3_gatherIntoTuple 14 = .ok (.invokestatic 388, 3) := by decide +kernel
theorem dX3_gatherIntoTuple_17 : decode cX3_gatherIntoTuple 17 = .ok (.istore_n 2, 1) := by decide +kernel
theorem dX3_gatherIntoTuple_18 : decode cX3_gatherIntoTuple 18 = .ok (.aload_n 0, 1) := by decide +kernel
theorem dX3_gatherIntoTuple_19 : decode cX3_gatherIntoTuple 19 = .ok (.getfield 18, 3) := by decide +kernel
theorem dX3_gatherIntoTuple_22 : decode cX3_gatherIntoTuple 22 = .ok (.aload_n 0, 1) := by decide +kernel
theorem dX3_gatherIntoTuple_23 : decode cX3_gatherIntoTuple 23 = .ok (.getfield 14, 3) := by decide +kernel
theorem dX3_gatherIntoTuple_26 : decode cX3_gatherIntoTuple 26 = .ok (.getfield 84, 3) := by decide +kernel
theorem dX3_gatherIntoTuple_29 : decode cX3_gatherIntoTuple 29 = .ok (.iconst 1, 1) := by decide +kernel
theorem dX3_gatherIntoTuple_30 : decode cX3_gatherIntoTuple 30 = .ok (.isub, 1) := by decide +kernel
theorem dX3_gatherIntoTuple_31 : decode cX3_gatherIntoTuple 31 = .ok (.iaload, 1) := by decide +kernel
theorem dX3_gatherIntoTuple_32 : decode cX3_gatherIntoTuple 32 = .ok (.invokestatic 388, 3) := by decide +kernel
theorem dX3_gatherIntoTuple_35 : decode cX3_gatherIntoTuple 35 = .ok (.istore_n 3, 1) := by decide +kernel
theorem dX3_gatherIntoTuple_36 : decode cX3_gatherIntoTuple 36 = .ok (.iload_n 3, 1) := by decide +kernel
theorem dX3_gatherIntoTuple_37 : decode cX3_gatherIntoTuple 37 = .ok (.sipush 2000, 3) := by decide +kernel
theorem dX3_gatherIntoTuple_40 : decode cX3_gatherIntoTuple 40 = .ok (.if_icmp .gt 16, 3) := by decide +kernel
theorem dX3_gatherIntoTuple_43 : decode cX3_gatherIntoTuple 43 = .ok (.iload_n 1, 1) := by decide +kernel
theorem dX3_gatherIntoTuple_44 : decode cX3_gatherIntoTuple 44 = .ok (.ldc 136, 2) := by decide +kernel
theorem dX3_gatherIntoTuple_46 : decode cX3_gatherIntoTuple 46 = .ok (.if_icmp .ne 11, 3) := by decide +kernel
theorem dX3_gatherIntoTuple_49 : decode cX3_gatherIntoTuple 49 = .ok (.iload_n 2, 1) := by decide +kernel
theorem dX3_gatherIntoTuple_50 : decode cX3_gatherIntoTuple 50 = .ok (.sipush 1000, 3) := by decide +kernel
theorem dX3_gatherIntoTuple_53 : decode cX3_gatherIntoTuple 53 = .ok (.if_icmp .lt 4, 3) := by decide +kernel
theorem dX3_gatherIntoTuple_56 : decode cX3_gatherIntoTuple 56 = .ok (.return_, 1) := by decide +kernel
theorem dX3_gatherIntoTuple_57 : decode cX3_gatherIntoTuple 57 = .ok (.iload_n 3, 1) := by decide +kernel
theorem dX3_gatherIntoTuple_58 : decode cX3_gatherIntoTuple 58 = .ok (.aload_n 0, 1) := by decide +kernel
theorem dX3_gatherIntoTuple_59 : decode cX3_gatherIntoTuple 59 = .ok (.getfield 39, 3) := by decide +kernel
theorem dX3_gatherIntoTuple_62 : decode cX3_gatherIntoTuple 62 = .ok (.iload_n 1, 1) := by decide +kernel
theorem dX3_gatherIntoTuple_63 : decode cX3_gatherIntoTuple 63 = .ok (.invokevirtual 316, 3) := by decide +kernel
theorem dX3_gatherIntoTuple_66 : decode cX3_gatherIntoTuple 66 = .ok (.iadd, 1) := by decide +kernel
theorem dX3_gatherIntoTuple_67 : decode cX3_gatherIntoTuple 67 = .ok (.istore 4, 2) := by decide +kernel
theorem dX3_gatherIntoTuple_69 : decode cX3_gatherIntoTuple 69 = .ok (.iload_n 1, 1) := by decide +kernel
theorem dX3_gatherIntoTuple_70 : decode cX3_gatherIntoTuple 70 = .ok (.ldc 136, 2) := by decide +kernel
theorem dX3_gatherIntoTuple_72 : decode cX3_gatherIntoTuple 72 = .ok (.if_icmp .eq 39, 3) := by decide +kernel
theorem dX3_gatherIntoTuple_75 : decode cX3_gatherIntoTuple 75 = .ok (.iload 4, 2) := by decide +kernel
theorem dX3_gatherIntoTuple_77 : decode cX3_gatherIntoTuple 77 = .ok (.sipush 1000, 3) := by decide +kernel
theorem dX3_gatherIntoTuple_80 : decode cX3_gatherIntoTuple 80 = .ok (.if_icmp .gt 10, 3) := by decide +kernel
theorem dX3_gatherIntoTuple_83 : decode cX3_gatherIntoTuple 83 = .ok (.iload_n 2, 1) := by decide +kernel
theorem dX3_gatherIntoTuple_84 : decode cX3_gatherIntoTuple 84 = .ok (.sipush 1000, 3) := by decide +kernel
theorem dX3_gatherIntoTuple_87 : decode cX3_gatherIntoTuple 87 = .ok (.if_icmp .lt 24, 3) := by decide +kernel
theorem dX3_gatherIntoTuple_90 : decode cX3_gatherIntoTuple 90 = .ok (.aload_n 0, 1) := by decide +kernel
theorem dX3_gatherIntoTuple_91 : decode cX3_gatherIntoTuple 91 = .ok (.getfield 18, 3) := by decide +kernel
theorem dX3_gatherIntoTuple_94 : decode cX3_gatherIntoTuple 94 = .ok (.aload_n 0, 1) := by decide +kernel
theorem dX3_gatherIntoTuple_95 : decode cX3_gatherIntoTuple 95 = .ok (.getfield 14, 3) := by decide +kernel
theorem dX3_gatherIntoTuple_98 : decode cX3_gatherIntoTuple 98 = .ok (.getfield 84, 3) := by decide +kernel
theorem dX3_gatherIntoTuple_101 : decode cX3_gatherIntoTuple 101 = .ok (.iconst 1, 1) := by decide +kernel
theorem dX3_gatherIntoTuple_102 : decode cX3_gatherIntoTuple 102 = .ok (.isub, 1) := by decide +kernel
theorem dX3_gatherIntoTuple_103 : decode cX3_gatherIntoTuple 103 = .ok (.sipush 3000, 3) := by decide +kernel
theorem dX3_gatherIntoTuple_106 : decode cX3_gatherIntoTuple 106 = .ok (.invokestatic 182, 3) := by decide +kernel
theorem dX3_gatherIntoTuple_109 : decode cX3_gatherIntoTuple 109 = .ok (.iastore, 1) := by decide +kernel
theorem dX3_gatherIntoTuple_110 : decode cX3_gatherIntoTuple 110 = .ok (.return_, 1) := by decide +kernel
theorem dX3_gatherIntoTuple_111 : decode cX3_gatherIntoTuple 111 = .ok (.aload_n 0, 1) := by decide +kernel
theorem dX3_gatherIntoTuple_112 : decode cX3_gatherIntoTuple 112 = .ok (.getfield 18, 3) := by decide +kernel
theorem dX3_gatherIntoTuple_115 : decode cX3_gatherIntoTuple 115 = .ok (.aload_n 0, 1) := by decide +kernel
theorem dX3_gatherIntoTuple_116 : decode cX3_gatherIntoTuple 116 = .ok (.getfield 14, 3) := by decide +kernel
theorem dX3_gatherIntoTuple_119 : decode cX3_gatherIntoTuple 119 = .ok (.getfield 84, 3) := by decide +kernel
theorem dX3_gatherIntoTuple_122 : decode cX3_gatherIntoTuple 122 = .ok (.iconst 1, 1) := by decide +kernel
theorem dX3_gatherIntoTuple_123 : decode cX3_gatherIntoTuple 123 = .ok (.isub, 1) := by decide +kernel
theorem dX3_gatherIntoTuple_124 : decode cX3_gatherIntoTuple 124 = .ok (.iaload, 1) := by decide +kernel
theorem dX3_gatherIntoTuple_125 : decode cX3_gatherIntoTuple 125 = .ok (.istore 5, 2) := by decide +kernel
theorem dX3_gatherIntoTuple_127 : decode cX3_gatherIntoTuple 127 = .ok (.aload_n 0, 1) := by decide +kernel
theorem dX3_gatherIntoTuple_128 : decode cX3_gatherIntoTuple 128 = .ok (.getfield 18, 3) := by decide +kernel
theorem dX3_gatherIntoTuple_131 : decode cX3_gatherIntoTuple 131 = .ok (.aload_n 0, 1) := by decide +kernel
theorem dX3_gatherIntoTuple_132 : decode cX3_gatherIntoTuple 132 = .ok (.getfield 14, 3) := by decide +kernel
theorem dX3_gatherIntoTuple_135 : decode cX3_gatherIntoTuple 135 = .ok (.getfield 84, 3) := by decide +kernel
theorem dX3_gatherIntoTuple_138 : decode cX3_gatherIntoTuple 138 = .ok (.iconst 2, 1) := by decide +kernel
theorem dX3_gatherIntoTuple_139 : decode cX3_gatherIntoTuple 139 = .ok (.isub, 1) := by decide +kernel
theorem dX3_gatherIntoTuple_140 : decode cX3_gatherIntoTuple 140 = .ok (.iload_n 1, 1) := by decide +kernel
theorem dX3_gatherIntoTuple_141 : decode cX3_gatherIntoTuple 141 = .ok (.iastore, 1) := by decide +kernel
theorem dX3_gatherIntoTuple_142 : decode cX3_gatherIntoTuple 142 = .ok (.aload_n 0, 1) := by decide +kernel
theorem dX3_gatherIntoTuple_143 : decode cX3_gatherIntoTuple 143 = .ok (.getfield 18, 3) := by decide +kernel
theorem dX3_gatherIntoTuple_146 : decode cX3_gatherIntoTuple 146 = .ok (.aload_n 0, 1) := by decide +kernel
theorem dX3_gatherIntoTuple_147 : decode cX3_gatherIntoTuple 147 = .ok (.getfield 14, 3) := by decide +kernel
theorem dX3_gatherIntoTuple_150 : decode cX3_gatherIntoTuple 150 = .ok (.getfield 84, 3) := by decide +kernel
theorem dX3_gatherIntoTuple_153 : decode cX3_gatherIntoTuple 153 = .ok (.iconst 1, 1) := by decide +kernel
theorem dX3_gatherIntoTuple_154 : decode cX3_gatherIntoTuple 154 = .ok (.isub, 1) := by decide +kernel
theorem dX3_gatherIntoTuple_155 : decode cX3_gatherIntoTuple 155 = .ok (.iload_n 2, 1) := by decide +kernel
theorem dX3_gatherIntoTuple_156 : decode cX3_gatherIntoTuple 156 = .ok (.iconst 1, 1) := by decide +kernel
theorem dX3_gatherIntoTuple_157 : decode cX3_gatherIntoTuple 157 = .ok (.iadd, 1) := by decide +kernel
theorem dX3_gatherIntoTuple_158 : decode cX3_gatherIntoTuple 158 = .ok (.invokestatic 182, 3) := by decide +kernel
theorem dX3_gatherIntoTuple_161 : decode cX3_gatherIntoTuple 161 = .ok (.iastore, 1) := by decide +kernel
theorem dX3_gatherIntoTuple_162 : decode cX3_gatherIntoTuple 162 = .ok (.aload_n 0, 1) := by decide +kernel
theorem dX3_gatherIntoTuple_163 : decode cX3_gatherIntoTuple 163 = .ok (.iload 5, 2) := by decide +kernel
theorem dX3_gatherIntoTuple_165 : decode cX3_gatherIntoTuple 165 = .ok (.invokevirtual 322, 3) := by decide +kernel
theorem dX3_gatherIntoTuple_168 : decode cX3_gatherIntoTuple 168 = .ok (.aload_n 0, 1) := by decide +kernel
theorem dX3_gatherIntoTuple_169 : decode cX3_gatherIntoTuple 169 = .ok (.getfield 18, 3) := by decide +kernel
theorem dX3_gatherIntoTuple_172 : decode cX3_gatherIntoTuple 172 = .ok (.aload_n 0, 1) := by decide +kernel
theorem dX3_gatherIntoTuple_173 : decode cX3_gatherIntoTuple 173 = .ok (.getfield 14, 3) := by decide +kernel
theorem dX3_gatherIntoTuple_176 : decode cX3_gatherIntoTuple 176 = .ok (.getfield 84, 3) := by decide +kernel
theorem dX3_gatherIntoTuple_179 : decode cX3_gatherIntoTuple 179 = .ok (.iconst 1, 1) := by decide +kernel
theorem dX3_gatherIntoTuple_180 : decode cX3_gatherIntoTuple 180 = .ok (.isub, 1) := by decide +kernel
theorem dX3_gatherIntoTuple_181 : decode cX3_gatherIntoTuple 181 = .ok (.iload 4, 2) := by decide +kernel
theorem dX3_gatherIntoTuple_183 : decode cX3_gatherIntoTuple 183 = .ok (.invokestatic 182, 3) := by decide +kernel
theorem dX3_gatherIntoTuple_186 : decode cX3_gatherIntoTuple 186 = .ok (.iastore, 1) := by decide +kernel
theorem dX3_gatherIntoTuple_187 : decode cX3_gatherIntoTuple 187 = .ok (.return_, 1) := by decide +kernel
theorem dX3_gathered_0 : decode cX3_gathered 0 = .ok (.aload_n 0, 1) := by decide +kernel
theorem dX3_gathered_1 : decode cX3_gathered 1 = .ok (.getfield 18, 3) := by decide +kernel
theorem dX3_gathered_4 : decode cX3_gathered 4 = .ok (.aload_n 0, 1) := by decide +kernel
theorem dX3_gathered_5 : decode cX3_gathered 5 = .ok (.getfield 14, 3) := by decide +kernel
theorem dX3_gathered_8 : decode cX3_gathered 8 = .ok (.getfield 84, 3) := by decide +kernel
theorem dX3_gathered_11 : decode cX3_gathered 11 = .ok (.iconst 2, 1) := by decide +kernel
theorem dX3_gathered_12 : decode cX3_gathered 12 = .ok (.isub, 1) := by decide +kernel
theorem dX3_gathered_13 : decode cX3_gathered 13 = .ok (.iaload, 1) := by decide +kernel
theorem dX3_gathered_14 : decode cX3_gathered 14 = .ok (.invokestatic 388, 3) := by decide +kernel
theorem dX3_gathered_17 : decode cX3_gathered 17 = .ok (.istore_n 2, 1) := by decide +kernel
theorem dX3_gathered_18 : decode cX3_gathered 18 = .ok (.aload_n 0, 1) := by decide +kernel
theorem dX3_gathered_19 : decode cX3_gathered 19 = .ok (.getfield 18, 3) := by decide +kernel
theorem dX3_gathered_22 : decode cX3_gathered 22 = .ok (.aload_n 0, 1) := by decide +kernel
theorem dX3_gathered_23 : decode cX3_gathered 23 = .ok (.getfield 14, 3) := by decide +kernel
theorem dX3_gathered_26 : decode cX3_gathered 26 = .ok (.getfield 84, 3) := by decide +kernel
theorem dX3_gathered_29 : decode cX3_gathered 29 = .ok (.iconst 1, 1) := by decide +kernel
theorem dX3_gathered_30 : decode cX3_gathered 30 = .ok (.isub, 1) := by decide +kernel
theorem dX3_gathered_31 : decode cX3_gathered 31 = .ok (.iaload, 1) := by decide +kernel
theorem dX3_gathered_32 : decode cX3_gathered 32 = .ok (.invokestatic 388, 3) := by decide +kernel
theorem dX3_gathered_35 : decode cX3_gathered 35 = .ok (.istore_n 3, 1) := by decide +kernel
theorem dX3_gathered_36 : decode cX3_gathered 36 = .ok (.aload_n 0, 1) := by decide +kernel
theorem dX3_gathered_37 : decode cX3_gathered 37 = .ok (.getfield 14, 3) := by decide +kernel
theorem dX3_gathered_40 : decode cX3_gathered 40 = .ok (.getfield 84, 3) := by decide +kernel
theorem dX3_gathered_43 : decode cX3_gathered 43 = .ok (.iconst 2, 1) := by decide +kernel
theorem dX3_gathered_44 : decode cX3_gathered 44 = .ok (.isub, 1) := by decide +kernel
theorem dX3_gathered_45 : decode cX3_gathered 45 = .ok (.iload_n 2, 1) := by decide +kernel
theorem dX3_gathered_46 : decode cX3_gathered 46 = .ok (.isub, 1) := by decide +kernel
theorem dX3_gathered_47 : decode cX3_gathered 47 = .ok (.istore 4, 2) := by decide +kernel
theorem dX3_gathered_49 : decode cX3_gathered 49 = .ok (.aload_n 0, 1) := by decide +kernel
theorem dX3_gathered_50 : decode cX3_gathered 50 = .ok (.getfield 14, 3) := by decide +kernel
theorem dX3_gathered_53 : decode cX3_gathered 53 = .ok (.iload 4, 2) := by decide +kernel
theorem dX3_gathered_55 : decode cX3_gathered 55 = .ok (.putfield 84, 3) := by decide +kernel
theorem dX3_gathered_58 : decode cX3_gathered 58 = .ok (.iload_n 1, 1) := by decide +kernel
theorem dX3_gathered_59 : decode cX3_gathered 59 = .ok (.ifCond .eq 27, 3) := by decide +kernel
theorem dX3_gathered_62 : decode cX3_gathered 62 = .ok (.iload_n 2, 1) := by decide +kernel
theorem dX3_gathered_63 : decode cX3_gathered 63 = .ok (.ifCond .le 23, 3) := by decide +kernel
theorem dX3_gathered_66 : decode cX3_gathered 66 = .ok (.aload_n 0, 1) := by decide +kernel
theorem dX3_gathered_67 : decode cX3_gathered 67 = .ok (.getfield 18, 3) := by decide +kernel
theorem dX3_gathered_70 : decode cX3_gathered 70 = .ok (.iload 4, 2) := by decide +kernel
theorem dX3_gathered_72 : decode cX3_gathered 72 = .ok (.iaload, 1) := by decide +kernel
theorem dX3_gathered_73 : decode cX3_gathered 73 = .ok (.ldc 136, 2) := by decide +kernel
theorem dX3_gathered_75 : decode cX3_gathered 75 = .ok (.if_icmp .ne 11, 3) := by decide +kernel
theorem dX3_gathered_78 : decode cX3_gathered 78 = .ok (.aload_n 0, 1) := by decide +kernel
theorem dX3_gathered_79 : decode cX3_gathered 79 = .ok (.iconst 3, 1) := by decide +kernel
theorem dX3_gathered_80 : decode cX3_gathered 80 = .ok (.invokevirtual 313, 3) := by decide +kernel
theorem dX3_gathered_83 : decode cX3_gathered 83 = .ok (.goto 59, 3) := by decide +kernel
theorem dX3_gathered_86 : decode cX3_gathered 86 = .ok (.iload_n 3, 1) := by decide +kernel
theorem dX3_gathered_87 : decode cX3_gathered 87 = .ok (.sipush 2000, 3) := by decide +kernel
theorem dX3_gathered_90 : decode cX3_gathered 90 = .ok (.if_icmp .le 11, 3) := by decide +kernel
theorem dX3_gathered_93 : decode cX3_gathered 93 = .ok (.aload_n 0, 1) := by decide +kernel
theorem dX3_gathered_94 : decode cX3_gathered 94 = .ok (.iconst 5, 1) := by decide +kernel
theorem dX3_gathered_95 : decode cX3_gathered 95 = .ok (.invokevirtual 313, 3) := by decide +kernel
theorem dX3_gathered_98 : decode cX3_gathered 98 = .ok (.goto 44, 3) := by decide +kernel
theorem dX3_gathered_101 : decode cX3_gathered 101 = .ok (.aload_n 0, 1) := by decide +kernel
theorem dX3_gathered_102 : decode cX3_gathered 102 = .ok (.iload_n 1, 1) := by decide +kernel
theorem dX3_gathered_103 : decode cX3_gathered 103 = .ok (.ifCond .eq 22, 3) := by decide +kernel
theorem dX3_gathered_106 : decode cX3_gathered 106 = .ok (.aload_n 0, 1) := by decide +kernel
theorem dX3_gathered_107 : decode cX3_gathered 107 = .ok (.getfield 39, 3) := by decide +kernel
theorem dX3_gathered_110 : decode cX3_gathered 110 = .ok (.bipush 6, 2) := by decide +kernel
theorem dX3_gathered_112 : decode cX3_gathered 112 = .ok (.aload_n 0, 1) := by decide +kernel
theorem dX3_gathered_113 : decode cX3_gathered 113 = .ok (.getfield 18, 3) := by decide +kernel
theorem dX3_gathered_116 : decode cX3_gathered 116 = .ok (.iload 4, 2) := by decide +kernel
theorem dX3_gathered_118 : decode cX3_gathered 118 = .ok (.iload_n 2, 1) := by decide +kernel
theorem dX3_gathered_119 : decode cX3_gathered 119 = .ok (.invokevirtual 532, 3) := by decide +kernel
theorem dX3_gathered_122 : decode cX3_gathered 122 = .ok (.goto 17, 3) := by decide +kernel
theorem dX3_gathered_125 : decode cX3_gathered 125 = .ok (.aload_n 0, 1) := by decide +kernel
theorem dX3_gathered_126 : decode cX3_gathered 126 = .ok (.getfield 39, 3) := by decide +kernel
theorem dX3_gathered_129 : decode cX3_gathered 129 = .ok (.aload_n 0, 1) := by decide +kernel
theorem dX3_gathered_130 : decode cX3_gathered 130 = .ok (.getfield 18, 3) := by decide +kernel
theorem dX3_gathered_133 : decode cX3_gathered 133 = .ok (.iload 4, 2) := by decide +kernel
theorem dX3_gathered_135 : decode cX3_gathered 135 = .ok (.iload_n 2, 1) := by decide +kernel
theorem dX3_gathered_136 : decode cX3_gathered 136 = .ok (.invokevirtual 438, 3) := by decide +kernel
theorem dX3_gathered_139 : decode cX3_gathered 139 = .ok (.invokevirtual 391, 3) := by decide +kernel
theorem dX3_gathered_142 : decode cX3_gathered 142 = .ok (.return_, 1) := by decide +kernel
theorem dX3_give_0 : decode cX3_give 0 = .ok (.aload_n 0, 1) := by decide +kernel
theorem dX3_give_1 : decode cX3_give 1 = .ok (.ldc 136, 2) := by decide +kernel
theorem dX3_give_3 : decode cX3_give 3 = .ok (.invokevirtual 322, 3) := by decide +kernel
theorem dX3_give_6 : decode cX3_give 6 = .ok (.aload_n 0, 1) := by decide +kernel
theorem dX3_give_7 : decode cX3_give 7 = .ok (.iload_n 1, 1) := by decide +kernel
theorem dX3_give_8 : decode cX3_give 8 = .ok (.invokevirtual 280, 3) := by decide +kernel
theorem dX3_give_11 : decode cX3_give 11 = .ok (.return_, 1) := by decide +kernel
theorem dX3_goBack_0 : decode cX3_goBack 0 = .ok (.aload_n 0, 1) := by decide +kernel
theorem dX3_goBack_1 : decode cX3_goBack 1 = .ok (.getfield 35, 3) := by decide +kernel
theorem dX3_goBack_4 : decode cX3_goBack 4 = .ok (.iload_n 1, 1) := by decide +kernel
theorem dX3_goBack_5 : decode cX3_goBack 5 = .ok (.invokevirtual 158, 3) := by decide +kernel
theorem dX3_goBack_8 : decode cX3_goBack 8 = .ok (.istore_n 2, 1) := by decide +kernel
theorem dX3_goBack_9 : decode cX3_goBack 9 = .ok (.iload_n 2, 1) := by decide +kernel
theorem dX3_goBack_10 : decode cX3_goBack 10 = .ok (.iconst (-1), 1) := by decide +kernel
theorem dX3_goBack_11 : decode cX3_goBack 11 = .ok (.if_icmp .ne 9, 3) := by decide +kernel
theorem dX3_goBack_14 : decode cX3_goBack 14 = .ok (.aload_n 0, 1) := by decide +kernel
theorem dX3_goBack_15 : decode cX3_goBack 15 = .ok (.invokevirtual 69, 3) := by decide +kernel
theorem dX3_goBack_18 : decode cX3_goBack 18 = .ok (.iload_n 1, 1) := by decide +kernel
theorem dX3_goBack_19 : decode cX3_goBack 19 = .ok (.ireturn, 1) := by decide +kernel
theorem dX3_goBack_20 : decode cX3_goBack 20 = .ok (.aload_n 0, 1) := by decide +kernel
theorem dX3_goBack_21 : decode cX3_goBack 21 = .ok (.getfield 14, 3) := by decide +kernel
theorem dX3_goBack_24 : decode cX3_goBack 24 = .ok (.aload_n 0, 1) := by decide +kernel
theorem dX3_goBack_25 : decode cX3_goBack 25 = .ok (.getfield 35, 3) := by decide +kernel
theorem dX3_goBack_28 : decode cX3_goBack 28 = .ok (.getfield 162, 3) := by decide +kernel
theorem dX3_goBack_31 : decode cX3_goBack 31 = .ok (.iload_n 2, 1) := by decide +kernel
theorem dX3_goBack_32 : decode cX3_goBack 32 = .ok (.aaload, 1) := by decide +kernel
theorem dX3_goBack_33 : decode cX3_goBack 33 = .ok (.invokevirtual 166, 3) := by decide +kernel
theorem dX3_goBack_36 : decode cX3_goBack 36 = .ok (.aload_n 0, 1) := by decide +kernel
theorem dX3_goBack_37 : decode cX3_goBack 37 = .ok (.getfield 35, 3) := by decide +kernel
theorem dX3_goBack_40 : decode cX3_goBack 40 = .ok (.getfield 170, 3) := by decide +kernel
theorem dX3_goBack_43 : decode cX3_goBack 43 = .ok (.aload_n 0, 1) := by decide +kernel
theorem dX3_goBack_44 : decode cX3_goBack 44 = .ok (.getfield 35, 3) := by decide +kernel
theorem dX3_goBack_47 : decode cX3_goBack 47 = .ok (.getfield 173, 3) := by decide +kernel
theorem dX3_goBack_50 : decode cX3_goBack 50 = .ok (.iload_n 2, 1) := by decide +kernel
theorem dX3_goBack_51 : decode cX3_goBack 51 = .ok (.iaload, 1) := by decide +kernel
theorem dX3_goBack_52 : decode cX3_goBack 52 = .ok (.aload_n 0, 1) := by decide +kernel
theorem dX3_goBack_53 : decode cX3_goBack 53 = .ok (.getfield 18, 3) := by decide +kernel
theorem dX3_goBack_56 : decode cX3_goBack 56 = .ok (.iconst 0, 1) := by decide +kernel
theorem dX3_goBack_57 : decode cX3_goBack 57 = .ok (.aload_n 0, 1) := by decide +kernel
theorem dX3_goBack_58 : decode cX3_goBack 58 = .ok (.getfield 14, 3) := by decide +kernel
theorem dX3_goBack_61 : decode cX3_goBack 61 = .ok (.getfield 84, 3) := by decide +kernel
theorem dX3_goBack_64 : decode cX3_goBack 64 = .ok (.invokestatic 176, 3) := by decide +kernel
theorem dX3_goBack_67 : decode cX3_goBack 67 = .ok (.aload_n 0, 1) := by decide +kernel
theorem dX3_goBack_68 : decode cX3_goBack 68 = .ok (.getfield 35, 3) := by decide +kernel
theorem dX3_goBack_71 : decode cX3_goBack 71 = .ok (.getfield 170, 3) := by decide +kernel
theorem dX3_goBack_74 : decode cX3_goBack 74 = .ok (.aload_n 0, 1) := by decide +kernel
theorem dX3_goBack_75 : decode cX3_goBack 75 = .ok (.getfield 35, 3) := by decide +kernel
theorem dX3_goBack_78 : decode cX3_goBack 78 = .ok (.getfield 173, 3) := by decide +kernel
theorem dX3_goBack_81 : decode cX3_goBack 81 = .ok (.iload_n 2, 1) := by decide +kernel
theorem dX3_goBack_82 : decode cX3_goBack 82 = .ok (.iaload, 1) := by decide +kernel
theorem dX3_goBack_83 : decode cX3_goBack 83 = .ok (.aload_n 0, 1) := by decide +kernel
theorem dX3_goBack_84 : decode cX3_goBack 84 = .ok (.getfield 14, 3) := by decide +kernel
theorem dX3_goBack_87 : decode cX3_goBack 87 = .ok (.getfield 84, 3) := by decide +kernel
theorem dX3_goBack_90 : decode cX3_goBack 90 = .ok (.iadd, 1) := by decide +kernel
theorem dX3_goBack_91 : decode cX3_goBack 91 = .ok (.aload_n 0, 1) := by decide +kernel
theorem dX3_goBack_92 : decode cX3_goBack 92 = .ok (.getfield 22, 3) := by decide +kernel
theorem dX3_goBack_95 : decode cX3_goBack 95 = .ok (.iconst 0, 1) := by decide +kernel
theorem dX3_goBack_96 : decode cX3_goBack 96 = .ok (.aload_n 0, 1) := by decide +kernel
theorem dX3_goBack_97 : decode cX3_goBack 97 = .ok (.getfield 14, 3) := by decide +kernel
theorem dX3_goBack_100 : decode cX3_goBack 100 = .ok (.getfield 119, 3) := by decide +kernel
theorem dX3_goBack_103 : decode cX3_goBack 103 = .ok (.invokestatic 176, 3) := by decide +kernel
theorem dX3_goBack_106 : decode cX3_goBack 106 = .ok (.iload_n 1, 1) := by decide +kernel
theorem dX3_goBack_107 : decode cX3_goBack 107 = .ok (.aload_n 0, 1) := by decide +kernel
theorem dX3_goBack_108 : decode cX3_goBack 108 = .ok (.getfield 14, 3) := by decide +kernel
theorem dX3_goBack_111 : decode cX3_goBack 111 = .ok (.getfield 87, 3) := by decide +kernel
theorem dX3_goBack_114 : decode cX3_goBack 114 = .ok (.isub, 1) := by decide +kernel
theorem dX3_goBack_115 : decode cX3_goBack 115 = .ok (.ireturn, 1) := by decide +kernel
theorem dX3_goOver_0 : decode cX3_goOver 0 = .ok (.aload_n 0, 1) := by decide +kernel
theorem dX3_goOver_1 : decode cX3_goOver 1 = .ok (.invokevirtual 339, 3) := by decide +kernel
theorem dX3_goOver_4 : decode cX3_goOver 4 = .ok (.istore 4, 2) := by decide +kernel
theorem dX3_goOver_6 : decode cX3_goOver 6 = .ok (.aload_n 0, 1) := by decide +kernel
theorem dX3_goOver_7 : decode cX3_goOver 7 = .ok (.getfield 39, 3) := by decide +kernel
theorem dX3_goOver_10 : decode cX3_goOver 10 = .ok (.iload 4, 2) := by decide +kernel
theorem dX3_goOver_12 : decode cX3_goOver 12 = .ok (.invokevirtual 396, 3) := by decide +kernel
theorem dX3_goOver_15 : decode cX3_goOver 15 = .ok (.iconst 4, 1) := by decide +kernel
theorem dX3_goOver_16 : decode cX3_goOver 16 = .ok (.if_icmp .ge 9, 3) := by decide +kernel
theorem dX3_goOver_19 : decode cX3_goOver 19 = .ok (.aload_n 0, 1) := by decide +kernel
theorem dX3_goOver_20 : decode cX3_goOver 20 = .ok (.iconst 1, 1) := by decide +kernel
theorem dX3_goOver_21 : decode cX3_goOver 21 = .ok (.invokevirtual 313, 3) := by decide +kernel
theorem dX3_goOver_24 : decode cX3_goOver 24 = .ok (.return_, 1) := by decide +kernel
theorem dX3_goOver_25 : decode cX3_goOver 25 = .ok (.iload_n 3, 1) := by decide +kernel
theorem dX3_goOver_26 : decode cX3_goOver 26 = .ok (.ifCond .eq 79, 3) := by decide +kernel
theorem dX3_goOver_29 : decode cX3_goOver 29 = .ok (.aload_n 0, 1) := by decide +kernel
theorem dX3_goOver_30 : decode cX3_goOver 30 = .ok (.getfield 39, 3) := by decide +kernel
theorem dX3_goOver_33 : decode cX3_goOver 33 = .ok (.iload 4, 2) := by decide +kernel
theorem dX3_goOver_35 : decode cX3_goOver 35 = .ok (.invokevirtual 316, 3) := by decide +kernel
theorem dX3_goOver_38 : decode cX3_goOver 38 = .ok (.istore 5, 2) := by decide +kernel
theorem dX3_goOver_40 : decode cX3_goOver 40 = .ok (.aload_n 0, 1) := by decide +kernel
theorem dX3_goOver_41 : decode cX3_goOver 41 = .ok (.getfield 14, 3) := by decide +kernel
theorem dX3_goOver_44 : decode cX3_goOver 44 = .ok (.getfield 108, 3) := by decide +kernel
theorem dX3_goOver_47 : decode cX3_goOver 47 = .ok (.iload 5, 2) := by decide +kernel
theorem dX3_goOver_49 : decode cX3_goOver 49 = .ok (.iadd, 1) := by decide +kernel
theorem dX3_goOver_50 : decode cX3_goOver 50 = .ok (.aload_n 0, 1) := by decide +kernel
theorem dX3_goOver_51 : decode cX3_goOver 51 = .ok (.getfield 14, 3) := by decide +kernel
theorem dX3_goOver_54 : decode cX3_goOver 54 = .ok (.getfield 114, 3) := by decide +kernel
theorem dX3_goOver_57 : decode cX3_goOver 57 = .ok (.iadd, 1) := by decide +kernel
theorem dX3_goOver_58 : decode cX3_goOver 58 = .ok (.ldc_w 394, 3) := by decide +kernel
theorem dX3_goOver_61 : decode cX3_goOver 61 = .ok (.if_icmp .le 10, 3) := by decide +kernel
theorem dX3_goOver_64 : decode cX3_goOver 64 = .ok (.aload_n 0, 1) := by decide +kernel
theorem dX3_goOver_65 : decode cX3_goOver 65 = .ok (.bipush 6, 2) := by decide +kernel
theorem dX3_goOver_67 : decode cX3_goOver 67 = .ok (.invokevirtual 313, 3) := by decide +kernel
theorem dX3_goOver_70 : decode cX3_goOver 70 = .ok (.return_, 1) := by decide +kernel
theorem dX3_goOver_71 : decode cX3_goOver 71 = .ok (.aload_n 0, 1) := by decide +kernel
theorem dX3_goOver_72 : decode cX3_goOver 72 = .ok (.getfield 14, 3) := by decide +kernel
theorem dX3_goOver_75 : decode cX3_goOver 75 = .ok (.aload_n 0, 1) := by decide +kernel
theorem dX3_goOver_76 : decode cX3_goOver 76 = .ok (.getfield 14, 3) := by decide +kernel
theorem dX3_goOver_79 : decode cX3_goOver 79 = .ok (.getfield 108, 3) := by decide +kernel
theorem dX3_goOver_82 : decode cX3_goOver 82 = .ok (.iload 5, 2) := by decide +kernel
theorem dX3_goOver_84 : decode cX3_goOver 84 = .ok (.iadd, 1) := by decide +kernel
theorem dX3_goOver_85 : decode cX3_goOver 85 = .ok (.putfield 108, 3) := by decide +kernel
theorem dX3_goOver_88 : decode cX3_goOver 88 = .ok (.aload_n 0, 1) := by decide +kernel
theorem dX3_goOver_89 : decode cX3_goOver 89 = .ok (.getfield 14, 3) := by decide +kernel
theorem dX3_goOver_92 : decode cX3_goOver 92 = .ok (.aload_n 0, 1) := by decide +kernel
theorem dX3_goOver_93 : decode cX3_goOver 93 = .ok (.getfield 14, 3) := by decide +kernel
theorem dX3_goOver_96 : decode cX3_goOver 96 = .ok (.getfield 111, 3) := by decide +kernel
theorem dX3_goOver_99 : decode cX3_goOver 99 = .ok (.iload 5, 2) := by decide +kernel
theorem dX3_goOver_101 : decode cX3_goOver 101 = .ok (.iadd, 1) := by decide +kernel
theorem dX3_goOver_102 : decode cX3_goOver 102 = .ok (.putfield 111, 3) := by decide +kernel
theorem dX3_goOver_105 : decode cX3_goOver 105 = .ok (.aload_n 1, 1) := by decide +kernel
theorem dX3_goOver_106 : decode cX3_goOver 106 = .ok (.iload_n 2, 1) := by decide +kernel
theorem dX3_goOver_107 : decode cX3_goOver 107 = .ok (.iload 4, 2) := by decide +kernel
theorem dX3_goOver_109 : decode cX3_goOver 109 = .ok (.iastore, 1) := by decide +kernel
theorem dX3_goOver_110 : decode cX3_goOver 110 = .ok (.aload_n 1, 1) := by decide +kernel
theorem dX3_goOver_111 : decode cX3_goOver 111 = .ok (.iload_n 2, 1) := by decide +kernel
theorem dX3_goOver_112 : decode cX3_goOver 112 = .ok (.iconst 1, 1) := by decide +kernel
theorem dX3_goOver_113 : decode cX3_goOver 113 = .ok (.iadd, 1) := by decide +kernel
theorem dX3_goOver_114 : decode cX3_goOver 114 = .ok (.iconst 0, 1) := by decide +kernel
theorem dX3_goOver_115 : decode cX3_goOver 115 = .ok (.invokestatic 182, 3) := by decide +kernel
theorem dX3_goOver_118 : decode cX3_goOver 118 = .ok (.iastore, 1) := by decide +kernel
theorem dX3_goOver_119 : decode cX3_goOver 119 = .ok (.return_, 1) := by decide +kernel
theorem dX3_isRoomFor_0 : decode cX3_isRoomFor 0 = .ok (.aload_n 0, 1) := by decide +kernel
theorem dX3_isRoomFor_1 : decode cX3_isRoomFor 1 = .ok (.aload_n 0, 1) := by decide +kernel
theorem dX3_isRoomFor_2 : decode cX3_isRoomFor 2 = .ok (.getfield 18, 3) := by decide +kernel
theorem dX3_isRoomFor_5 : decode cX3_isRoomFor 5 = .ok (.aload_n 0, 1) := by decide +kernel
theorem dX3_isRoomFor_6 : decode cX3_isRoomFor 6 = .ok (.getfield 14, 3) := by decide +kernel
theorem dX3_isRoomFor_9 : decode cX3_isRoomFor 9 = .ok (.getfield 84, 3) := by decide +kernel
theorem dX3_isRoomFor_12 : decode cX3_isRoomFor 12 = .ok (.iload_n 1, 1) := by decide +kernel
theorem dX3_isRoomFor_13 : decode cX3_isRoomFor 13 = .ok (.iadd, 1) := by decide +kernel
theorem dX3_isRoomFor_14 : decode cX3_isRoomFor 14 = .ok (.ldc_w 305, 3) := by decide +kernel
theorem dX3_isRoomFor_17 : decode cX3_isRoomFor 17 = .ok (.invokestatic 306, 3) := by decide +kernel
theorem dX3_isRoomFor_20 : decode cX3_isRoomFor 20 = .ok (.putfield 18, 3) := by decide +kernel
theorem dX3_isRoomFor_23 : decode cX3_isRoomFor 23 = .ok (.aload_n 0, 1) := by decide +kernel
theorem dX3_isRoomFor_24 : decode cX3_isRoomFor 24 = .ok (.getfield 14, 3) := by decide +kernel
theorem dX3_isRoomFor_27 : decode cX3_isRoomFor 27 = .ok (.getfield 84, 3) := by decide +kernel
theorem dX3_isRoomFor_30 : decode cX3_isRoomFor 30 = .ok (.iload_n 1, 1) := by decide +kernel
theorem dX3_isRoomFor_31 : decode cX3_isRoomFor 31 = .ok (.iadd, 1) := by decide +kernel
theorem dX3_isRoomFor_32 : decode cX3_isRoomFor 32 = .ok (.aload_n 0, 1) := by decide +kernel
theorem dX3_isRoomFor_33 : decode cX3_isRoomFor 33 = .ok (.getfield 18, 3) := by decide +kernel
theorem dX3_isRoomFor_36 : decode cX3_isRoomFor 36 = .ok (.arraylength, 1) := by decide +kernel
theorem dX3_isRoomFor_37 : decode cX3_isRoomFor 37 = .ok (.if_icmp .le 16, 3) := by decide +kernel
theorem dX3_isRoomFor_40 : decode cX3_isRoomFor 40 = .ok (.aload_n 0, 1) := by decide +kernel
theorem dX3_isRoomFor_41 : decode cX3_isRoomFor 41 = .ok (.bipush 6, 2) := by decide +kernel
theorem dX3_isRoomFor_43 : decode cX3_isRoomFor 43 = .ok (.putfield 149, 3) := by decide +kernel
theorem dX3_isRoomFor_46 : decode cX3_isRoomFor 46 = .ok (.aload_n 0, 1) := by decide +kernel
theorem dX3_isRoomFor_47 : decode cX3_isRoomFor 47 = .ok (.iconst 1, 1) := by decide +kernel
theorem dX3_isRoomFor_48 : decode cX3_isRoomFor 48 = .ok (.putfield 225, 3) := by decide +kernel
theorem dX3_isRoomFor_51 : decode cX3_isRoomFor 51 = .ok (.iconst 0, 1) := by decide +kernel
theorem dX3_isRoomFor_52 : decode cX3_isRoomFor 52 = .ok (.ireturn, 1) := by decide +kernel
theorem dX3_isRoomFor_53 : decode cX3_isRoomFor 53 = .ok (.iconst 1, 1) := by decide +kernel
theorem dX3_isRoomFor_54 : decode cX3_isRoomFor 54 = .ok (.ireturn, 1) := by decide +kernel
theorem dX3_iterate_0 : decode cX3_iterate 0 = .ok (.iload_n 1, 1) := by decide +kernel
theorem dX3_iterate_1 : decode cX3_iterate 1 = .ok (.bipush 69, 2) := by decide +kernel
theorem dX3_iterate_3 : decode cX3_iterate 3 = .ok (.if_icmp .lt 7, 3) := by decide +kernel
theorem dX3_iterate_6 : decode cX3_iterate 6 = .ok (.iconst 1, 1) := by decide +kernel
theorem dX3_iterate_7 : decode cX3_iterate 7 = .ok (.goto 4, 3) := by decide +kernel
theorem dX3_iterate_10 : decode cX3_iterate 10 = .ok (.iconst 0, 1) := by decide +kernel
theorem dX3_iterate_11 : decode cX3_iterate 11 = .ok (.istore 4, 2) := by decide +kernel
theorem dX3_iterate_13 : decode cX3_iterate 13 = .ok (.iload 4, 2) := by decide +kernel
theorem dX3_iterate_15 : decode cX3_iterate 15 = .ok (.ifCond .eq 10, 3) := by decide +kernel
theorem dX3_iterate_18 : decode cX3_iterate 18 = .ok (.aload_n 0, 1) := by decide +kernel
theorem dX3_iterate_19 : decode cX3_iterate 19 = .ok (.getfield 18, 3) := by decide +kernel
theorem dX3_iterate_22 : decode cX3_iterate 22 = .ok (.goto 7, 3) := by decide +kernel
theorem dX3_iterate_25 : decode cX3_iterate 25 = .ok (.aload_n 0, 1) := by decide +kernel
theorem dX3_iterate_26 : decode cX3_iterate 26 = .ok (.getfield 29, 3) := by decide +kernel
theorem dX3_iterate_29 : decode cX3_iterate 29 = .ok (.astore 5, 2) := by decide +kernel
theorem dX3_iterate_31 : decode cX3_iterate 31 = .ok (.iload 4, 2) := by decide +kernel
theorem dX3_iterate_33 : decode cX3_iterate 33 = .ok (.ifCond .eq 15, 3) := by decide +kernel
theorem dX3_iterate_36 : decode cX3_iterate 36 = .ok (.aload_n 0, 1) := by decide +kernel
theorem dX3_iterate_37 : decode cX3_iterate 37 = .ok (.getfield 14, 3) := by decide +kernel
theorem dX3_iterate_40 : decode cX3_iterate 40 = .ok (.getfield 81, 3) := by decide +kernel
theorem dX3_iterate_43 : decode cX3_iterate 43 = .ok (.iconst 4, 1) := by decide +kernel
theorem dX3_iterate_44 : decode cX3_iterate 44 = .ok (.iadd, 1) := by decide +kernel
theorem dX3_iterate_45 : decode cX3_iterate 45 = .ok (.goto 7, 3) := by decide +kernel
theorem dX3_iterate_48 : decode cX3_iterate 48 = .ok (.aload_n 0, 1) := by decide +kernel
theorem dX3_iterate_49 : decode cX3_iterate 49 = .ok (.getfield 235, 3) := by decide +kernel
theorem dX3_iterate_52 : decode cX3_iterate 52 = .ok (.iload_n 2, 1) := by decide +kernel
theorem dX3_iterate_53 : decode cX3_iterate 53 = .ok (.iadd, 1) := by decide +kernel
theorem dX3_iterate_54 : decode cX3_iterate 54 = .ok (.istore 6, 2) := by decide +kernel
theorem dX3_iterate_56 : decode cX3_iterate 56 = .ok (.iload_n 1, 1) := by decide +kernel
theorem dX3_iterate_57 : decode cX3_iterate 57 = .ok (.tableswitch 187 64 72 #[51, 64, 78, 104, 138, 51, 64, 90, 104], 51) := by decide +kernel
theorem dX3_iterate_108 : decode cX3_iterate 108 = .ok (.aload_n 0, 1) := by decide +kernel
theorem dX3_iterate_109 : decode cX3_iterate 109 = .ok (.aload 5, 2) := by decide +kernel
theorem dX3_iterate_111 : decode cX3_iterate 111 = .ok (.iload 6, 2) := by decide +kernel
theorem dX3_iterate_113 : decode cX3_iterate 113 = .ok (.iload 4, 2) := by decide +kernel
theorem dX3_iterate_115 : decode cX3_iterate 115 = .ok (.invokevirtual 496, 3) := by decide +kernel
theorem dX3_iterate_118 : decode cX3_iterate 118 = .ok (.goto 174, 3) := by decide +kernel
theorem dX3_iterate_121 : decode cX3_iterate 121 = .ok (.aload_n 0, 1) := by decide +kernel
theorem dX3_iterate_122 : decode cX3_iterate 122 = .ok (.aload 5, 2) := by decide +kernel
theorem dX3_iterate_124 : decode cX3_iterate 124 = .ok (.iload 6, 2) := by decide +kernel
theorem dX3_iterate_126 : decode cX3_iterate 126 = .ok (.iload_n 3, 1) := by decide +kernel
theorem dX3_iterate_127 : decode cX3_iterate 127 = .ok (.iload 4, 2) := by decide +kernel
theorem dX3_iterate_129 : decode cX3_iterate 129 = .ok (.invokevirtual 500, 3) := by decide +kernel
theorem dX3_iterate_132 : decode cX3_iterate 132 = .ok (.goto 160, 3) := by decide +kernel
theorem dX3_iterate_135 : decode cX3_iterate 135 = .ok (.aload 5, 2) := by decide +kernel
theorem dX3_iterate_137 : decode cX3_iterate 137 = .ok (.iload 6, 2) := by decide +kernel
theorem dX3_iterate_139 : decode cX3_iterate 139 = .ok (.aload_n 0, 1) := by decide +kernel
theorem dX3_iterate_140 : decode cX3_iterate 140 = .ok (.invokevirtual 339, 3) := by decide +kernel
theorem dX3_iterate_143 : decode cX3_iterate 143 = .ok (.iastore, 1) := by decide +kernel
theorem dX3_iterate_144 : decode cX3_iterate 144 = .ok (.goto 148, 3) := by decide +kernel
theorem dX3_iterate_147 : decode cX3_iterate 147 = .ok (.aload_n 0, 1) := by decide +kernel
theorem dX3_iterate_148 : decode cX3_iterate 148 = .ok (.iload 6, 2) := by decide +kernel
theorem dX3_iterate_150 : decode cX3_iterate 150 = .ok (.aload_n 0, 1) := by decide +kernel
theorem dX3_iterate_151 : decode cX3_iterate 151 = .ok (.invokevirtual 339, 3) := by decide +kernel
theorem dX3_iterate_154 : decode cX3_iterate 154 = .ok (.iconst 1, 1) := by decide +kernel
theorem dX3_iterate_155 : decode cX3_iterate 155 = .ok (.invokevirtual 504, 3) := by decide +kernel
theorem dX3_iterate_158 : decode cX3_iterate 158 = .ok (.goto 134, 3) := by decide +kernel
theorem dX3_iterate_161 : decode cX3_iterate 161 = .ok (.aload_n 0, 1) := by decide +kernel
theorem dX3_iterate_162 : decode cX3_iterate 162 = .ok (.aload 5, 2) := by decide +kernel
theorem dX3_iterate_164 : decode cX3_iterate 164 = .ok (.iload 6, 2) := by decide +kernel
theorem dX3_iterate_166 : decode cX3_iterate 166 = .ok (.aload_n 0, 1) := by decide +kernel
theorem dX3_iterate_167 : decode cX3_iterate 167 = .ok (.getfield 58, 3) := by decide +kernel
theorem dX3_iterate_170 : decode cX3_iterate 170 = .ok (.getfield 241, 3) := by decide +kernel
theorem dX3_iterate_173 : decode cX3_iterate 173 = .ok (.iload_n 3, 1) := by decide +kernel
theorem dX3_iterate_174 : decode cX3_iterate 174 = .ok (.iconst 1, 1) := by decide +kernel
theorem dX3_iterate_175 : decode cX3_iterate 175 = .ok (.iadd, 1) := by decide +kernel
theorem dX3_iterate_176 : decode cX3_iterate 176 = .ok (.iaload, 1) := by decide +kernel
theorem dX3_iterate_177 : decode cX3_iterate 177 = .ok (.iload 4, 2) := by decide +kernel
theorem dX3_iterate_179 : decode cX3_iterate 179 = .ok (.invokevirtual 507, 3) := by decide +kernel
theorem dX3_iterate_182 : decode cX3_iterate 182 = .ok (.aload_n 0, 1) := by decide +kernel
theorem dX3_iterate_183 : decode cX3_iterate 183 = .ok (.getfield 14, 3) := by decide +kernel
theorem dX3_iterate_186 : decode cX3_iterate 186 = .ok (.iload_n 3, 1) := by decide +kernel
theorem dX3_iterate_187 : decode cX3_iterate 187 = .ok (.iconst 2, 1) := by decide +kernel
theorem dX3_iterate_188 : decode cX3_iterate 188 = .ok (.iadd, 1) := by decide +kernel
theorem dX3_iterate_189 : decode cX3_iterate 189 = .ok (.putfield 78, 3) := by decide +kernel
theorem dX3_iterate_192 : decode cX3_iterate 192 = .ok (.goto 100, 3) := by decide +kernel
theorem dX3_iterate_195 : decode cX3_iterate 195 = .ok (.aload_n 0, 1) := by decide +kernel
theorem dX3_iterate_196 : decode cX3_iterate 196 = .ok (.getfield 58, 3) := by decide +kernel
theorem dX3_iterate_199 : decode cX3_iterate 199 = .ok (.getfield 241, 3) := by decide +kernel
theorem dX3_iterate_202 : decode cX3_iterate 202 = .ok (.iload_n 3, 1) := by decide +kernel
theorem dX3_iterate_203 : decode cX3_iterate 203 = .ok (.iconst 1, 1) := by decide +kernel
theorem dX3_iterate_204 : decode cX3_iterate 204 = .ok (.iadd, 1) := by decide +kernel
theorem dX3_iterate_205 : decode cX3_iterate 205 = .ok (.iaload, 1) := by decide +kernel
theorem dX3_iterate_206 : decode cX3_iterate 206 = .ok (.istore 7, 2) := by decide +kernel
theorem dX3_iterate_208 : decode cX3_iterate 208 = .ok (.iload 7, 2) := by decide +kernel
theorem dX3_iterate_210 : decode cX3_iterate 210 = .ok (.ifCond .le 21, 3) := by decide +kernel
theorem dX3_iterate_213 : decode cX3_iterate 213 = .ok (.aload 5, 2) := by decide +kernel
theorem dX3_iterate_215 : decode cX3_iterate 215 = .ok (.iload 6, 2) := by decide +kernel
theorem dX3_iterate_217 : decode cX3_iterate 217 = .ok (.iload 7, 2) := by decide +kernel
theorem dX3_iterate_219 : decode cX3_iterate 219 = .ok (.iadd, 1) := by decide +kernel
theorem dX3_iterate_220 : decode cX3_iterate 220 = .ok (.iconst 1, 1) := by decide +kernel
theorem dX3_iterate_221 : decode cX3_iterate 221 = .ok (.isub, 1) := by decide +kernel
theorem dX3_iterate_222 : decode cX3_iterate 222 = .ok (.ldc 136, 2) := by decide +kernel
theorem dX3_iterate_224 : decode cX3_iterate 224 = .ok (.iastore, 1) := by decide +kernel
theorem dX3_iterate_225 : decode cX3_iterate 225 = .ok (.iinc 7 (-1), 3) := by decide +kernel
theorem dX3_iterate_228 : decode cX3_iterate 228 = .ok (.goto (-20), 3) := by decide +kernel
theorem dX3_iterate_231 : decode cX3_iterate 231 = .ok (.aload_n 0, 1) := by decide +kernel
theorem dX3_iterate_232 : decode cX3_iterate 232 = .ok (.getfield 14, 3) := by decide +kernel
theorem dX3_iterate_235 : decode cX3_iterate 235 = .ok (.iload_n 3, 1) := by decide +kernel
theorem dX3_iterate_236 : decode cX3_iterate 236 = .ok (.iconst 2, 1) := by decide +kernel
theorem dX3_iterate_237 : decode cX3_iterate 237 = .ok (.iadd, 1) := by decide +kernel
theorem dX3_iterate_238 : decode cX3_iterate 238 = .ok (.putfield 78, 3) := by decide +kernel
theorem dX3_iterate_241 : decode cX3_iterate 241 = .ok (.goto 51, 3) := by decide +kernel
theorem dX3_iterate_244 : decode cX3_iterate 244 = .ok (.aload_n 0, 1) := by decide +kernel
theorem dX3_iterate_245 : decode cX3_iterate 245 = .ok (.iload 6, 2) := by decide +kernel
theorem dX3_iterate_247 : decode cX3_iterate 247 = .ok (.aload_n 0, 1) := by decide +kernel
theorem dX3_iterate_248 : decode cX3_iterate 248 = .ok (.getfield 14, 3) := by decide +kernel
theorem dX3_iterate_251 : decode cX3_iterate 251 = .ok (.getfield 81, 3) := by decide +kernel
theorem dX3_iterate_254 : decode cX3_iterate 254 = .ok (.iconst 4, 1) := by decide +kernel
theorem dX3_iterate_255 : decode cX3_iterate 255 = .ok (.iadd, 1) := by decide +kernel
theorem dX3_iterate_256 : decode cX3_iterate 256 = .ok (.aload_n 0, 1) := by decide +kernel
theorem dX3_iterate_257 : decode cX3_iterate 257 = .ok (.getfield 58, 3) := by decide +kernel
theorem dX3_iterate_260 : decode cX3_iterate 260 = .ok (.getfield 241, 3) := by decide +kernel
theorem dX3_iterate_263 : decode cX3_iterate 263 = .ok (.iload_n 3, 1) := by decide +kernel
theorem dX3_iterate_264 : decode cX3_iterate 264 = .ok (.iconst 1, 1) := by decide +kernel
theorem dX3_iterate_265 : decode cX3_iterate 265 = .ok (.iadd, 1) := by decide +kernel
theorem dX3_iterate_266 : decode cX3_iterate 266 = .ok (.iaload, 1) := by decide +kernel
theorem dX3_iterate_267 : decode cX3_iterate 267 = .ok (.iadd, 1) := by decide +kernel
theorem dX3_iterate_268 : decode cX3_iterate 268 = .ok (.aload_n 0, 1) := by decide +kernel
theorem dX3_iterate_269 : decode cX3_iterate 269 = .ok (.getfield 58, 3) := by decide +kernel
theorem dX3_iterate_272 : decode cX3_iterate 272 = .ok (.getfield 241, 3) := by decide +kernel
theorem dX3_iterate_275 : decode cX3_iterate 275 = .ok (.iload_n 3, 1) := by decide +kernel
theorem dX3_iterate_276 : decode cX3_iterate 276 = .ok (.iconst 2, 1) := by decide +kernel
theorem dX3_iterate_277 : decode cX3_iterate 277 = .ok (.iadd, 1) := by decide +kernel
theorem dX3_iterate_278 : decode cX3_iterate 278 = .ok (.iaload, 1) := by decide +kernel
theorem dX3_iterate_279 : decode cX3_iterate 279 = .ok (.invokevirtual 510, 3) := by decide +kernel
theorem dX3_iterate_282 : decode cX3_iterate 282 = .ok (.aload_n 0, 1) := by decide +kernel
theorem dX3_iterate_283 : decode cX3_iterate 283 = .ok (.getfield 14, 3) := by decide +kernel
theorem dX3_iterate_286 : decode cX3_iterate 286 = .ok (.iload_n 3, 1) := by decide +kernel
theorem dX3_iterate_287 : decode cX3_iterate 287 = .ok (.iconst 3, 1) := by decide +kernel
theorem dX3_iterate_288 : decode cX3_iterate 288 = .ok (.iadd, 1) := by decide +kernel
theorem dX3_iterate_289 : decode cX3_iterate 289 = .ok (.putfield 78, 3) := by decide +kernel
theorem dX3_iterate_292 : decode cX3_iterate 292 = .ok (.return_, 1) := by decide +kernel
theorem dX3_joinSet_0 : decode cX3_joinSet 0 = .ok (.aload_n 0, 1) := by decide +kernel
theorem dX3_joinSet_1 : decode cX3_joinSet 1 = .ok (.getfield 14, 3) := by decide +kernel
theorem dX3_joinSet_4 : decode cX3_joinSet 4 = .ok (.getfield 84, 3) := by decide +kernel
theorem dX3_joinSet_7 : decode cX3_joinSet 7 = .ok (.iload_n 1, 1) := by decide +kernel
theorem dX3_joinSet_8 : decode cX3_joinSet 8 = .ok (.isub, 1) := by decide +kernel
theorem dX3_joinSet_9 : decode cX3_joinSet 9 = .ok (.istore_n 2, 1) := by decide +kernel
theorem dX3_joinSet_10 : decode cX3_joinSet 10 = .ok (.iconst 0, 1) := by decide +kernel
theorem dX3_joinSet_11 : decode cX3_joinSet 11 = .ok (.istore_n 3, 1) := by decide +kernel
theorem dX3_joinSet_12 : decode cX3_joinSet 12 = .ok (.iconst 1, 1) := by decide +kernel
theorem dX3_joinSet_13 : decode cX3_joinSet 13 = .ok (.istore 4, 2) := by decide +kernel
theorem dX3_joinSet_15 : decode cX3_joinSet 15 = .ok (.iconst 0, 1) := by decide +kernel
theorem dX3_joinSet_16 : decode cX3_joinSet 16 = .ok (.istore 5, 2) := by decide +kernel
theorem dX3_joinSet_18 : decode cX3_joinSet 18 = .ok (.iload_n 2, 1) := by decide +kernel
theorem dX3_joinSet_19 : decode cX3_joinSet 19 = .ok (.istore 6, 2) := by decide +kernel
theorem dX3_joinSet_21 : decode cX3_joinSet 21 = .ok (.iload 6, 2) := by decide +kernel
theorem dX3_joinSet_23 : decode cX3_joinSet 23 = .ok (.iload_n 2, 1) := by decide +kernel
theorem dX3_joinSet_24 : decode cX3_joinSet 24 = .ok (.iload_n 1, 1) := by decide +kernel
theorem dX3_joinSet_25 : decode cX3_joinSet 25 = .ok (.iadd, 1) := by decide +kernel
theorem dX3_joinSet_26 : decode cX3_joinSet 26 = .ok (.if_icmp .ge 83, 3) := by decide +kernel
theorem dX3_joinSet_29 : decode cX3_joinSet 29 = .ok (.aload_n 0, 1) := by decide +kernel
theorem dX3_joinSet_30 : decode cX3_joinSet 30 = .ok (.getfield 18, 3) := by decide +kernel
theorem dX3_joinSet_33 : decode cX3_joinSet 33 = .ok (.iload 6, 2) := by decide +kernel
theorem dX3_joinSet_35 : decode cX3_joinSet 35 = .ok (.iaload, 1) := by decide +kernel
theorem dX3_joinSet_36 : decode cX3_joinSet 36 = .ok (.istore 7, 2) := by decide +kernel
theorem dX3_joinSet_38 : decode cX3_joinSet 38 = .ok (.iload 5, 2) := by decide +kernel
theorem dX3_joinSet_40 : decode cX3_joinSet 40 = .ok (.ifCond .ne 10, 3) := by decide +kernel
theorem dX3_joinSet_43 : decode cX3_joinSet 43 = .ok (.iload 7, 2) := by decide +kernel
theorem dX3_joinSet_45 : decode cX3_joinSet 45 = .ok (.ldc 136, 2) := by decide +kernel
theorem dX3_joinSet_47 : decode cX3_joinSet 47 = .ok (.if_icmp .ne 7, 3) := by decide +kernel
theorem dX3_joinSet_50 : decode cX3_joinSet 50 = .ok (.iconst 1, 1) := by decide +kernel
theorem dX3_joinSet_51 : decode cX3_joinSet 51 = .ok (.goto 4, 3) := by decide +kernel
theorem dX3_joinSet_54 : decode cX3_joinSet 54 = .ok (.iconst 0, 1) := by decide +kernel
theorem dX3_joinSet_55 : decode cX3_joinSet 55 = .ok (.istore 5, 2) := by decide +kernel
theorem dX3_joinSet_57 : decode cX3_joinSet 57 = .ok (.iload 4, 2) := by decide +kernel
theorem dX3_joinSet_59 : decode cX3_joinSet 59 = .ok (.sipush 1000, 3) := by decide +kernel
theorem dX3_joinSet_62 : decode cX3_joinSet 62 = .ok (.if_icmp .gt 41, 3) := by decide +kernel
theorem dX3_joinSet_65 : decode cX3_joinSet 65 = .ok (.aload_n 0, 1) := by decide +kernel
theorem dX3_joinSet_66 : decode cX3_joinSet 66 = .ok (.getfield 47, 3) := by decide +kernel
theorem dX3_joinSet_69 : decode cX3_joinSet 69 = .ok (.aload_n 0, 1) := by decide +kernel
theorem dX3_joinSet_70 : decode cX3_joinSet 70 = .ok (.getfield 18, 3) := by decide +kernel
theorem dX3_joinSet_73 : decode cX3_joinSet 73 = .ok (.iload_n 2, 1) := by decide +kernel
theorem dX3_joinSet_74 : decode cX3_joinSet 74 = .ok (.iload_n 3, 1) := by decide +kernel
theorem dX3_joinSet_75 : decode cX3_joinSet 75 = .ok (.iload_n 2, 1) := by decide +kernel
theorem dX3_joinSet_76 : decode cX3_joinSet 76 = .ok (.iload_n 3, 1) := by decide +kernel
theorem dX3_joinSet_77 : decode cX3_joinSet 77 = .ok (.iadd, 1) := by decide +kernel
theorem dX3_joinSet_78 : decode cX3_joinSet 78 = .ok (.iload 7, 2) := by decide +kernel
theorem dX3_joinSet_80 : decode cX3_joinSet 80 = .ok (.invokevirtual 536, 3) := by decide +kernel
theorem dX3_joinSet_83 : decode cX3_joinSet 83 = .ok (.ifCond .eq 20, 3) := by decide +kernel
theorem dX3_joinSet_86 : decode cX3_joinSet 86 = .ok (.iinc 3 1, 3) := by decide +kernel
theorem dX3_joinSet_89 : decode cX3_joinSet 89 = .ok (.iload 4, 2) := by decide +kernel
theorem dX3_joinSet_91 : decode cX3_joinSet 91 = .ok (.aload_n 0, 1) := by decide +kernel
theorem dX3_joinSet_92 : decode cX3_joinSet 92 = .ok (.getfield 39, 3) := by decide +kernel
theorem dX3_joinSet_95 : decode cX3_joinSet 95 = .ok (.iload 7, 2) := by decide +kernel
theorem dX3_joinSet_97 : decode cX3_joinSet 97 = .ok (.invokevirtual 316, 3) := by decide +kernel
theorem dX3_joinSet_100 : decode cX3_joinSet 100 = .ok (.iadd, 1) := by decide +kernel
theorem dX3_joinSet_101 : decode cX3_joinSet 101 = .ok (.istore 4, 2) := by decide +kernel
theorem dX3_joinSet_103 : decode cX3_joinSet 103 = .ok (.iinc 6 1, 3) := by decide +kernel
theorem dX3_joinSet_106 : decode cX3_joinSet 106 = .ok (.goto (-85), 3) := by decide +kernel
theorem dX3_joinSet_109 : decode cX3_joinSet 109 = .ok (.aload_n 0, 1) := by decide +kernel
theorem dX3_joinSet_110 : decode cX3_joinSet 110 = .ok (.getfield 18, 3) := by decide +kernel
theorem dX3_joinSet_113 : decode cX3_joinSet 113 = .ok (.iload_n 2, 1) := by decide +kernel
theorem dX3_joinSet_114 : decode cX3_joinSet 114 = .ok (.iload 5, 2) := by decide +kernel
theorem dX3_joinSet_116 : decode cX3_joinSet 116 = .ok (.ifCond .eq 8, 3) := by decide +kernel
theorem dX3_joinSet_119 : decode cX3_joinSet 119 = .ok (.ldc 136, 2) := by decide +kernel
theorem dX3_joinSet_121 : decode cX3_joinSet 121 = .ok (.goto 9, 3) := by decide +kernel
theorem dX3_joinSet_124 : decode cX3_joinSet 124 = .ok (.aload_n 0, 1) := by decide +kernel
theorem dX3_joinSet_125 : decode cX3_joinSet 125 = .ok (.getfield 18, 3) := by decide +kernel
theorem dX3_joinSet_128 : decode cX3_joinSet 128 = .ok (.iload_n 2, 1) := by decide +kernel
theorem dX3_joinSet_129 : decode cX3_joinSet 129 = .ok (.iaload, 1) := by decide +kernel
theorem dX3_joinSet_130 : decode cX3_joinSet 130 = .ok (.iastore, 1) := by decide +kernel
theorem dX3_joinSet_131 : decode cX3_joinSet 131 = .ok (.aload_n 0, 1) := by decide +kernel
theorem dX3_joinSet_132 : decode cX3_joinSet 132 = .ok (.getfield 14, 3) := by decide +kernel
theorem dX3_joinSet_135 : decode cX3_joinSet 135 = .ok (.iload_n 2, 1) := by decide +kernel
theorem dX3_joinSet_136 : decode cX3_joinSet 136 = .ok (.iload_n 3, 1) := by decide +kernel
theorem dX3_joinSet_137 : decode cX3_joinSet 137 = .ok (.iadd, 1) := by decide +kernel
theorem dX3_joinSet_138 : decode cX3_joinSet 138 = .ok (.putfield 84, 3) := by decide +kernel
theorem dX3_joinSet_141 : decode cX3_joinSet 141 = .ok (.aload_n 0, 1) := by decide +kernel
theorem dX3_joinSet_142 : decode cX3_joinSet 142 = .ok (.iload_n 3, 1) := by decide +kernel
theorem dX3_joinSet_143 : decode cX3_joinSet 143 = .ok (.invokestatic 182, 3) := by decide +kernel
theorem dX3_joinSet_146 : decode cX3_joinSet 146 = .ok (.invokevirtual 322, 3) := by decide +kernel
theorem dX3_joinSet_149 : decode cX3_joinSet 149 = .ok (.aload_n 0, 1) := by decide +kernel
theorem dX3_joinSet_150 : decode cX3_joinSet 150 = .ok (.iload 4, 2) := by decide +kernel
theorem dX3_joinSet_152 : decode cX3_joinSet 152 = .ok (.sipush 1000, 3) := by decide +kernel
theorem dX3_joinSet_155 : decode cX3_joinSet 155 = .ok (.if_icmp .le 9, 3) := by decide +kernel
theorem dX3_joinSet_158 : decode cX3_joinSet 158 = .ok (.sipush 3000, 3) := by decide +kernel
theorem dX3_joinSet_161 : decode cX3_joinSet 161 = .ok (.goto 5, 3) := by decide +kernel
theorem dX3_joinSet_164 : decode cX3_joinSet 164 = .ok (.iload 4, 2) := by decide +kernel
theorem dX3_joinSet_166 : decode cX3_joinSet 166 = .ok (.invokestatic 182, 3) := by decide +kernel
theorem dX3_joinSet_169 : decode cX3_joinSet 169 = .ok (.invokevirtual 322, 3) := by decide +kernel
theorem dX3_joinSet_172 : decode cX3_joinSet 172 = .ok (.return_, 1) := by decide +kernel
theorem dX3_joinTuple_0 : decode cX3_joinTuple 0 = .ok (.iconst 1, 1) := by decide +kernel
theorem dX3_joinTuple_1 : decode cX3_joinTuple 1 = .ok (.istore_n 2, 1) := by decide +kernel
theorem dX3_joinTuple_2 : decode cX3_joinTuple 2 = .ok (.iconst 0, 1) := by decide +kernel
theorem dX3_joinTuple_3 : decode cX3_joinTuple 3 = .ok (.istore_n 3, 1) := by decide +kernel
theorem dX3_joinTuple_4 : decode cX3_joinTuple 4 = .ok (.aload_n 0, 1) := by decide +kernel
theorem dX3_joinTuple_5 : decode cX3_joinTuple 5 = .ok (.getfield 14, 3) := by decide +kernel
theorem dX3_joinTuple_8 : decode cX3_joinTuple 8 = .ok (.getfield 84, 3) := by decide +kernel
theorem dX3_joinTuple_11 : decode cX3_joinTuple 11 = .ok (.iload_n 1, 1) := by decide +kernel
theorem dX3_joinTuple_12 : decode cX3_joinTuple 12 = .ok (.isub, 1) := by decide +kernel
theorem dX3_joinTuple_13 : decode cX3_joinTuple 13 = .ok (.istore 4, 2) := by decide +kernel
theorem dX3_joinTuple_15 : decode cX3_joinTuple 15 = .ok (.iload 4, 2) := by decide +kernel
theorem dX3_joinTuple_17 : decode cX3_joinTuple 17 = .ok (.aload_n 0, 1) := by decide +kernel
theorem dX3_joinTuple_18 : decode cX3_joinTuple 18 = .ok (.getfield 14, 3) := by decide +kernel
theorem dX3_joinTuple_21 : decode cX3_joinTuple 21 = .ok (.getfield 84, 3) := by decide +kernel
theorem dX3_joinTuple_24 : decode cX3_joinTuple 24 = .ok (.if_icmp .ge 55, 3) := by decide +kernel
theorem dX3_joinTuple_27 : decode cX3_joinTuple 27 = .ok (.iload_n 2, 1) := by decide +kernel
theorem dX3_joinTuple_28 : decode cX3_joinTuple 28 = .ok (.aload_n 0, 1) := by decide +kernel
theorem dX3_joinTuple_29 : decode cX3_joinTuple 29 = .ok (.getfield 39, 3) := by decide +kernel
theorem dX3_joinTuple_32 : decode cX3_joinTuple 32 = .ok (.aload_n 0, 1) := by decide +kernel
theorem dX3_joinTuple_33 : decode cX3_joinTuple 33 = .ok (.getfield 18, 3) := by decide +kernel
theorem dX3_joinTuple_36 : decode cX3_joinTuple 36 = .ok (.iload 4, 2) := by decide +kernel
theorem dX3_joinTuple_38 : decode cX3_joinTuple 38 = .ok (.iaload, 1) := by decide +kernel
theorem dX3_joinTuple_39 : decode cX3_joinTuple 39 = .ok (.invokevirtual 316, 3) := by decide +kernel
theorem dX3_joinTuple_42 : decode cX3_joinTuple 42 = .ok (.iadd, 1) := by decide +kernel
theorem dX3_joinTuple_43 : decode cX3_joinTuple 43 = .ok (.istore_n 2, 1) := by decide +kernel
theorem dX3_joinTuple_44 : decode cX3_joinTuple 44 = .ok (.iload_n 3, 1) := by decide +kernel
theorem dX3_joinTuple_45 : decode cX3_joinTuple 45 = .ok (.ifCond .ne 22, 3) := by decide +kernel
theorem dX3_joinTuple_48 : decode cX3_joinTuple 48 = .ok (.aload_n 0, 1) := by decide +kernel
theorem dX3_joinTuple_49 : decode cX3_joinTuple 49 = .ok (.getfield 18, 3) := by decide +kernel
theorem dX3_joinTuple_52 : decode cX3_joinTuple 52 = .ok (.iload 4, 2) := by decide +kernel
theorem dX3_joinTuple_54 : decode cX3_joinTuple 54 = .ok (.iaload, 1) := by decide +kernel
theorem dX3_joinTuple_55 : decode cX3_joinTuple 55 = .ok (.ldc 136, 2) := by decide +kernel
theorem dX3_joinTuple_57 : decode cX3_joinTuple 57 = .ok (.if_icmp .eq 14, 3) := by decide +kernel
theorem dX3_joinTuple_60 : decode cX3_joinTuple 60 = .ok (.iload_n 2, 1) := by decide +kernel
theorem dX3_joinTuple_61 : decode cX3_joinTuple 61 = .ok (.sipush 1000, 3) := by decide +kernel
theorem dX3_joinTuple_64 : decode cX3_joinTuple 64 = .ok (.if_icmp .le 7, 3) := by decide +kernel
theorem dX3_joinTuple_67 : decode cX3_joinTuple 67 = .ok (.iconst 1, 1) := by decide +kernel
theorem dX3_joinTuple_68 : decode cX3_joinTuple 68 = .ok (.goto 4, 3) := by decide +kernel
theorem dX3_joinTuple_71 : decode cX3_joinTuple 71 = .ok (.iconst 0, 1) := by decide +kernel
theorem dX3_joinTuple_72 : decode cX3_joinTuple 72 = .ok (.istore_n 3, 1) := by decide +kernel
theorem dX3_joinTuple_73 : decode cX3_joinTuple 73 = .ok (.iinc 4 1, 3) := by decide +kernel
theorem dX3_joinTuple_76 : decode cX3_joinTuple 76 = .ok (.goto (-61), 3) := by decide +kernel
theorem dX3_joinTuple_79 : decode cX3_joinTuple 79 = .ok (.aload_n 0, 1) := by decide +kernel
theorem dX3_joinTuple_80 : decode cX3_joinTuple 80 = .ok (.iload_n 1, 1) := by decide +kernel
theorem dX3_joinTuple_81 : decode cX3_joinTuple 81 = .ok (.invokestatic 182, 3) := by decide +kernel
theorem dX3_joinTuple_84 : decode cX3_joinTuple 84 = .ok (.invokevirtual 322, 3) := by decide +kernel
theorem dX3_joinTuple_87 : decode cX3_joinTuple 87 = .ok (.aload_n 0, 1) := by decide +kernel
theorem dX3_joinTuple_88 : decode cX3_joinTuple 88 = .ok (.iload_n 3, 1) := by decide +kernel
theorem dX3_joinTuple_89 : decode cX3_joinTuple 89 = .ok (.ifCond .eq 9, 3) := by decide +kernel
theorem dX3_joinTuple_92 : decode cX3_joinTuple 92 = .ok (.sipush 3000, 3) := by decide +kernel
theorem dX3_joinTuple_95 : decode cX3_joinTuple 95 = .ok (.goto 4, 3) := by decide +kernel
theorem dX3_joinTuple_98 : decode cX3_joinTuple 98 = .ok (.iload_n 2, 1) := by decide +kernel
theorem dX3_joinTuple_99 : decode cX3_joinTuple 99 = .ok (.invokestatic 182, 3) := by decide +kernel
theorem dX3_joinTuple_102 : decode cX3_joinTuple 102 = .ok (.invokevirtual 322, 3) := by decide +kernel
theorem dX3_joinTuple_105 : decode cX3_joinTuple 105 = .ok (.return_, 1) := by decide +kernel
theorem dX3_leavePoint_0 : decode cX3_leavePoint 0 = .ok (.aload_n 0, 1) := by decide +kernel
theorem dX3_leavePoint_1 : decode cX3_leavePoint 1 = .ok (.getfield 14, 3) := by decide +kernel
theorem dX3_leavePoint_4 : decode cX3_leavePoint 4 = .ok (.getfield 117, 3) := by decide +kernel
theorem dX3_leavePoint_7 : decode cX3_leavePoint 7 = .ok (.ifCond .ne 10, 3) := by decide +kernel
theorem dX3_leavePoint_10 : decode cX3_leavePoint 10 = .ok (.aload_n 0, 1) := by decide +kernel
theorem dX3_leavePoint_11 : decode cX3_leavePoint 11 = .ok (.bipush 10, 2) := by decide +kernel
theorem dX3_leavePoint_13 : decode cX3_leavePoint 13 = .ok (.invokevirtual 313, 3) := by decide +kernel
theorem dX3_leavePoint_16 : decode cX3_leavePoint 16 = .ok (.return_, 1) := by decide +kernel
theorem dX3_leavePoint_17 : decode cX3_leavePoint 17 = .ok (.aload_n 0, 1) := by decide +kernel
theorem dX3_leavePoint_18 : decode cX3_leavePoint 18 = .ok (.getfield 14, 3) := by decide +kernel
theorem dX3_leavePoint_21 : decode cX3_leavePoint 21 = .ok (.getfield 119, 3) := by decide +kernel
theorem dX3_leavePoint_24 : decode cX3_leavePoint 24 = .ok (.bipush 6, 2) := by decide +kernel
theorem dX3_leavePoint_26 : decode cX3_leavePoint 26 = .ok (.isub, 1) := by decide +kernel
theorem dX3_leavePoint_27 : decode cX3_leavePoint 27 = .ok (.istore_n 2, 1) := by decide +kernel
theorem dX3_leavePoint_28 : decode cX3_leavePoint 28 = .ok (.aload_n 0, 1) := by decide +kernel
theorem dX3_leavePoint_29 : decode cX3_leavePoint 29 = .ok (.getfield 22, 3) := by decide +kernel
theorem dX3_leavePoint_32 : decode cX3_leavePoint 32 = .ok (.iload_n 2, 1) := by decide +kernel
theorem dX3_leavePoint_33 : decode cX3_leavePoint 33 = .ok (.iconst 2, 1) := by decide +kernel
theorem dX3_leavePoint_34 : decode cX3_leavePoint 34 = .ok (.iadd, 1) := by decide +kernel
theorem dX3_leavePoint_35 : decode cX3_leavePoint 35 = .ok (.iaload, 1) := by decide +kernel
theorem dX3_leavePoint_36 : decode cX3_leavePoint 36 = .ok (.invokestatic 388, 3) := by decide +kernel
theorem dX3_leavePoint_39 : decode cX3_leavePoint 39 = .ok (.istore_n 3, 1) := by decide +kernel
theorem dX3_leavePoint_40 : decode cX3_leavePoint 40 = .ok (.aload_n 0, 1) := by decide +kernel
theorem dX3_leavePoint_41 : decode cX3_leavePoint 41 = .ok (.getfield 22, 3) := by decide +kernel
theorem dX3_leavePoint_44 : decode cX3_leavePoint 44 = .ok (.iload_n 2, 1) := by decide +kernel
theorem dX3_leavePoint_45 : decode cX3_leavePoint 45 = .ok (.iconst 4, 1) := by decide +kernel
theorem dX3_leavePoint_46 : decode cX3_leavePoint 46 = .ok (.iadd, 1) := by decide +kernel
theorem dX3_leavePoint_47 : decode cX3_leavePoint 47 = .ok (.iaload, 1) := by decide +kernel
theorem dX3_leavePoint_48 : decode cX3_leavePoint 48 = .ok (.invokestatic 388, 3) := by decide +kernel
theorem dX3_leavePoint_51 : decode cX3_leavePoint 51 = .ok (.istore 4, 2) := by decide +kernel
theorem dX3_leavePoint_53 : decode cX3_leavePoint 53 = .ok (.aload_n 0, 1) := by decide +kernel
theorem dX3_leavePoint_54 : decode cX3_leavePoint 54 = .ok (.getfield 14, 3) := by decide +kernel
theorem dX3_leavePoint_57 : decode cX3_leavePoint 57 = .ok (.dup, 1) := by decide +kernel
theorem dX3_leavePoint_58 : decode cX3_leavePoint 58 = .ok (.getfield 117, 3) := by decide +kernel
theorem dX3_leavePoint_61 : decode cX3_leavePoint 61 = .ok (.iconst 1, 1) := by decide +kernel
theorem dX3_leavePoint_62 : decode cX3_leavePoint 62 = .ok (.isub, 1) := by decide +kernel
theorem dX3_leavePoint_63 : decode cX3_leavePoint 63 = .ok (.putfield 117, 3) := by decide +kernel
theorem dX3_leavePoint_66 : decode cX3_leavePoint 66 = .ok (.aload_n 0, 1) := by decide +kernel
theorem dX3_leavePoint_67 : decode cX3_leavePoint 67 = .ok (.getfield 14, 3) := by decide +kernel
theorem dX3_leavePoint_70 : decode cX3_leavePoint 70 = .ok (.aload_n 0, 1) := by decide +kernel
theorem dX3_leavePoint_71 : decode cX3_leavePoint 71 = .ok (.getfield 14, 3) := by decide +kernel
theorem dX3_leavePoint_74 : decode cX3_leavePoint 74 = .ok (.getfield 114, 3) := by decide +kernel
theorem dX3_leavePoint_77 : decode cX3_leavePoint 77 = .ok (.iload 4, 2) := by decide +kernel
theorem dX3_leavePoint_79 : decode cX3_leavePoint 79 = .ok (.isub, 1) := by decide +kernel
theorem dX3_leavePoint_80 : decode cX3_leavePoint 80 = .ok (.putfield 114, 3) := by decide +kernel
theorem dX3_leavePoint_83 : decode cX3_leavePoint 83 = .ok (.aload_n 0, 1) := by decide +kernel
theorem dX3_leavePoint_84 : decode cX3_leavePoint 84 = .ok (.getfield 14, 3) := by decide +kernel
theorem dX3_leavePoint_87 : decode cX3_leavePoint 87 = .ok (.iload_n 2, 1) := by decide +kernel
theorem dX3_leavePoint_88 : decode cX3_leavePoint 88 = .ok (.iload_n 3, 1) := by decide +kernel
theorem dX3_leavePoint_89 : decode cX3_leavePoint 89 = .ok (.isub, 1) := by decide +kernel
theorem dX3_leavePoint_90 : decode cX3_leavePoint 90 = .ok (.putfield 119, 3) := by decide +kernel
theorem dX3_leavePoint_93 : decode cX3_leavePoint 93 = .ok (.iload_n 1, 1) := by decide +kernel
theorem dX3_leavePoint_94 : decode cX3_leavePoint 94 = .ok (.ifCond .eq 113, 3) := by decide +kernel
theorem dX3_leavePoint_97 : decode cX3_leavePoint 97 = .ok (.aload_n 0, 1) := by decide +kernel
theorem dX3_leavePoint_98 : decode cX3_leavePoint 98 = .ok (.getfield 14, 3) := by decide +kernel
theorem dX3_leavePoint_101 : decode cX3_leavePoint 101 = .ok (.aload_n 0, 1) := by decide +kernel
theorem dX3_leavePoint_102 : decode cX3_leavePoint 102 = .ok (.getfield 22, 3) := by decide +kernel
theorem dX3_leavePoint_105 : decode cX3_leavePoint 105 = .ok (.iload_n 2, 1) := by decide +kernel
theorem dX3_leavePoint_106 : decode cX3_leavePoint 106 = .ok (.iaload, 1) := by decide +kernel
theorem dX3_leavePoint_107 : decode cX3_leavePoint 107 = .ok (.invokestatic 388, 3) := by decide +kernel
theorem dX3_leavePoint_110 : decode cX3_leavePoint 110 = .ok (.putfield 78, 3) := by decide +kernel
theorem dX3_leavePoint_113 : decode cX3_leavePoint 113 = .ok (.aload_n 0, 1) := by decide +kernel
theorem dX3_leavePoint_114 : decode cX3_leavePoint 114 = .ok (.getfield 14, 3) := by decide +kernel
theorem dX3_leavePoint_117 : decode cX3_leavePoint 117 = .ok (.aload_n 0, 1) := by decide +kernel
theorem dX3_leavePoint_118 : decode cX3_leavePoint 118 = .ok (.getfield 22, 3) := by decide +kernel
theorem dX3_leavePoint_121 : decode cX3_leavePoint 121 = .ok (.iload_n 2, 1) := by decide +kernel
theorem dX3_leavePoint_122 : decode cX3_leavePoint 122 = .ok (.iconst 1, 1) := by decide +kernel
theorem dX3_leavePoint_123 : decode cX3_leavePoint 123 = .ok (.iadd, 1) := by decide +kernel
theorem dX3_leavePoint_124 : decode cX3_leavePoint 124 = .ok (.iaload, 1) := by decide +kernel
theorem dX3_leavePoint_125 : decode cX3_leavePoint 125 = .ok (.invokestatic 388, 3) := by decide +kernel
theorem dX3_leavePoint_128 : decode cX3_leavePoint 128 = .ok (.putfield 81, 3) := by decide +kernel
theorem dX3_leavePoint_131 : decode cX3_leavePoint 131 = .ok (.aload_n 0, 1) := by decide +kernel
theorem dX3_leavePoint_132 : decode cX3_leavePoint 132 = .ok (.getfield 14, 3) := by decide +kernel
theorem dX3_leavePoint_135 : decode cX3_leavePoint 135 = .ok (.iload_n 3, 1) := by decide +kernel
theorem dX3_leavePoint_136 : decode cX3_leavePoint 136 = .ok (.putfield 84, 3) := by decide +kernel
theorem dX3_leavePoint_139 : decode cX3_leavePoint 139 = .ok (.aload_n 0, 1) := by decide +kernel
theorem dX3_leavePoint_140 : decode cX3_leavePoint 140 = .ok (.getfield 14, 3) := by decide +kernel
theorem dX3_leavePoint_143 : decode cX3_leavePoint 143 = .ok (.aload_n 0, 1) := by decide +kernel
theorem dX3_leavePoint_144 : decode cX3_leavePoint 144 = .ok (.getfield 22, 3) := by decide +kernel
theorem dX3_leavePoint_147 : decode cX3_leavePoint 147 = .ok (.iload_n 2, 1) := by decide +kernel
theorem dX3_leavePoint_148 : decode cX3_leavePoint 148 = .ok (.iconst 3, 1) := by decide +kernel
theorem dX3_leavePoint_149 : decode cX3_leavePoint 149 = .ok (.iadd, 1) := by decide +kernel
theorem dX3_leavePoint_150 : decode cX3_leavePoint 150 = .ok (.iaload, 1) := by decide +kernel
theorem dX3_leavePoint_151 : decode cX3_leavePoint 151 = .ok (.invokestatic 388, 3) := by decide +kernel
theorem dX3_leavePoint_154 : decode cX3_leavePoint 154 = .ok (.putfield 102, 3) := by decide +kernel
theorem dX3_leavePoint_157 : decode cX3_leavePoint 157 = .ok (.aload_n 0, 1) := by decide +kernel
theorem dX3_leavePoint_158 : decode cX3_leavePoint 158 = .ok (.getfield 14, 3) := by decide +kernel
theorem dX3_leavePoint_161 : decode cX3_leavePoint 161 = .ok (.iload 4, 2) := by decide +kernel
theorem dX3_leavePoint_163 : decode cX3_leavePoint 163 = .ok (.putfield 108, 3) := by decide +kernel
theorem dX3_leavePoint_166 : decode cX3_leavePoint 166 = .ok (.aload_n 0, 1) := by decide +kernel
theorem dX3_leavePoint_167 : decode cX3_leavePoint 167 = .ok (.getfield 14, 3) := by decide +kernel
theorem dX3_leavePoint_170 : decode cX3_leavePoint 170 = .ok (.aload_n 0, 1) := by decide +kernel
theorem dX3_leavePoint_171 : decode cX3_leavePoint 171 = .ok (.getfield 22, 3) := by decide +kernel
theorem dX3_leavePoint_174 : decode cX3_leavePoint 174 = .ok (.iload_n 2, 1) := by decide +kernel
theorem dX3_leavePoint_175 : decode cX3_leavePoint 175 = .ok (.iconst 5, 1) := by decide +kernel
theorem dX3_leavePoint_176 : decode cX3_leavePoint 176 = .ok (.iadd, 1) := by decide +kernel
theorem dX3_leavePoint_177 : decode cX3_leavePoint 177 = .ok (.iaload, 1) := by decide +kernel
theorem dX3_leavePoint_178 : decode cX3_leavePoint 178 = .ok (.invokestatic 388, 3) := by decide +kernel
theorem dX3_leavePoint_181 : decode cX3_leavePoint 181 = .ok (.putfield 111, 3) := by decide +kernel
theorem dX3_leavePoint_184 : decode cX3_leavePoint 184 = .ok (.aload_n 0, 1) := by decide +kernel
theorem dX3_leavePoint_185 : decode cX3_leavePoint 185 = .ok (.getfield 22, 3) := by decide +kernel
theorem dX3_leavePoint_188 : decode cX3_leavePoint 188 = .ok (.iload_n 2, 1) := by decide +kernel
theorem dX3_leavePoint_189 : decode cX3_leavePoint 189 = .ok (.iload_n 3, 1) := by decide +kernel
theorem dX3_leavePoint_190 : decode cX3_leavePoint 190 = .ok (.isub, 1) := by decide +kernel
theorem dX3_leavePoint_191 : decode cX3_leavePoint 191 = .ok (.aload_n 0, 1) := by decide +kernel
theorem dX3_leavePoint_192 : decode cX3_leavePoint 192 = .ok (.getfield 18, 3) := by decide +kernel
theorem dX3_leavePoint_195 : decode cX3_leavePoint 195 = .ok (.iconst 0, 1) := by decide +kernel
theorem dX3_leavePoint_196 : decode cX3_leavePoint 196 = .ok (.iload_n 3, 1) := by decide +kernel
theorem dX3_leavePoint_197 : decode cX3_leavePoint 197 = .ok (.invokestatic 176, 3) := by decide +kernel
theorem dX3_leavePoint_200 : decode cX3_leavePoint 200 = .ok (.aload_n 0, 1) := by decide +kernel
theorem dX3_leavePoint_201 : decode cX3_leavePoint 201 = .ok (.ldc_w 326, 3) := by decide +kernel
theorem dX3_leavePoint_204 : decode cX3_leavePoint 204 = .ok (.invokevirtual 322, 3) := by decide +kernel
theorem dX3_leavePoint_207 : decode cX3_leavePoint 207 = .ok (.return_, 1) := by decide +kernel
theorem dX3_makePoint_0 : decode cX3_makePoint 0 = .ok (.aload_n 0, 1) := by decide +kernel
theorem dX3_makePoint_1 : decode cX3_makePoint 1 = .ok (.getfield 14, 3) := by decide +kernel
theorem dX3_makePoint_4 : decode cX3_makePoint 4 = .ok (.getfield 117, 3) := by decide +kernel
theorem dX3_makePoint_7 : decode cX3_makePoint 7 = .ok (.bipush 20, 2) := by decide +kernel
theorem dX3_makePoint_9 : decode cX3_makePoint 9 = .ok (.if_icmp .ge 32, 3) := by decide +kernel
theorem dX3_makePoint_12 : decode cX3_makePoint 12 = .ok (.aload_n 0, 1) := by decide +kernel
theorem dX3_makePoint_13 : decode cX3_makePoint 13 = .ok (.getfield 14, 3) := by decide +kernel
theorem dX3_makePoint_16 : decode cX3_makePoint 16 = .ok (.getfield 108, 3) := by decide +kernel
theorem dX3_makePoint_19 : decode cX3_makePoint 19 = .ok (.aload_n 0, 1) := by decide +kernel
theorem dX3_makePoint_20 : decode cX3_makePoint 20 = .ok (.getfield 14, 3) := by decide +kernel
theorem dX3_makePoint_23 : decode cX3_makePoint 23 = .ok (.getfield 108, 3) := by decide +kernel
theorem dX3_makePoint_26 : decode cX3_makePoint 26 = .ok (.iadd, 1) := by decide +kernel
theorem dX3_makePoint_27 : decode cX3_makePoint 27 = .ok (.aload_n 0, 1) := by decide +kernel
theorem dX3_makePoint_28 : decode cX3_makePoint 28 = .ok (.getfield 14, 3) := by decide +kernel
theorem dX3_makePoint_31 : decode cX3_makePoint 31 = .ok (.getfield 114, 3) := by decide +kernel
theorem dX3_makePoint_34 : decode cX3_makePoint 34 = .ok (.iadd, 1) := by decide +kernel
theorem dX3_makePoint_35 : decode cX3_makePoint 35 = .ok (.ldc_w 394, 3) := by decide +kernel
theorem dX3_makePoint_38 : decode cX3_makePoint 38 = .ok (.if_icmp .le 10, 3) := by decide +kernel
theorem dX3_makePoint_41 : decode cX3_makePoint 41 = .ok (.aload_n 0, 1) := by decide +kernel
theorem dX3_makePoint_42 : decode cX3_makePoint 42 = .ok (.bipush 6, 2) := by decide +kernel
theorem dX3_makePoint_44 : decode cX3_makePoint 44 = .ok (.invokevirtual 313, 3) := by decide +kernel
theorem dX3_makePoint_47 : decode cX3_makePoint 47 = .ok (.return_, 1) := by decide +kernel
theorem dX3_makePoint_48 : decode cX3_makePoint 48 = .ok (.aload_n 0, 1) := by decide +kernel
theorem dX3_makePoint_49 : decode cX3_makePoint 49 = .ok (.getfield 14, 3) := by decide +kernel
theorem dX3_makePoint_52 : decode cX3_makePoint 52 = .ok (.getfield 119, 3) := by decide +kernel
theorem dX3_makePoint_55 : decode cX3_makePoint 55 = .ok (.istore_n 1, 1) := by decide +kernel
theorem dX3_makePoint_56 : decode cX3_makePoint 56 = .ok (.aload_n 0, 1) := by decide +kernel
theorem dX3_makePoint_57 : decode cX3_makePoint 57 = .ok (.aload_n 0, 1) := by decide +kernel
theorem dX3_makePoint_58 : decode cX3_makePoint 58 = .ok (.getfield 22, 3) := by decide +kernel
theorem dX3_makePoint_61 : decode cX3_makePoint 61 = .ok (.iload_n 1, 1) := by decide +kernel
theorem dX3_makePoint_62 : decode cX3_makePoint 62 = .ok (.aload_n 0, 1) := by decide +kernel
theorem dX3_makePoint_63 : decode cX3_makePoint 63 = .ok (.getfield 14, 3) := by decide +kernel
theorem dX3_makePoint_66 : decode cX3_makePoint 66 = .ok (.getfield 84, 3) := by decide +kernel
theorem dX3_makePoint_69 : decode cX3_makePoint 69 = .ok (.iadd, 1) := by decide +kernel
theorem dX3_makePoint_70 : decode cX3_makePoint 70 = .ok (.bipush 6, 2) := by decide +kernel
theorem dX3_makePoint_72 : decode cX3_makePoint 72 = .ok (.iadd, 1) := by decide +kernel
theorem dX3_makePoint_73 : decode cX3_makePoint 73 = .ok (.ldc_w 395, 3) := by decide +kernel
theorem dX3_makePoint_76 : decode cX3_makePoint 76 = .ok (.invokestatic 306, 3) := by decide +kernel
theorem dX3_makePoint_79 : decode cX3_makePoint 79 = .ok (.putfield 22, 3) := by decide +kernel
theorem dX3_makePoint_82 : decode cX3_makePoint 82 = .ok (.iload_n 1, 1) := by decide +kernel
theorem dX3_makePoint_83 : decode cX3_makePoint 83 = .ok (.aload_n 0, 1) := by decide +kernel
theorem dX3_makePoint_84 : decode cX3_makePoint 84 = .ok (.getfield 14, 3) := by decide +kernel
theorem dX3_makePoint_87 : decode cX3_makePoint 87 = .ok (.getfield 84, 3) := by decide +kernel
theorem dX3_makePoint_90 : decode cX3_makePoint 90 = .ok (.iadd, 1) := by decide +kernel
theorem dX3_makePoint_91 : decode cX3_makePoint 91 = .ok (.bipush 6, 2) := by decide +kernel
theorem dX3_makePoint_93 : decode cX3_makePoint 93 = .ok (.iadd, 1) := by decide +kernel
theorem dX3_makePoint_94 : decode cX3_makePoint 94 = .ok (.aload_n 0, 1) := by decide +kernel
theorem dX3_makePoint_95 : decode cX3_makePoint 95 = .ok (.getfield 22, 3) := by decide +kernel
theorem dX3_makePoint_98 : decode cX3_makePoint 98 = .ok (.arraylength, 1) := by decide +kernel
theorem dX3_makePoint_99 : decode cX3_makePoint 99 = .ok (.if_icmp .le 10, 3) := by decide +kernel
theorem dX3_makePoint_102 : decode cX3_makePoint 102 = .ok (.aload_n 0, 1) := by decide +kernel
theorem dX3_makePoint_103 : decode cX3_makePoint 103 = .ok (.bipush 6, 2) := by decide +kernel
theorem dX3_makePoint_105 : decode cX3_makePoint 105 = .ok (.invokevirtual 313, 3) := by decide +kernel
theorem dX3_makePoint_108 : decode cX3_makePoint 108 = .ok (.return_, 1) := by decide +kernel
theorem dX3_makePoint_109 : decode cX3_makePoint 109 = .ok (.aload_n 0, 1) := by decide +kernel
theorem dX3_makePoint_110 : decode cX3_makePoint 110 = .ok (.getfield 18, 3) := by decide +kernel
theorem dX3_makePoint_113 : decode cX3_makePoint 113 = .ok (.iconst 0, 1) := by decide +kernel
theorem dX3_makePoint_114 : decode cX3_makePoint 114 = .ok (.aload_n 0, 1) := by decide +kernel
theorem dX3_makePoint_115 : decode cX3_makePoint 115 = .ok (.getfield 22, 3) := by decide +kernel
theorem dX3_makePoint_118 : decode cX3_makePoint 118 = .ok (.iload_n 1, 1) := by decide +kernel
theorem dX3_makePoint_119 : decode cX3_makePoint 119 = .ok (.aload_n 0, 1) := by decide +kernel
theorem dX3_makePoint_120 : decode cX3_makePoint 120 = .ok (.getfield 14, 3) := by decide +kernel
theorem dX3_makePoint_123 : decode cX3_makePoint 123 = .ok (.getfield 84, 3) := by decide +kernel
theorem dX3_makePoint_126 : decode cX3_makePoint 126 = .ok (.invokestatic 176, 3) := by decide +kernel
theorem dX3_makePoint_129 : decode cX3_makePoint 129 = .ok (.iload_n 1, 1) := by decide +kernel
theorem dX3_makePoint_130 : decode cX3_makePoint 130 = .ok (.aload_n 0, 1) := by decide +kernel
theorem dX3_makePoint_131 : decode cX3_makePoint 131 = .ok (.getfield 14, 3) := by decide +kernel
theorem dX3_makePoint_134 : decode cX3_makePoint 134 = .ok (.getfield 84, 3) := by decide +kernel
theorem dX3_makePoint_137 : decode cX3_makePoint 137 = .ok (.iadd, 1) := by decide +kernel
theorem dX3_makePoint_138 : decode cX3_makePoint 138 = .ok (.istore_n 1, 1) := by decide +kernel
theorem dX3_makePoint_139 : decode cX3_makePoint 139 = .ok (.aload_n 0, 1) := by decide +kernel
theorem dX3_makePoint_140 : decode cX3_makePoint 140 = .ok (.getfield 22, 3) := by decide +kernel
theorem dX3_makePoint_143 : decode cX3_makePoint 143 = .ok (.iload_n 1, 1) := by decide +kernel
theorem dX3_makePoint_144 : decode cX3_makePoint 144 = .ok (.aload_n 0, 1) := by decide +kernel
theorem dX3_makePoint_145 : decode cX3_makePoint 145 = .ok (.getfield 14, 3) := by decide +kernel
theorem dX3_makePoint_148 : decode cX3_makePoint 148 = .ok (.getfield 78, 3) := by decide +kernel
theorem dX3_makePoint_151 : decode cX3_makePoint 151 = .ok (.invokestatic 182, 3) := by decide +kernel
theorem dX3_makePoint_154 : decode cX3_makePoint 154 = .ok (.iastore, 1) := by decide +kernel
theorem dX3_makePoint_155 : decode cX3_makePoint 155 = .ok (.aload_n 0, 1) := by decide +kernel
theorem dX3_makePoint_156 : decode cX3_makePoint 156 = .ok (.getfield 22, 3) := by decide +kernel
theorem dX3_makePoint_159 : decode cX3_makePoint 159 = .ok (.iload_n 1, 1) := by decide +kernel
theorem dX3_makePoint_160 : decode cX3_makePoint 160 = .ok (.iconst 1, 1) := by decide +kernel
theorem dX3_makePoint_161 : decode cX3_makePoint 161 = .ok (.iadd, 1) := by decide +kernel
theorem dX3_makePoint_162 : decode cX3_makePoint 162 = .ok (.aload_n 0, 1) := by decide +kernel
theorem dX3_makePoint_163 : decode cX3_makePoint 163 = .ok (.getfield 14, 3) := by decide +kernel
theorem dX3_makePoint_166 : decode cX3_makePoint 166 = .ok (.getfield 81, 3) := by decide +kernel
theorem dX3_makePoint_169 : decode cX3_makePoint 169 = .ok (.invokestatic 182, 3) := by decide +kernel
theorem dX3_makePoint_172 : decode cX3_makePoint 172 = .ok (.iastore, 1) := by decide +kernel
theorem dX3_makePoint_173 : decode cX3_makePoint 173 = .ok (.aload_n 0, 1) := by decide +kernel
theorem dX3_makePoint_174 : decode cX3_makePoint 174 = .ok (.getfield 22, 3) := by decide +kernel
theorem dX3_makePoint_177 : decode cX3_makePoint 177 = .ok (.iload_n 1, 1) := by decide +kernel
theorem dX3_makePoint_178 : decode cX3_makePoint 178 = .ok (.iconst 2, 1) := by decide +kernel
theorem dX3_makePoint_179 : decode cX3_makePoint 179 = .ok (.iadd, 1) := by decide +kernel
theorem dX3_makePoint_180 : decode cX3_makePoint 180 = .ok (.aload_n 0, 1) := by decide +kernel
theorem dX3_makePoint_181 : decode cX3_makePoint 181 = .ok (.getfield 14, 3) := by decide +kernel
theorem dX3_makePoint_184 : decode cX3_makePoint 184 = .ok (.getfield 84, 3) := by decide +kernel
theorem dX3_makePoint_187 : decode cX3_makePoint 187 = .ok (.invokestatic 182, 3) := by decide +kernel
theorem dX3_makePoint_190 : decode cX3_makePoint 190 = .ok (.iastore, 1) := by decide +kernel
theorem dX3_makePoint_191 : decode cX3_makePoint 191 = .ok (.aload_n 0, 1) := by decide +kernel
theorem dX3_makePoint_192 : decode cX3_makePoint 192 = .ok (.getfield 22, 3) := by decide +kernel
theorem dX3_makePoint_195 : decode cX3_makePoint 195 = .ok (.iload_n 1, 1) := by decide +kernel
theorem dX3_makePoint_196 : decode cX3_makePoint 196 = .ok (.iconst 3, 1) := by decide +kernel
theorem dX3_makePoint_197 : decode cX3_makePoint 197 = .ok (.iadd, 1) := by decide +kernel
theorem dX3_makePoint_198 : decode cX3_makePoint 198 = .ok (.aload_n 0, 1) := by decide +kernel
theorem dX3_makePoint_199 : decode cX3_makePoint 199 = .ok (.getfield 14, 3) := by decide +kernel
theorem dX3_makePoint_202 : decode cX3_makePoint 202 = .ok (.getfield 102, 3) := by decide +kernel
theorem dX3_makePoint_205 : decode cX3_makePoint 205 = .ok (.invokestatic 182, 3) := by decide +kernel
theorem dX3_makePoint_208 : decode cX3_makePoint 208 = .ok (.iastore, 1) := by decide +kernel
theorem dX3_makePoint_209 : decode cX3_makePoint 209 = .ok (.aload_n 0, 1) := by decide +kernel
theorem dX3_makePoint_210 : decode cX3_makePoint 210 = .ok (.getfield 22, 3) := by decide +kernel
theorem dX3_makePoint_213 : decode cX3_makePoint 213 = .ok (.iload_n 1, 1) := by decide +kernel
theorem dX3_makePoint_214 : decode cX3_makePoint 214 = .ok (.iconst 4, 1) := by decide +kernel
theorem dX3_makePoint_215 : decode cX3_makePoint 215 = .ok (.iadd, 1) := by decide +kernel
theorem dX3_makePoint_216 : decode cX3_makePoint 216 = .ok (.aload_n 0, 1) := by decide +kernel
theorem dX3_makePoint_217 : decode cX3_makePoint 217 = .ok (.getfield 14, 3) := by decide +kernel
theorem dX3_makePoint_220 : decode cX3_makePoint 220 = .ok (.getfield 108, 3) := by decide +kernel
theorem dX3_makePoint_223 : decode cX3_makePoint 223 = .ok (.invokestatic 182, 3) := by decide +kernel
theorem dX3_makePoint_226 : decode cX3_makePoint 226 = .ok (.iastore, 1) := by decide +kernel
theorem dX3_makePoint_227 : decode cX3_makePoint 227 = .ok (.aload_n 0, 1) := by decide +kernel
theorem dX3_makePoint_228 : decode cX3_makePoint 228 = .ok (.getfield 22, 3) := by decide +kernel
theorem dX3_makePoint_231 : decode cX3_makePoint 231 = .ok (.iload_n 1, 1) := by decide +kernel
theorem dX3_makePoint_232 : decode cX3_makePoint 232 = .ok (.iconst 5, 1) := by decide +kernel
theorem dX3_makePoint_233 : decode cX3_makePoint 233 = .ok (.iadd, 1) := by decide +kernel
theorem dX3_makePoint_234 : decode cX3_makePoint 234 = .ok (.aload_n 0, 1) := by decide +kernel
theorem dX3_makePoint_235 : decode cX3_makePoint 235 = .ok (.getfield 14, 3) := by decide +kernel
theorem dX3_makePoint_238 : decode cX3_makePoint 238 = .ok (.getfield 111, 3) := by decide +kernel
theorem dX3_makePoint_241 : decode cX3_makePoint 241 = .ok (.invokestatic 182, 3) := by decide +kernel
theorem dX3_makePoint_244 : decode cX3_makePoint 244 = .ok (.iastore, 1) := by decide +kernel
theorem dX3_makePoint_245 : decode cX3_makePoint 245 = .ok (.aload_n 0, 1) := by decide +kernel
theorem dX3_makePoint_246 : decode cX3_makePoint 246 = .ok (.getfield 14, 3) := by decide +kernel
theorem dX3_makePoint_249 : decode cX3_makePoint 249 = .ok (.iload_n 1, 1) := by decide +kernel
theorem dX3_makePoint_250 : decode cX3_makePoint 250 = .ok (.bipush 6, 2) := by decide +kernel
theorem dX3_makePoint_252 : decode cX3_makePoint 252 = .ok (.iadd, 1) := by decide +kernel
theorem dX3_makePoint_253 : decode cX3_makePoint 253 = .ok (.putfield 119, 3) := by decide +kernel
theorem dX3_makePoint_256 : decode cX3_makePoint 256 = .ok (.aload_n 0, 1) := by decide +kernel
theorem dX3_makePoint_257 : decode cX3_makePoint 257 = .ok (.getfield 14, 3) := by decide +kernel
theorem dX3_makePoint_260 : decode cX3_makePoint 260 = .ok (.dup, 1) := by decide +kernel
theorem dX3_makePoint_261 : decode cX3_makePoint 261 = .ok (.getfield 117, 3) := by decide +kernel
theorem dX3_makePoint_264 : decode cX3_makePoint 264 = .ok (.iconst 1, 1) := by decide +kernel
theorem dX3_makePoint_265 : decode cX3_makePoint 265 = .ok (.iadd, 1) := by decide +kernel
theorem dX3_makePoint_266 : decode cX3_makePoint 266 = .ok (.putfield 117, 3) := by decide +kernel
theorem dX3_makePoint_269 : decode cX3_makePoint 269 = .ok (.aload_n 0, 1) := by decide +kernel
theorem dX3_makePoint_270 : decode cX3_makePoint 270 = .ok (.getfield 14, 3) := by decide +kernel
theorem dX3_makePoint_273 : decode cX3_makePoint 273 = .ok (.aload_n 0, 1) := by decide +kernel
theorem dX3_makePoint_274 : decode cX3_makePoint 274 = .ok (.getfield 14, 3) := by decide +kernel
theorem dX3_makePoint_277 : decode cX3_makePoint 277 = .ok (.getfield 114, 3) := by decide +kernel
theorem dX3_makePoint_280 : decode cX3_makePoint 280 = .ok (.aload_n 0, 1) := by decide +kernel
theorem dX3_makePoint_281 : decode cX3_makePoint 281 = .ok (.getfield 14, 3) := by decide +kernel
theorem dX3_makePoint_284 : decode cX3_makePoint 284 = .ok (.getfield 108, 3) := by decide +kernel
theorem dX3_makePoint_287 : decode cX3_makePoint 287 = .ok (.iadd, 1) := by decide +kernel
theorem dX3_makePoint_288 : decode cX3_makePoint 288 = .ok (.putfield 114, 3) := by decide +kernel
theorem dX3_makePoint_291 : decode cX3_makePoint 291 = .ok (.aload_n 0, 1) := by decide +kernel
theorem dX3_makePoint_292 : decode cX3_makePoint 292 = .ok (.ldc_w 325, 3) := by decide +kernel
theorem dX3_makePoint_295 : decode cX3_makePoint 295 = .ok (.invokevirtual 322, 3) := by decide +kernel
theorem dX3_makePoint_298 : decode cX3_makePoint 298 = .ok (.return_, 1) := by decide +kernel
theorem dX3_makeRoom_0 : decode cX3_makeRoom 0 = .ok (.aload_n 0, 1) := by decide +kernel
theorem dX3_makeRoom_1 : decode cX3_makeRoom 1 = .ok (.getfield 39, 3) := by decide +kernel
theorem dX3_makeRoom_4 : decode cX3_makeRoom 4 = .ok (.invokevirtual 188, 3) := by decide +kernel
theorem dX3_makeRoom_7 : decode cX3_makeRoom 7 = .ok (.ifCond .ne 4, 3) := by decide +kernel
theorem dX3_makeRoom_10 : decode cX3_makeRoom 10 = .ok (.return_, 1) := by decide +kernel
theorem dX3_makeRoom_11 : decode cX3_makeRoom 11 = .ok (.aload_n 0, 1) := by decide +kernel
theorem dX3_makeRoom_12 : decode cX3_makeRoom 12 = .ok (.invokevirtual 194, 3) := by decide +kernel
theorem dX3_makeRoom_15 : decode cX3_makeRoom 15 = .ok (.aload_n 0, 1) := by decide +kernel
theorem dX3_makeRoom_16 : decode cX3_makeRoom 16 = .ok (.getfield 39, 3) := by decide +kernel
theorem dX3_makeRoom_19 : decode cX3_makeRoom 19 = .ok (.invokevirtual 197, 3) := by decide +kernel
theorem dX3_makeRoom_22 : decode cX3_makeRoom 22 = .ok (.aload_n 0, 1) := by decide +kernel
theorem dX3_makeRoom_23 : decode cX3_makeRoom 23 = .ok (.getfield 39, 3) := by decide +kernel
theorem dX3_makeRoom_26 : decode cX3_makeRoom 26 = .ok (.invokevirtual 200, 3) := by decide +kernel
theorem dX3_makeRoom_29 : decode cX3_makeRoom 29 = .ok (.ifCond .eq 24, 3) := by decide +kernel
theorem dX3_makeRoom_32 : decode cX3_makeRoom 32 = .ok (.aload_n 0, 1) := by decide +kernel
theorem dX3_makeRoom_33 : decode cX3_makeRoom 33 = .ok (.getfield 35, 3) := by decide +kernel
theorem dX3_makeRoom_36 : decode cX3_makeRoom 36 = .ok (.invokevirtual 203, 3) := by decide +kernel
theorem dX3_makeRoom_39 : decode cX3_makeRoom 39 = .ok (.ifCond .le 14, 3) := by decide +kernel
theorem dX3_makeRoom_42 : decode cX3_makeRoom 42 = .ok (.aload_n 0, 1) := by decide +kernel
theorem dX3_makeRoom_43 : decode cX3_makeRoom 43 = .ok (.getfield 35, 3) := by decide +kernel
theorem dX3_makeRoom_46 : decode cX3_makeRoom 46 = .ok (.invokevirtual 207, 3) := by decide +kernel
theorem dX3_makeRoom_49 : decode cX3_makeRoom 49 = .ok (.aload_n 0, 1) := by decide +kernel
theorem dX3_makeRoom_50 : decode cX3_makeRoom 50 = .ok (.invokevirtual 194, 3) := by decide +kernel
theorem dX3_makeRoom_53 : decode cX3_makeRoom 53 = .ok (.return_, 1) := by decide +kernel
theorem dX3_makeValue_0 : decode cX3_makeValue 0 = .ok (.iload_n 1, 1) := by decide +kernel
theorem dX3_makeValue_1 : decode cX3_makeValue 1 = .ok (.tableswitch 295 48 54 #[43, 85, 127, 127, 193, 193, 288], 43) := by decide +kernel
theorem dX3_makeValue_44 : decode cX3_makeValue 44 = .ok (.aload_n 0, 1) := by decide +kernel
theorem dX3_makeValue_45 : decode cX3_makeValue 45 = .ok (.getfield 14, 3) := by decide +kernel
theorem dX3_makeValue_48 : decode cX3_makeValue 48 = .ok (.aload_n 0, 1) := by decide +kernel
theorem dX3_makeValue_49 : decode cX3_makeValue 49 = .ok (.getfield 14, 3) := by decide +kernel
theorem dX3_makeValue_52 : decode cX3_makeValue 52 = .ok (.getfield 84, 3) := by decide +kernel
theorem dX3_makeValue_55 : decode cX3_makeValue 55 = .ok (.iload_n 2, 1) := by decide +kernel
theorem dX3_makeValue_56 : decode cX3_makeValue 56 = .ok (.isub, 1) := by decide +kernel
theorem dX3_makeValue_57 : decode cX3_makeValue 57 = .ok (.putfield 84, 3) := by decide +kernel
theorem dX3_makeValue_60 : decode cX3_makeValue 60 = .ok (.aload_n 0, 1) := by decide +kernel
theorem dX3_makeValue_61 : decode cX3_makeValue 61 = .ok (.aload_n 0, 1) := by decide +kernel
theorem dX3_makeValue_62 : decode cX3_makeValue 62 = .ok (.getfield 47, 3) := by decide +kernel
theorem dX3_makeValue_65 : decode cX3_makeValue 65 = .ok (.aload_n 0, 1) := by decide +kernel
theorem dX3_makeValue_66 : decode cX3_makeValue 66 = .ok (.getfield 18, 3) := by decide +kernel
theorem dX3_makeValue_69 : decode cX3_makeValue 69 = .ok (.aload_n 0, 1) := by decide +kernel
theorem dX3_makeValue_70 : decode cX3_makeValue 70 = .ok (.getfield 14, 3) := by decide +kernel
theorem dX3_makeValue_73 : decode cX3_makeValue 73 = .ok (.getfield 84, 3) := by decide +kernel
theorem dX3_makeValue_76 : decode cX3_makeValue 76 = .ok (.iload_n 2, 1) := by decide +kernel
theorem dX3_makeValue_77 : decode cX3_makeValue 77 = .ok (.invokevirtual 435, 3) := by decide +kernel
theorem dX3_makeValue_80 : decode cX3_makeValue 80 = .ok (.invokevirtual 391, 3) := by decide +kernel
theorem dX3_makeValue_83 : decode cX3_makeValue 83 = .ok (.goto 235, 3) := by decide +kernel
theorem dX3_makeValue_86 : decode cX3_makeValue 86 = .ok (.aload_n 0, 1) := by decide +kernel
theorem dX3_makeValue_87 : decode cX3_makeValue 87 = .ok (.getfield 14, 3) := by decide +kernel
theorem dX3_makeValue_90 : decode cX3_makeValue 90 = .ok (.aload_n 0, 1) := by decide +kernel
theorem dX3_makeValue_91 : decode cX3_makeValue 91 = .ok (.getfield 14, 3) := by decide +kernel
theorem dX3_makeValue_94 : decode cX3_makeValue 94 = .ok (.getfield 84, 3) := by decide +kernel
theorem dX3_makeValue_97 : decode cX3_makeValue 97 = .ok (.iload_n 2, 1) := by decide +kernel
theorem dX3_makeValue_98 : decode cX3_makeValue 98 = .ok (.isub, 1) := by decide +kernel
theorem dX3_makeValue_99 : decode cX3_makeValue 99 = .ok (.putfield 84, 3) := by decide +kernel
theorem dX3_makeValue_102 : decode cX3_makeValue 102 = .ok (.aload_n 0, 1) := by decide +kernel
theorem dX3_makeValue_103 : decode cX3_makeValue 103 = .ok (.aload_n 0, 1) := by decide +kernel
theorem dX3_makeValue_104 : decode cX3_makeValue 104 = .ok (.getfield 39, 3) := by decide +kernel
theorem dX3_makeValue_107 : decode cX3_makeValue 107 = .ok (.aload_n 0, 1) := by decide +kernel
theorem dX3_makeValue_108 : decode cX3_makeValue 108 = .ok (.getfield 18, 3) := by decide +kernel
theorem dX3_makeValue_111 : decode cX3_makeValue 111 = .ok (.aload_n 0, 1) := by decide +kernel
theorem dX3_makeValue_112 : decode cX3_makeValue 112 = .ok (.getfield 14, 3) := by decide +kernel
theorem dX3_makeValue_115 : decode cX3_makeValue 115 = .ok (.getfield 84, 3) := by decide +kernel
theorem dX3_makeValue_118 : decode cX3_makeValue 118 = .ok (.iload_n 2, 1) := by decide +kernel
theorem dX3_makeValue_119 : decode cX3_makeValue 119 = .ok (.invokevirtual 438, 3) := by decide +kernel
theorem dX3_makeValue_122 : decode cX3_makeValue 122 = .ok (.invokevirtual 391, 3) := by decide +kernel
theorem dX3_makeValue_125 : decode cX3_makeValue 125 = .ok (.goto 193, 3) := by decide +kernel
theorem dX3_makeValue_128 : decode cX3_makeValue 128 = .ok (.aload_n 0, 1) := by decide +kernel
theorem dX3_makeValue_129 : decode cX3_makeValue 129 = .ok (.getfield 14, 3) := by decide +kernel
theorem dX3_makeValue_132 : decode cX3_makeValue 132 = .ok (.dup, 1) := by decide +kernel
theorem dX3_makeValue_133 : decode cX3_makeValue 133 = .ok (.getfield 84, 3) := by decide +kernel
theorem dX3_makeValue_136 : decode cX3_makeValue 136 = .ok (.iconst 1, 1) := by decide +kernel
theorem dX3_makeValue_137 : decode cX3_makeValue 137 = .ok (.isub, 1) := by decide +kernel
theorem dX3_makeValue_138 : decode cX3_makeValue 138 = .ok (.putfield 84, 3) := by decide +kernel
theorem dX3_makeValue_141 : decode cX3_makeValue 141 = .ok (.aload_n 0, 1) := by decide +kernel
theorem dX3_makeValue_142 : decode cX3_makeValue 142 = .ok (.aload_n 0, 1) := by decide +kernel
theorem dX3_makeValue_143 : decode cX3_makeValue 143 = .ok (.getfield 47, 3) := by decide +kernel
theorem dX3_makeValue_146 : decode cX3_makeValue 146 = .ok (.aload_n 0, 1) := by decide +kernel
theorem dX3_makeValue_147 : decode cX3_makeValue 147 = .ok (.getfield 18, 3) := by decide +kernel
theorem dX3_makeValue_150 : decode cX3_makeValue 150 = .ok (.aload_n 0, 1) := by decide +kernel
theorem dX3_makeValue_151 : decode cX3_makeValue 151 = .ok (.getfield 14, 3) := by decide +kernel
theorem dX3_makeValue_154 : decode cX3_makeValue 154 = .ok (.getfield 84, 3) := by decide +kernel
theorem dX3_makeValue_157 : decode cX3_makeValue 157 = .ok (.iconst 1, 1) := by decide +kernel
theorem dX3_makeValue_158 : decode cX3_makeValue 158 = .ok (.isub, 1) := by decide +kernel
theorem dX3_makeValue_159 : decode cX3_makeValue 159 = .ok (.iaload, 1) := by decide +kernel
theorem dX3_makeValue_160 : decode cX3_makeValue 160 = .ok (.ldc 136, 2) := by decide +kernel
theorem dX3_makeValue_162 : decode cX3_makeValue 162 = .ok (.aload_n 0, 1) := by decide +kernel
theorem dX3_makeValue_163 : decode cX3_makeValue 163 = .ok (.getfield 18, 3) := by decide +kernel
theorem dX3_makeValue_166 : decode cX3_makeValue 166 = .ok (.aload_n 0, 1) := by decide +kernel
theorem dX3_makeValue_167 : decode cX3_makeValue 167 = .ok (.getfield 14, 3) := by decide +kernel
theorem dX3_makeValue_170 : decode cX3_makeValue 170 = .ok (.getfield 84, 3) := by decide +kernel
theorem dX3_makeValue_173 : decode cX3_makeValue 173 = .ok (.iaload, 1) := by decide +kernel
theorem dX3_makeValue_174 : decode cX3_makeValue 174 = .ok (.iload_n 1, 1) := by decide +kernel
theorem dX3_makeValue_175 : decode cX3_makeValue 175 = .ok (.bipush 50, 2) := by decide +kernel
theorem dX3_makeValue_177 : decode cX3_makeValue 177 = .ok (.if_icmp .ne 7, 3) := by decide +kernel
theorem dX3_makeValue_180 : decode cX3_makeValue 180 = .ok (.iconst 1, 1) := by decide +kernel
theorem dX3_makeValue_181 : decode cX3_makeValue 181 = .ok (.goto 4, 3) := by decide +kernel
theorem dX3_makeValue_184 : decode cX3_makeValue 184 = .ok (.iconst 0, 1) := by decide +kernel
theorem dX3_makeValue_185 : decode cX3_makeValue 185 = .ok (.invokevirtual 441, 3) := by decide +kernel
theorem dX3_makeValue_188 : decode cX3_makeValue 188 = .ok (.invokevirtual 280, 3) := by decide +kernel
theorem dX3_makeValue_191 : decode cX3_makeValue 191 = .ok (.goto 127, 3) := by decide +kernel
theorem dX3_makeValue_194 : decode cX3_makeValue 194 = .ok (.aload_n 0, 1) := by decide +kernel
theorem dX3_makeValue_195 : decode cX3_makeValue 195 = .ok (.getfield 14, 3) := by decide +kernel
theorem dX3_makeValue_198 : decode cX3_makeValue 198 = .ok (.aload_n 0, 1) := by decide +kernel
theorem dX3_makeValue_199 : decode cX3_makeValue 199 = .ok (.getfield 14, 3) := by decide +kernel
theorem dX3_makeValue_202 : decode cX3_makeValue 202 = .ok (.getfield 84, 3) := by decide +kernel
theorem dX3_makeValue_205 : decode cX3_makeValue 205 = .ok (.iconst 2, 1) := by decide +kernel
theorem dX3_makeValue_206 : decode cX3_makeValue 206 = .ok (.isub, 1) := by decide +kernel
theorem dX3_makeValue_207 : decode cX3_makeValue 207 = .ok (.putfield 84, 3) := by decide +kernel
theorem dX3_makeValue_210 : decode cX3_makeValue 210 = .ok (.aload_n 0, 1) := by decide +kernel
theorem dX3_makeValue_211 : decode cX3_makeValue 211 = .ok (.getfield 18, 3) := by decide +kernel
theorem dX3_makeValue_214 : decode cX3_makeValue 214 = .ok (.aload_n 0, 1) := by decide +kernel
theorem dX3_makeValue_215 : decode cX3_makeValue 215 = .ok (.getfield 14, 3) := by decide +kernel
theorem dX3_makeValue_218 : decode cX3_makeValue 218 = .ok (.getfield 84, 3) := by decide +kernel
theorem dX3_makeValue_221 : decode cX3_makeValue 221 = .ok (.iaload, 1) := by decide +kernel
theorem dX3_makeValue_222 : decode cX3_makeValue 222 = .ok (.istore_n 3, 1) := by decide +kernel
theorem dX3_makeValue_223 : decode cX3_makeValue 223 = .ok (.aload_n 0, 1) := by decide +kernel
theorem dX3_makeValue_224 : decode cX3_makeValue 224 = .ok (.iload_n 3, 1) := by decide +kernel
theorem dX3_makeValue_225 : decode cX3_makeValue 225 = .ok (.ldc 136, 2) := by decide +kernel
theorem dX3_makeValue_227 : decode cX3_makeValue 227 = .ok (.if_icmp .ne 9, 3) := by decide +kernel
theorem dX3_makeValue_230 : decode cX3_makeValue 230 = .ok (.ldc_w 445, 3) := by decide +kernel
theorem dX3_makeValue_233 : decode cX3_makeValue 233 = .ok (.goto 50, 3) := by decide +kernel
theorem dX3_makeValue_236 : decode cX3_makeValue 236 = .ok (.aload_n 0, 1) := by decide +kernel
theorem dX3_makeValue_237 : decode cX3_makeValue 237 = .ok (.getfield 47, 3) := by decide +kernel
theorem dX3_makeValue_240 : decode cX3_makeValue 240 = .ok (.aload_n 0, 1) := by decide +kernel
theorem dX3_makeValue_241 : decode cX3_makeValue 241 = .ok (.getfield 18, 3) := by decide +kernel
theorem dX3_makeValue_244 : decode cX3_makeValue 244 = .ok (.aload_n 0, 1) := by decide +kernel
theorem dX3_makeValue_245 : decode cX3_makeValue 245 = .ok (.getfield 14, 3) := by decide +kernel
theorem dX3_makeValue_248 : decode cX3_makeValue 248 = .ok (.getfield 84, 3) := by decide +kernel
theorem dX3_makeValue_251 : decode cX3_makeValue 251 = .ok (.iconst 1, 1) := by decide +kernel
theorem dX3_makeValue_252 : decode cX3_makeValue 252 = .ok (.isub, 1) := by decide +kernel
theorem dX3_makeValue_253 : decode cX3_makeValue 253 = .ok (.iaload, 1) := by decide +kernel
theorem dX3_makeValue_254 : decode cX3_makeValue 254 = .ok (.iload_n 3, 1) := by decide +kernel
theorem dX3_makeValue_255 : decode cX3_makeValue 255 = .ok (.aload_n 0, 1) := by decide +kernel
theorem dX3_makeValue_256 : decode cX3_makeValue 256 = .ok (.getfield 18, 3) := by decide +kernel
theorem dX3_makeValue_259 : decode cX3_makeValue 259 = .ok (.aload_n 0, 1) := by decide +kernel
theorem dX3_makeValue_260 : decode cX3_makeValue 260 = .ok (.getfield 14, 3) := by decide +kernel
theorem dX3_makeValue_263 : decode cX3_makeValue 263 = .ok (.getfield 84, 3) := by decide +kernel
theorem dX3_makeValue_266 : decode cX3_makeValue 266 = .ok (.iconst 1, 1) := by decide +kernel
theorem dX3_makeValue_267 : decode cX3_makeValue 267 = .ok (.iadd, 1) := by decide +kernel
theorem dX3_makeValue_268 : decode cX3_makeValue 268 = .ok (.iaload, 1) := by decide +kernel
theorem dX3_makeValue_269 : decode cX3_makeValue 269 = .ok (.iload_n 1, 1) := by decide +kernel
theorem dX3_makeValue_270 : decode cX3_makeValue 270 = .ok (.bipush 52, 2) := by decide +kernel
theorem dX3_makeValue_272 : decode cX3_makeValue 272 = .ok (.if_icmp .ne 7, 3) := by decide +kernel
theorem dX3_makeValue_275 : decode cX3_makeValue 275 = .ok (.iconst 1, 1) := by decide +kernel
theorem dX3_makeValue_276 : decode cX3_makeValue 276 = .ok (.goto 4, 3) := by decide +kernel
theorem dX3_makeValue_279 : decode cX3_makeValue 279 = .ok (.iconst 0, 1) := by decide +kernel
theorem dX3_makeValue_280 : decode cX3_makeValue 280 = .ok (.invokevirtual 441, 3) := by decide +kernel
theorem dX3_makeValue_283 : decode cX3_makeValue 283 = .ok (.invokevirtual 280, 3) := by decide +kernel
theorem dX3_makeValue_286 : decode cX3_makeValue 286 = .ok (.goto 32, 3) := by decide +kernel
theorem dX3_makeValue_289 : decode cX3_makeValue 289 = .ok (.aload_n 0, 1) := by decide +kernel
theorem dX3_makeValue_290 : decode cX3_makeValue 290 = .ok (.invokevirtual 446, 3) := by decide +kernel
theorem dX3_makeValue_293 : decode cX3_makeValue 293 = .ok (.goto 25, 3) := by decide +kernel
theorem dX3_makeValue_296 : decode cX3_makeValue 296 = .ok (.aload_n 0, 1) := by decide +kernel
theorem dX3_makeValue_297 : decode cX3_makeValue 297 = .ok (.aload_n 0, 1) := by decide +kernel
theorem dX3_makeValue_298 : decode cX3_makeValue 298 = .ok (.aload_n 0, 1) := by decide +kernel
theorem dX3_makeValue_299 : decode cX3_makeValue 299 = .ok (.getfield 18, 3) := by decide +kernel
theorem dX3_makeValue_302 : decode cX3_makeValue 302 = .ok (.aload_n 0, 1) := by decide +kernel
theorem dX3_makeValue_303 : decode cX3_makeValue 303 = .ok (.getfield 14, 3) := by decide +kernel
theorem dX3_makeValue_306 : decode cX3_makeValue 306 = .ok (.getfield 84, 3) := by decide +kernel
theorem dX3_makeValue_309 : decode cX3_makeValue 309 = .ok (.iconst 1, 1) := by decide +kernel
theorem dX3_makeValue_310 : decode cX3_makeValue 310 = .ok (.isub, 1) := by decide +kernel
theorem dX3_makeValue_311 : decode cX3_makeValue 311 = .ok (.iaload, 1) := by decide +kernel
theorem dX3_makeValue_312 : decode cX3_makeValue 312 = .ok (.invokevirtual 449, 3) := by decide +kernel
theorem dX3_makeValue_315 : decode cX3_makeValue 315 = .ok (.invokevirtual 280, 3) := by decide +kernel
theorem dX3_makeValue_318 : decode cX3_makeValue 318 = .ok (.return_, 1) := by decide +kernel
theorem dX3_newAtom_0 : decode cX3_newAtom 0 = .ok (.aload_n 0, 1) := by decide +kernel
theorem dX3_newAtom_1 : decode cX3_newAtom 1 = .ok (.getfield 14, 3) := by decide +kernel
theorem dX3_newAtom_4 : decode cX3_newAtom 4 = .ok (.getfield 122, 3) := by decide +kernel
theorem dX3_newAtom_7 : decode cX3_newAtom 7 = .ok (.ldc_w 468, 3) := by decide +kernel
theorem dX3_newAtom_10 : decode cX3_newAtom 10 = .ok (.if_icmp .lt 10, 3) := by decide +kernel
theorem dX3_newAtom_13 : decode cX3_newAtom 13 = .ok (.aload_n 0, 1) := by decide +kernel
theorem dX3_newAtom_14 : decode cX3_newAtom 14 = .ok (.bipush 6, 2) := by decide +kernel
theorem dX3_newAtom_16 : decode cX3_newAtom 16 = .ok (.invokevirtual 313, 3) := by decide +kernel
theorem dX3_newAtom_19 : decode cX3_newAtom 19 = .ok (.return_, 1) := by decide +kernel
theorem dX3_newAtom_20 : decode cX3_newAtom 20 = .ok (.aload_n 0, 1) := by decide +kernel
theorem dX3_newAtom_21 : decode cX3_newAtom 21 = .ok (.getfield 14, 3) := by decide +kernel
theorem dX3_newAtom_24 : decode cX3_newAtom 24 = .ok (.dup, 1) := by decide +kernel
theorem dX3_newAtom_25 : decode cX3_newAtom 25 = .ok (.getfield 122, 3) := by decide +kernel
theorem dX3_newAtom_28 : decode cX3_newAtom 28 = .ok (.iconst 1, 1) := by decide +kernel
theorem dX3_newAtom_29 : decode cX3_newAtom 29 = .ok (.iadd, 1) := by decide +kernel
theorem dX3_newAtom_30 : decode cX3_newAtom 30 = .ok (.putfield 122, 3) := by decide +kernel
theorem dX3_newAtom_33 : decode cX3_newAtom 33 = .ok (.aload_n 0, 1) := by decide +kernel
theorem dX3_newAtom_34 : decode cX3_newAtom 34 = .ok (.ldc_w 469, 3) := by decide +kernel
theorem dX3_newAtom_37 : decode cX3_newAtom 37 = .ok (.aload_n 0, 1) := by decide +kernel
theorem dX3_newAtom_38 : decode cX3_newAtom 38 = .ok (.getfield 14, 3) := by decide +kernel
theorem dX3_newAtom_41 : decode cX3_newAtom 41 = .ok (.getfield 122, 3) := by decide +kernel
theorem dX3_newAtom_44 : decode cX3_newAtom 44 = .ok (.ior, 1) := by decide +kernel
theorem dX3_newAtom_45 : decode cX3_newAtom 45 = .ok (.invokevirtual 391, 3) := by decide +kernel
theorem dX3_newAtom_48 : decode cX3_newAtom 48 = .ok (.return_, 1) := by decide +kernel
theorem dX3_nextMember_0 : decode cX3_nextMember 0 = .ok (.aload_n 1, 1) := by decide +kernel
theorem dX3_nextMember_1 : decode cX3_nextMember 1 = .ok (.iload_n 2, 1) := by decide +kernel
theorem dX3_nextMember_2 : decode cX3_nextMember 2 = .ok (.iaload, 1) := by decide +kernel
theorem dX3_nextMember_3 : decode cX3_nextMember 3 = .ok (.istore 5, 2) := by decide +kernel
theorem dX3_nextMember_5 : decode cX3_nextMember 5 = .ok (.aload_n 1, 1) := by decide +kernel
theorem dX3_nextMember_6 : decode cX3_nextMember 6 = .ok (.iload_n 2, 1) := by decide +kernel
theorem dX3_nextMember_7 : decode cX3_nextMember 7 = .ok (.iconst 1, 1) := by decide +kernel
theorem dX3_nextMember_8 : decode cX3_nextMember 8 = .ok (.iadd, 1) := by decide +kernel
theorem dX3_nextMember_9 : decode cX3_nextMember 9 = .ok (.iaload, 1) := by decide +kernel
theorem dX3_nextMember_10 : decode cX3_nextMember 10 = .ok (.invokestatic 388, 3) := by decide +kernel
theorem dX3_nextMember_13 : decode cX3_nextMember 13 = .ok (.istore 6, 2) := by decide +kernel
theorem dX3_nextMember_15 : decode cX3_nextMember 15 = .ok (.iload 6, 2) := by decide +kernel
theorem dX3_nextMember_17 : decode cX3_nextMember 17 = .ok (.aload_n 0, 1) := by decide +kernel
theorem dX3_nextMember_18 : decode cX3_nextMember 18 = .ok (.getfield 39, 3) := by decide +kernel
theorem dX3_nextMember_21 : decode cX3_nextMember 21 = .ok (.iload 5, 2) := by decide +kernel
theorem dX3_nextMember_23 : decode cX3_nextMember 23 = .ok (.invokevirtual 399, 3) := by decide +kernel
theorem dX3_nextMember_26 : decode cX3_nextMember 26 = .ok (.if_icmp .lt 32, 3) := by decide +kernel
theorem dX3_nextMember_29 : decode cX3_nextMember 29 = .ok (.aload_n 0, 1) := by decide +kernel
theorem dX3_nextMember_30 : decode cX3_nextMember 30 = .ok (.aload_n 1, 1) := by decide +kernel
theorem dX3_nextMember_31 : decode cX3_nextMember 31 = .ok (.iload_n 2, 1) := by decide +kernel
theorem dX3_nextMember_32 : decode cX3_nextMember 32 = .ok (.iload 4, 2) := by decide +kernel
theorem dX3_nextMember_34 : decode cX3_nextMember 34 = .ok (.invokevirtual 513, 3) := by decide +kernel
theorem dX3_nextMember_37 : decode cX3_nextMember 37 = .ok (.aload_n 0, 1) := by decide +kernel
theorem dX3_nextMember_38 : decode cX3_nextMember 38 = .ok (.getfield 14, 3) := by decide +kernel
theorem dX3_nextMember_41 : decode cX3_nextMember 41 = .ok (.iload_n 3, 1) := by decide +kernel
theorem dX3_nextMember_42 : decode cX3_nextMember 42 = .ok (.aload_n 0, 1) := by decide +kernel
theorem dX3_nextMember_43 : decode cX3_nextMember 43 = .ok (.getfield 58, 3) := by decide +kernel
theorem dX3_nextMember_46 : decode cX3_nextMember 46 = .ok (.getfield 241, 3) := by decide +kernel
theorem dX3_nextMember_49 : decode cX3_nextMember 49 = .ok (.iload_n 3, 1) := by decide +kernel
theorem dX3_nextMember_50 : decode cX3_nextMember 50 = .ok (.iconst 1, 1) := by decide +kernel
theorem dX3_nextMember_51 : decode cX3_nextMember 51 = .ok (.iadd, 1) := by decide +kernel
theorem dX3_nextMember_52 : decode cX3_nextMember 52 = .ok (.iaload, 1) := by decide +kernel
theorem dX3_nextMember_53 : decode cX3_nextMember 53 = .ok (.iadd, 1) := by decide +kernel
theorem dX3_nextMember_54 : decode cX3_nextMember 54 = .ok (.putfield 78, 3) := by decide +kernel
theorem dX3_nextMember_57 : decode cX3_nextMember 57 = .ok (.return_, 1) := by decide +kernel
theorem dX3_nextMember_58 : decode cX3_nextMember 58 = .ok (.aload_n 1, 1) := by decide +kernel
theorem dX3_nextMember_59 : decode cX3_nextMember 59 = .ok (.iload_n 2, 1) := by decide +kernel
theorem dX3_nextMember_60 : decode cX3_nextMember 60 = .ok (.iconst 1, 1) := by decide +kernel
theorem dX3_nextMember_61 : decode cX3_nextMember 61 = .ok (.iadd, 1) := by decide +kernel
theorem dX3_nextMember_62 : decode cX3_nextMember 62 = .ok (.iload 6, 2) := by decide +kernel
theorem dX3_nextMember_64 : decode cX3_nextMember 64 = .ok (.iconst 1, 1) := by decide +kernel
theorem dX3_nextMember_65 : decode cX3_nextMember 65 = .ok (.iadd, 1) := by decide +kernel
theorem dX3_nextMember_66 : decode cX3_nextMember 66 = .ok (.invokestatic 182, 3) := by decide +kernel
theorem dX3_nextMember_69 : decode cX3_nextMember 69 = .ok (.iastore, 1) := by decide +kernel
theorem dX3_nextMember_70 : decode cX3_nextMember 70 = .ok (.aload_n 0, 1) := by decide +kernel
theorem dX3_nextMember_71 : decode cX3_nextMember 71 = .ok (.aload_n 0, 1) := by decide +kernel
theorem dX3_nextMember_72 : decode cX3_nextMember 72 = .ok (.getfield 39, 3) := by decide +kernel
theorem dX3_nextMember_75 : decode cX3_nextMember 75 = .ok (.iload 5, 2) := by decide +kernel
theorem dX3_nextMember_77 : decode cX3_nextMember 77 = .ok (.iload 6, 2) := by decide +kernel
theorem dX3_nextMember_79 : decode cX3_nextMember 79 = .ok (.invokevirtual 473, 3) := by decide +kernel
theorem dX3_nextMember_82 : decode cX3_nextMember 82 = .ok (.invokevirtual 322, 3) := by decide +kernel
theorem dX3_nextMember_85 : decode cX3_nextMember 85 = .ok (.aload_n 0, 1) := by decide +kernel
theorem dX3_nextMember_86 : decode cX3_nextMember 86 = .ok (.getfield 14, 3) := by decide +kernel
theorem dX3_nextMember_89 : decode cX3_nextMember 89 = .ok (.iload_n 3, 1) := by decide +kernel
theorem dX3_nextMember_90 : decode cX3_nextMember 90 = .ok (.iconst 2, 1) := by decide +kernel
theorem dX3_nextMember_91 : decode cX3_nextMember 91 = .ok (.iadd, 1) := by decide +kernel
theorem dX3_nextMember_92 : decode cX3_nextMember 92 = .ok (.putfield 78, 3) := by decide +kernel
theorem dX3_nextMember_95 : decode cX3_nextMember 95 = .ok (.aload_n 0, 1) := by decide +kernel
theorem dX3_nextMember_96 : decode cX3_nextMember 96 = .ok (.iconst 1, 1) := by decide +kernel
theorem dX3_nextMember_97 : decode cX3_nextMember 97 = .ok (.invokevirtual 319, 3) := by decide +kernel
theorem dX3_nextMember_100 : decode cX3_nextMember 100 = .ok (.return_, 1) := by decide +kernel
theorem dX3_open_0 : decode cX3_open 0 = .ok (.aload_n 0, 1) := by decide +kernel
theorem dX3_open_1 : decode cX3_open 1 = .ok (.aload_n 1, 1) := by decide +kernel
theorem dX3_open_2 : decode cX3_open 2 = .ok (.putfield 58, 3) := by decide +kernel
theorem dX3_open_5 : decode cX3_open 5 = .ok (.aload_n 0, 1) := by decide +kernel
theorem dX3_open_6 : decode cX3_open 6 = .ok (.lload_n 2, 1) := by decide +kernel
theorem dX3_open_7 : decode cX3_open 7 = .ok (.putfield 62, 3) := by decide +kernel
theorem dX3_open_10 : decode cX3_open 10 = .ok (.aload_n 0, 1) := by decide +kernel
theorem dX3_open_11 : decode cX3_open 11 = .ok (.getfield 35, 3) := by decide +kernel
theorem dX3_open_14 : decode cX3_open 14 = .ok (.invokevirtual 66, 3) := by decide +kernel
theorem dX3_open_17 : decode cX3_open 17 = .ok (.aload_n 0, 1) := by decide +kernel
theorem dX3_open_18 : decode cX3_open 18 = .ok (.invokevirtual 69, 3) := by decide +kernel
theorem dX3_open_21 : decode cX3_open 21 = .ok (.return_, 1) := by decide +kernel
theorem dX3_partly_0 : decode cX3_partly 0 = .ok (.iload_n 1, 1) := by decide +kernel
theorem dX3_partly_1 : decode cX3_partly 1 = .ok (.tableswitch 224 96 100 #[35, 91, 35, 162, 191], 35) := by decide +kernel
theorem dX3_partly_36 : decode cX3_partly 36 = .ok (.aload_n 0, 1) := by decide +kernel
theorem dX3_partly_37 : decode cX3_partly 37 = .ok (.getfield 14, 3) := by decide +kernel
theorem dX3_partly_40 : decode cX3_partly 40 = .ok (.dup, 1) := by decide +kernel
theorem dX3_partly_41 : decode cX3_partly 41 = .ok (.getfield 84, 3) := by decide +kernel
theorem dX3_partly_44 : decode cX3_partly 44 = .ok (.iconst 1, 1) := by decide +kernel
theorem dX3_partly_45 : decode cX3_partly 45 = .ok (.isub, 1) := by decide +kernel
theorem dX3_partly_46 : decode cX3_partly 46 = .ok (.putfield 84, 3) := by decide +kernel
theorem dX3_partly_49 : decode cX3_partly 49 = .ok (.aload_n 0, 1) := by decide +kernel
theorem dX3_partly_50 : decode cX3_partly 50 = .ok (.aload_n 0, 1) := by decide +kernel
theorem dX3_partly_51 : decode cX3_partly 51 = .ok (.getfield 47, 3) := by decide +kernel
theorem dX3_partly_54 : decode cX3_partly 54 = .ok (.iload_n 1, 1) := by decide +kernel
theorem dX3_partly_55 : decode cX3_partly 55 = .ok (.aload_n 0, 1) := by decide +kernel
theorem dX3_partly_56 : decode cX3_partly 56 = .ok (.getfield 18, 3) := by decide +kernel
theorem dX3_partly_59 : decode cX3_partly 59 = .ok (.aload_n 0, 1) := by decide +kernel
theorem dX3_partly_60 : decode cX3_partly 60 = .ok (.getfield 14, 3) := by decide +kernel
theorem dX3_partly_63 : decode cX3_partly 63 = .ok (.getfield 84, 3) := by decide +kernel
theorem dX3_partly_66 : decode cX3_partly 66 = .ok (.iconst 1, 1) := by decide +kernel
theorem dX3_partly_67 : decode cX3_partly 67 = .ok (.isub, 1) := by decide +kernel
theorem dX3_partly_68 : decode cX3_partly 68 = .ok (.iaload, 1) := by decide +kernel
theorem dX3_partly_69 : decode cX3_partly 69 = .ok (.aload_n 0, 1) := by decide +kernel
theorem dX3_partly_70 : decode cX3_partly 70 = .ok (.getfield 18, 3) := by decide +kernel
theorem dX3_partly_73 : decode cX3_partly 73 = .ok (.aload_n 0, 1) := by decide +kernel
theorem dX3_partly_74 : decode cX3_partly 74 = .ok (.getfield 14, 3) := by decide +kernel
theorem dX3_partly_77 : decode cX3_partly 77 = .ok (.getfield 84, 3) := by decide +kernel
theorem dX3_partly_80 : decode cX3_partly 80 = .ok (.iaload, 1) := by decide +kernel
theorem dX3_partly_81 : decode cX3_partly 81 = .ok (.ldc 136, 2) := by decide +kernel
theorem dX3_partly_83 : decode cX3_partly 83 = .ok (.invokevirtual 540, 3) := by decide +kernel
theorem dX3_partly_86 : decode cX3_partly 86 = .ok (.invokevirtual 280, 3) := by decide +kernel
theorem dX3_partly_89 : decode cX3_partly 89 = .ok (.goto 142, 3) := by decide +kernel
theorem dX3_partly_92 : decode cX3_partly 92 = .ok (.aload_n 0, 1) := by decide +kernel
theorem dX3_partly_93 : decode cX3_partly 93 = .ok (.getfield 14, 3) := by decide +kernel
theorem dX3_partly_96 : decode cX3_partly 96 = .ok (.aload_n 0, 1) := by decide +kernel
theorem dX3_partly_97 : decode cX3_partly 97 = .ok (.getfield 14, 3) := by decide +kernel
theorem dX3_partly_100 : decode cX3_partly 100 = .ok (.getfield 84, 3) := by decide +kernel
theorem dX3_partly_103 : decode cX3_partly 103 = .ok (.iconst 2, 1) := by decide +kernel
theorem dX3_partly_104 : decode cX3_partly 104 = .ok (.isub, 1) := by decide +kernel
theorem dX3_partly_105 : decode cX3_partly 105 = .ok (.putfield 84, 3) := by decide +kernel
theorem dX3_partly_108 : decode cX3_partly 108 = .ok (.aload_n 0, 1) := by decide +kernel
theorem dX3_partly_109 : decode cX3_partly 109 = .ok (.aload_n 0, 1) := by decide +kernel
theorem dX3_partly_110 : decode cX3_partly 110 = .ok (.getfield 47, 3) := by decide +kernel
theorem dX3_partly_113 : decode cX3_partly 113 = .ok (.iload_n 1, 1) := by decide +kernel
theorem dX3_partly_114 : decode cX3_partly 114 = .ok (.aload_n 0, 1) := by decide +kernel
theorem dX3_partly_115 : decode cX3_partly 115 = .ok (.getfield 18, 3) := by decide +kernel
theorem dX3_partly_118 : decode cX3_partly 118 = .ok (.aload_n 0, 1) := by decide +kernel
theorem dX3_partly_119 : decode cX3_partly 119 = .ok (.getfield 14, 3) := by decide +kernel
theorem dX3_partly_122 : decode cX3_partly 122 = .ok (.getfield 84, 3) := by decide +kernel
theorem dX3_partly_125 : decode cX3_partly 125 = .ok (.iconst 1, 1) := by decide +kernel
theorem dX3_partly_126 : decode cX3_partly 126 = .ok (.isub, 1) := by decide +kernel
theorem dX3_partly_127 : decode cX3_partly 127 = .ok (.iaload, 1) := by decide +kernel
theorem dX3_partly_128 : decode cX3_partly 128 = .ok (.aload_n 0, 1) := by decide +kernel
theorem dX3_partly_129 : decode cX3_partly 129 = .ok (.getfield 18, 3) := by decide +kernel
theorem dX3_partly_132 : decode cX3_partly 132 = .ok (.aload_n 0, 1) := by decide +kernel
theorem dX3_partly_133 : decode cX3_partly 133 = .ok (.getfield 14, 3) := by decide +kernel
theorem dX3_partly_136 : decode cX3_partly 136 = .ok (.getfield 84, 3) := by decide +kernel
theorem dX3_partly_139 : decode cX3_partly 139 = .ok (.iaload, 1) := by decide +kernel
theorem dX3_partly_140 : decode cX3_partly 140 = .ok (.aload_n 0, 1) := by decide +kernel
theorem dX3_partly_141 : decode cX3_partly 141 = .ok (.getfield 18, 3) := by decide +kernel
theorem dX3_partly_144 : decode cX3_partly 144 = .ok (.aload_n 0, 1) := by decide +kernel
theorem dX3_partly_145 : decode cX3_partly 145 = .ok (.getfield 14, 3) := by decide +kernel
theorem dX3_partly_148 : decode cX3_partly 148 = .ok (.getfield 84, 3) := by decide +kernel
theorem dX3_partly_151 : decode cX3_partly 151 = .ok (.iconst 1, 1) := by decide +kernel
theorem dX3_partly_152 : decode cX3_partly 152 = .ok (.iadd, 1) := by decide +kernel
theorem dX3_partly_153 : decode cX3_partly 153 = .ok (.iaload, 1) := by decide +kernel
theorem dX3_partly_154 : decode cX3_partly 154 = .ok (.invokevirtual 540, 3) := by decide +kernel
theorem dX3_partly_157 : decode cX3_partly 157 = .ok (.invokevirtual 280, 3) := by decide +kernel
theorem dX3_partly_160 : decode cX3_partly 160 = .ok (.goto 71, 3) := by decide +kernel
theorem dX3_partly_163 : decode cX3_partly 163 = .ok (.aload_n 0, 1) := by decide +kernel
theorem dX3_partly_164 : decode cX3_partly 164 = .ok (.aload_n 0, 1) := by decide +kernel
theorem dX3_partly_165 : decode cX3_partly 165 = .ok (.getfield 39, 3) := by decide +kernel
theorem dX3_partly_168 : decode cX3_partly 168 = .ok (.aload_n 0, 1) := by decide +kernel
theorem dX3_partly_169 : decode cX3_partly 169 = .ok (.getfield 18, 3) := by decide +kernel
theorem dX3_partly_172 : decode cX3_partly 172 = .ok (.aload_n 0, 1) := by decide +kernel
theorem dX3_partly_173 : decode cX3_partly 173 = .ok (.getfield 14, 3) := by decide +kernel
theorem dX3_partly_176 : decode cX3_partly 176 = .ok (.getfield 84, 3) := by decide +kernel
theorem dX3_partly_179 : decode cX3_partly 179 = .ok (.iconst 1, 1) := by decide +kernel
theorem dX3_partly_180 : decode cX3_partly 180 = .ok (.isub, 1) := by decide +kernel
theorem dX3_partly_181 : decode cX3_partly 181 = .ok (.iaload, 1) := by decide +kernel
theorem dX3_partly_182 : decode cX3_partly 182 = .ok (.iload_n 2, 1) := by decide +kernel
theorem dX3_partly_183 : decode cX3_partly 183 = .ok (.invokevirtual 452, 3) := by decide +kernel
theorem dX3_partly_186 : decode cX3_partly 186 = .ok (.invokevirtual 322, 3) := by decide +kernel
theorem dX3_partly_189 : decode cX3_partly 189 = .ok (.goto 42, 3) := by decide +kernel
theorem dX3_partly_192 : decode cX3_partly 192 = .ok (.aload_n 0, 1) := by decide +kernel
theorem dX3_partly_193 : decode cX3_partly 193 = .ok (.getfield 39, 3) := by decide +kernel
theorem dX3_partly_196 : decode cX3_partly 196 = .ok (.aload_n 0, 1) := by decide +kernel
theorem dX3_partly_197 : decode cX3_partly 197 = .ok (.getfield 18, 3) := by decide +kernel
theorem dX3_partly_200 : decode cX3_partly 200 = .ok (.aload_n 0, 1) := by decide +kernel
theorem dX3_partly_201 : decode cX3_partly 201 = .ok (.getfield 14, 3) := by decide +kernel
theorem dX3_partly_204 : decode cX3_partly 204 = .ok (.getfield 84, 3) := by decide +kernel
theorem dX3_partly_207 : decode cX3_partly 207 = .ok (.iconst 1, 1) := by decide +kernel
theorem dX3_partly_208 : decode cX3_partly 208 = .ok (.isub, 1) := by decide +kernel
theorem dX3_partly_209 : decode cX3_partly 209 = .ok (.iaload, 1) := by decide +kernel
theorem dX3_partly_210 : decode cX3_partly 210 = .ok (.invokevirtual 396, 3) := by decide +kernel
theorem dX3_partly_213 : decode cX3_partly 213 = .ok (.iconst 5, 1) := by decide +kernel
theorem dX3_partly_214 : decode cX3_partly 214 = .ok (.if_icmp .eq 17, 3) := by decide +kernel
theorem dX3_partly_217 : decode cX3_partly 217 = .ok (.aload_n 0, 1) := by decide +kernel
theorem dX3_partly_218 : decode cX3_partly 218 = .ok (.iconst 1, 1) := by decide +kernel
theorem dX3_partly_219 : decode cX3_partly 219 = .ok (.invokevirtual 313, 3) := by decide +kernel
theorem dX3_partly_222 : decode cX3_partly 222 = .ok (.goto 9, 3) := by decide +kernel
theorem dX3_partly_225 : decode cX3_partly 225 = .ok (.aload_n 0, 1) := by decide +kernel
theorem dX3_partly_226 : decode cX3_partly 226 = .ok (.iload_n 2, 1) := by decide +kernel
theorem dX3_partly_227 : decode cX3_partly 227 = .ok (.iload_n 3, 1) := by decide +kernel
theorem dX3_partly_228 : decode cX3_partly 228 = .ok (.invokevirtual 544, 3) := by decide +kernel
theorem dX3_partly_231 : decode cX3_partly 231 = .ok (.return_, 1) := by decide +kernel
theorem dX3_print_0 : decode cX3_print 0 = .ok (.aload_n 0, 1) := by decide +kernel
theorem dX3_print_1 : decode cX3_print 1 = .ok (.getfield 14, 3) := by decide +kernel
theorem dX3_print_4 : decode cX3_print 4 = .ok (.getfield 84, 3) := by decide +kernel
theorem dX3_print_7 : decode cX3_print 7 = .ok (.iload_n 1, 1) := by decide +kernel
theorem dX3_print_8 : decode cX3_print 8 = .ok (.isub, 1) := by decide +kernel
theorem dX3_print_9 : decode cX3_print 9 = .ok (.istore_n 2, 1) := by decide +kernel
theorem dX3_print_10 : decode cX3_print 10 = .ok (.iload_n 2, 1) := by decide +kernel
theorem dX3_print_11 : decode cX3_print 11 = .ok (.aload_n 0, 1) := by decide +kernel
theorem dX3_print_12 : decode cX3_print 12 = .ok (.getfield 14, 3) := by decide +kernel
theorem dX3_print_15 : decode cX3_print 15 = .ok (.getfield 84, 3) := by decide +kernel
theorem dX3_print_18 : decode cX3_print 18 = .ok (.if_icmp .ge 172, 3) := by decide +kernel
theorem dX3_print_21 : decode cX3_print 21 = .ok (.iload_n 2, 1) := by decide +kernel
theorem dX3_print_22 : decode cX3_print 22 = .ok (.aload_n 0, 1) := by decide +kernel
theorem dX3_print_23 : decode cX3_print 23 = .ok (.getfield 14, 3) := by decide +kernel
theorem dX3_print_26 : decode cX3_print 26 = .ok (.getfield 84, 3) := by decide +kernel
theorem dX3_print_29 : decode cX3_print 29 = .ok (.iload_n 1, 1) := by decide +kernel
theorem dX3_print_30 : decode cX3_print 30 = .ok (.isub, 1) := by decide +kernel
theorem dX3_print_31 : decode cX3_print 31 = .ok (.if_icmp .le 24, 3) := by decide +kernel
theorem dX3_print_34 : decode cX3_print 34 = .ok (.aload_n 0, 1) := by decide +kernel
theorem dX3_print_35 : decode cX3_print 35 = .ok (.getfield 18, 3) := by decide +kernel
theorem dX3_print_38 : decode cX3_print 38 = .ok (.iload_n 2, 1) := by decide +kernel
theorem dX3_print_39 : decode cX3_print 39 = .ok (.iaload, 1) := by decide +kernel
theorem dX3_print_40 : decode cX3_print 40 = .ok (.aload_n 0, 1) := by decide +kernel
theorem dX3_print_41 : decode cX3_print 41 = .ok (.getfield 18, 3) := by decide +kernel
theorem dX3_print_44 : decode cX3_print 44 = .ok (.iload_n 2, 1) := by decide +kernel
theorem dX3_print_45 : decode cX3_print 45 = .ok (.iconst 1, 1) := by decide +kernel
theorem dX3_print_46 : decode cX3_print 46 = .ok (.isub, 1) := by decide +kernel
theorem dX3_print_47 : decode cX3_print 47 = .ok (.iaload, 1) := by decide +kernel
theorem dX3_print_48 : decode cX3_print 48 = .ok (.if_icmp .ne 7, 3) := by decide +kernel
theorem dX3_print_51 : decode cX3_print 51 = .ok (.iconst 1, 1) := by decide +kernel
theorem dX3_print_52 : decode cX3_print 52 = .ok (.goto 4, 3) := by decide +kernel
theorem dX3_print_55 : decode cX3_print 55 = .ok (.iconst 0, 1) := by decide +kernel
theorem dX3_print_56 : decode cX3_print 56 = .ok (.istore_n 3, 1) := by decide +kernel
theorem dX3_print_57 : decode cX3_print 57 = .ok (.aload_n 0, 1) := by decide +kernel
theorem dX3_print_58 : decode cX3_print 58 = .ok (.getfield 14, 3) := by decide +kernel
theorem dX3_print_61 : decode cX3_print 61 = .ok (.getfield 125, 3) := by decide +kernel
theorem dX3_print_64 : decode cX3_print 64 = .ok (.ldc_w 300, 3) := by decide +kernel
theorem dX3_print_67 : decode cX3_print 67 = .ok (.if_icmp .lt 42, 3) := by decide +kernel
theorem dX3_print_70 : decode cX3_print 70 = .ok (.aload_n 0, 1) := by decide +kernel
theorem dX3_print_71 : decode cX3_print 71 = .ok (.getfield 39, 3) := by decide +kernel
theorem dX3_print_74 : decode cX3_print 74 = .ok (.aload_n 0, 1) := by decide +kernel
theorem dX3_print_75 : decode cX3_print 75 = .ok (.getfield 18, 3) := by decide +kernel
theorem dX3_print_78 : decode cX3_print 78 = .ok (.iload_n 2, 1) := by decide +kernel
theorem dX3_print_79 : decode cX3_print 79 = .ok (.iaload, 1) := by decide +kernel
theorem dX3_print_80 : decode cX3_print 80 = .ok (.invokevirtual 396, 3) := by decide +kernel
theorem dX3_print_83 : decode cX3_print 83 = .ok (.iconst 4, 1) := by decide +kernel
theorem dX3_print_84 : decode cX3_print 84 = .ok (.if_icmp .ne 25, 3) := by decide +kernel
theorem dX3_print_87 : decode cX3_print 87 = .ok (.aload_n 0, 1) := by decide +kernel
theorem dX3_print_88 : decode cX3_print 88 = .ok (.aload_n 0, 1) := by decide +kernel
theorem dX3_print_89 : decode cX3_print 89 = .ok (.getfield 39, 3) := by decide +kernel
theorem dX3_print_92 : decode cX3_print 92 = .ok (.aload_n 0, 1) := by decide +kernel
theorem dX3_print_93 : decode cX3_print 93 = .ok (.getfield 18, 3) := by decide +kernel
theorem dX3_print_96 : decode cX3_print 96 = .ok (.iload_n 2, 1) := by decide +kernel
theorem dX3_print_97 : decode cX3_print 97 = .ok (.iaload, 1) := by decide +kernel
theorem dX3_print_98 : decode cX3_print 98 = .ok (.invokevirtual 399, 3) := by decide +kernel
theorem dX3_print_101 : decode cX3_print 101 = .ok (.iconst 1, 1) := by decide +kernel
theorem dX3_print_102 : decode cX3_print 102 = .ok (.iadd, 1) := by decide +kernel
theorem dX3_print_103 : decode cX3_print 103 = .ok (.invokevirtual 402, 3) := by decide +kernel
theorem dX3_print_106 : decode cX3_print 106 = .ok (.goto 78, 3) := by decide +kernel
theorem dX3_print_109 : decode cX3_print 109 = .ok (.aload_n 0, 1) := by decide +kernel
theorem dX3_print_110 : decode cX3_print 110 = .ok (.getfield 14, 3) := by decide +kernel
theorem dX3_print_113 : decode cX3_print 113 = .ok (.getfield 125, 3) := by decide +kernel
theorem dX3_print_116 : decode cX3_print 116 = .ok (.ldc_w 300, 3) := by decide +kernel
theorem dX3_print_119 : decode cX3_print 119 = .ok (.if_icmp .lt 21, 3) := by decide +kernel
theorem dX3_print_122 : decode cX3_print 122 = .ok (.iload_n 3, 1) := by decide +kernel
theorem dX3_print_123 : decode cX3_print 123 = .ok (.ifCond .eq 17, 3) := by decide +kernel
theorem dX3_print_126 : decode cX3_print 126 = .ok (.aload_n 0, 1) := by decide +kernel
theorem dX3_print_127 : decode cX3_print 127 = .ok (.aload_n 0, 1) := by decide +kernel
theorem dX3_print_128 : decode cX3_print 128 = .ok (.getfield 51, 3) := by decide +kernel
theorem dX3_print_131 : decode cX3_print 131 = .ok (.getfield 405, 3) := by decide +kernel
theorem dX3_print_134 : decode cX3_print 134 = .ok (.invokevirtual 402, 3) := by decide +kernel
theorem dX3_print_137 : decode cX3_print 137 = .ok (.goto 47, 3) := by decide +kernel
theorem dX3_print_140 : decode cX3_print 140 = .ok (.aload_n 0, 1) := by decide +kernel
theorem dX3_print_141 : decode cX3_print 141 = .ok (.getfield 51, 3) := by decide +kernel
theorem dX3_print_144 : decode cX3_print 144 = .ok (.aload_n 0, 1) := by decide +kernel
theorem dX3_print_145 : decode cX3_print 145 = .ok (.getfield 18, 3) := by decide +kernel
theorem dX3_print_148 : decode cX3_print 148 = .ok (.iload_n 2, 1) := by decide +kernel
theorem dX3_print_149 : decode cX3_print 149 = .ok (.iaload, 1) := by decide +kernel
theorem dX3_print_150 : decode cX3_print 150 = .ok (.invokevirtual 409, 3) := by decide +kernel
theorem dX3_print_153 : decode cX3_print 153 = .ok (.aload_n 0, 1) := by decide +kernel
theorem dX3_print_154 : decode cX3_print 154 = .ok (.getfield 51, 3) := by decide +kernel
theorem dX3_print_157 : decode cX3_print 157 = .ok (.iload_n 2, 1) := by decide +kernel
theorem dX3_print_158 : decode cX3_print 158 = .ok (.aload_n 0, 1) := by decide +kernel
theorem dX3_print_159 : decode cX3_print 159 = .ok (.getfield 14, 3) := by decide +kernel
theorem dX3_print_162 : decode cX3_print 162 = .ok (.getfield 84, 3) := by decide +kernel
theorem dX3_print_165 : decode cX3_print 165 = .ok (.iconst 1, 1) := by decide +kernel
theorem dX3_print_166 : decode cX3_print 166 = .ok (.isub, 1) := by decide +kernel
theorem dX3_print_167 : decode cX3_print 167 = .ok (.if_icmp .ge 8, 3) := by decide +kernel
theorem dX3_print_170 : decode cX3_print 170 = .ok (.bipush 32, 2) := by decide +kernel
theorem dX3_print_172 : decode cX3_print 172 = .ok (.goto 5, 3) := by decide +kernel
theorem dX3_print_175 : decode cX3_print 175 = .ok (.bipush 10, 2) := by decide +kernel
theorem dX3_print_177 : decode cX3_print 177 = .ok (.invokevirtual 412, 3) := by decide +kernel
theorem dX3_print_180 : decode cX3_print 180 = .ok (.aload_n 0, 1) := by decide +kernel
theorem dX3_print_181 : decode cX3_print 181 = .ok (.invokevirtual 415, 3) := by decide +kernel
theorem dX3_print_184 : decode cX3_print 184 = .ok (.iinc 2 1, 3) := by decide +kernel
theorem dX3_print_187 : decode cX3_print 187 = .ok (.goto (-177), 3) := by decide +kernel
theorem dX3_print_190 : decode cX3_print 190 = .ok (.aload_n 0, 1) := by decide +kernel
theorem dX3_print_191 : decode cX3_print 191 = .ok (.getfield 14, 3) := by decide +kernel
theorem dX3_print_194 : decode cX3_print 194 = .ok (.aload_n 0, 1) := by decide +kernel
theorem dX3_print_195 : decode cX3_print 195 = .ok (.getfield 14, 3) := by decide +kernel
theorem dX3_print_198 : decode cX3_print 198 = .ok (.getfield 84, 3) := by decide +kernel
theorem dX3_print_201 : decode cX3_print 201 = .ok (.iload_n 1, 1) := by decide +kernel
theorem dX3_print_202 : decode cX3_print 202 = .ok (.isub, 1) := by decide +kernel
theorem dX3_print_203 : decode cX3_print 203 = .ok (.putfield 84, 3) := by decide +kernel
theorem dX3_print_206 : decode cX3_print 206 = .ok (.return_, 1) := by decide +kernel
theorem dX3_push_0 : decode cX3_push 0 = .ok (.aload_n 0, 1) := by decide +kernel
theorem dX3_push_1 : decode cX3_push 1 = .ok (.getfield 14, 3) := by decide +kernel
theorem dX3_push_4 : decode cX3_push 4 = .ok (.getfield 84, 3) := by decide +kernel
theorem dX3_push_7 : decode cX3_push 7 = .ok (.aload_n 0, 1) := by decide +kernel
theorem dX3_push_8 : decode cX3_push 8 = .ok (.getfield 18, 3) := by decide +kernel
theorem dX3_push_11 : decode cX3_push 11 = .ok (.arraylength, 1) := by decide +kernel
theorem dX3_push_12 : decode cX3_push 12 = .ok (.if_icmp .lt 11, 3) := by decide +kernel
theorem dX3_push_15 : decode cX3_push 15 = .ok (.aload_n 0, 1) := by decide +kernel
theorem dX3_push_16 : decode cX3_push 16 = .ok (.iconst 1, 1) := by decide +kernel
theorem dX3_push_17 : decode cX3_push 17 = .ok (.invokevirtual 301, 3) := by decide +kernel
theorem dX3_push_20 : decode cX3_push 20 = .ok (.ifCond .eq 29, 3) := by decide +kernel
theorem dX3_push_23 : decode cX3_push 23 = .ok (.aload_n 0, 1) := by decide +kernel
theorem dX3_push_24 : decode cX3_push 24 = .ok (.getfield 18, 3) := by decide +kernel
theorem dX3_push_27 : decode cX3_push 27 = .ok (.aload_n 0, 1) := by decide +kernel
theorem dX3_push_28 : decode cX3_push 28 = .ok (.getfield 14, 3) := by decide +kernel
theorem dX3_push_31 : decode cX3_push 31 = .ok (.getfield 84, 3) := by decide +kernel
theorem dX3_push_34 : decode cX3_push 34 = .ok (.iload_n 1, 1) := by decide +kernel
theorem dX3_push_35 : decode cX3_push 35 = .ok (.iastore, 1) := by decide +kernel
theorem dX3_push_36 : decode cX3_push 36 = .ok (.aload_n 0, 1) := by decide +kernel
theorem dX3_push_37 : decode cX3_push 37 = .ok (.getfield 14, 3) := by decide +kernel
theorem dX3_push_40 : decode cX3_push 40 = .ok (.dup, 1) := by decide +kernel
theorem dX3_push_41 : decode cX3_push 41 = .ok (.getfield 84, 3) := by decide +kernel
theorem dX3_push_44 : decode cX3_push 44 = .ok (.iconst 1, 1) := by decide +kernel
theorem dX3_push_45 : decode cX3_push 45 = .ok (.iadd, 1) := by decide +kernel
theorem dX3_push_46 : decode cX3_push 46 = .ok (.putfield 84, 3) := by decide +kernel
theorem dX3_push_49 : decode cX3_push 49 = .ok (.return_, 1) := by decide +kernel
theorem dX3_pushAll_0 : decode cX3_pushAll 0 = .ok (.aload_n 0, 1) := by decide +kernel
theorem dX3_pushAll_1 : decode cX3_pushAll 1 = .ok (.iload_n 2, 1) := by decide +kernel
theorem dX3_pushAll_2 : decode cX3_pushAll 2 = .ok (.invokevirtual 301, 3) := by decide +kernel
theorem dX3_pushAll_5 : decode cX3_pushAll 5 = .ok (.ifCond .eq 47, 3) := by decide +kernel
theorem dX3_pushAll_8 : decode cX3_pushAll 8 = .ok (.iconst 0, 1) := by decide +kernel
theorem dX3_pushAll_9 : decode cX3_pushAll 9 = .ok (.istore_n 3, 1) := by decide +kernel
theorem dX3_pushAll_10 : decode cX3_pushAll 10 = .ok (.iload_n 3, 1) := by decide +kernel
theorem dX3_pushAll_11 : decode cX3_pushAll 11 = .ok (.iload_n 2, 1) := by decide +kernel
theorem dX3_pushAll_12 : decode cX3_pushAll 12 = .ok (.if_icmp .ge 24, 3) := by decide +kernel
theorem dX3_pushAll_15 : decode cX3_pushAll 15 = .ok (.aload_n 0, 1) := by decide +kernel
theorem dX3_pushAll_16 : decode cX3_pushAll 16 = .ok (.getfield 18, 3) := by decide +kernel
theorem dX3_pushAll_19 : decode cX3_pushAll 19 = .ok (.aload_n 0, 1) := by decide +kernel
theorem dX3_pushAll_20 : decode cX3_pushAll 20 = .ok (.getfield 14, 3) := by decide +kernel
theorem dX3_pushAll_23 : decode cX3_pushAll 23 = .ok (.getfield 84, 3) := by decide +kernel
theorem dX3_pushAll_26 : decode cX3_pushAll 26 = .ok (.iload_n 3, 1) := by decide +kernel
theorem dX3_pushAll_27 : decode cX3_pushAll 27 = .ok (.iadd, 1) := by decide +kernel
theorem dX3_pushAll_28 : decode cX3_pushAll 28 = .ok (.iload_n 1, 1) := by decide +kernel
theorem dX3_pushAll_29 : decode cX3_pushAll 29 = .ok (.iastore, 1) := by decide +kernel
theorem dX3_pushAll_30 : decode cX3_pushAll 30 = .ok (.iinc 3 1, 3) := by decide +kernel
theorem dX3_pushAll_33 : decode cX3_pushAll 33 = .ok (.goto (-23), 3) := by decide +kernel
theorem dX3_pushAll_36 : decode cX3_pushAll 36 = .ok (.aload_n 0, 1) := by decide +kernel
theorem dX3_pushAll_37 : decode cX3_pushAll 37 = .ok (.getfield 14, 3) := by decide +kernel
theorem dX3_pushAll_40 : decode cX3_pushAll 40 = .ok (.aload_n 0, 1) := by decide +kernel
theorem dX3_pushAll_41 : decode cX3_pushAll 41 = .ok (.getfield 14, 3) := by decide +kernel
theorem dX3_pushAll_44 : decode cX3_pushAll 44 = .ok (.getfield 84, 3) := by decide +kernel
theorem dX3_pushAll_47 : decode cX3_pushAll 47 = .ok (.iload_n 2, 1) := by decide +kernel
theorem dX3_pushAll_48 : decode cX3_pushAll 48 = .ok (.iadd, 1) := by decide +kernel
theorem dX3_pushAll_49 : decode cX3_pushAll 49 = .ok (.putfield 84, 3) := by decide +kernel
theorem dX3_pushAll_52 : decode cX3_pushAll 52 = .ok (.return_, 1) := by decide +kernel
theorem dX3_putOut_0 : decode cX3_putOut 0 = .ok (.aload_n 0, 1) := by decide +kernel
theorem dX3_putOut_1 : decode cX3_putOut 1 = .ok (.getfield 51, 3) := by decide +kernel
theorem dX3_putOut_4 : decode cX3_putOut 4 = .ok (.getfield 405, 3) := by decide +kernel
theorem dX3_putOut_7 : decode cX3_putOut 7 = .ok (.ldc_w 300, 3) := by decide +kernel
theorem dX3_putOut_10 : decode cX3_putOut 10 = .ok (.aload_n 0, 1) := by decide +kernel
theorem dX3_putOut_11 : decode cX3_putOut 11 = .ok (.getfield 14, 3) := by decide +kernel
theorem dX3_putOut_14 : decode cX3_putOut 14 = .ok (.getfield 125, 3) := by decide +kernel
theorem dX3_putOut_17 : decode cX3_putOut 17 = .ok (.isub, 1) := by decide +kernel
theorem dX3_putOut_18 : decode cX3_putOut 18 = .ok (.invokestatic 418, 3) := by decide +kernel
theorem dX3_putOut_21 : decode cX3_putOut 21 = .ok (.istore_n 1, 1) := by decide +kernel
theorem dX3_putOut_22 : decode cX3_putOut 22 = .ok (.iload_n 1, 1) := by decide +kernel
theorem dX3_putOut_23 : decode cX3_putOut 23 = .ok (.ifCond .le 49, 3) := by decide +kernel
theorem dX3_putOut_26 : decode cX3_putOut 26 = .ok (.aload_n 0, 1) := by decide +kernel
theorem dX3_putOut_27 : decode cX3_putOut 27 = .ok (.aload_n 0, 1) := by decide +kernel
theorem dX3_putOut_28 : decode cX3_putOut 28 = .ok (.getfield 25, 3) := by decide +kernel
theorem dX3_putOut_31 : decode cX3_putOut 31 = .ok (.aload_n 0, 1) := by decide +kernel
theorem dX3_putOut_32 : decode cX3_putOut 32 = .ok (.getfield 14, 3) := by decide +kernel
theorem dX3_putOut_35 : decode cX3_putOut 35 = .ok (.getfield 125, 3) := by decide +kernel
theorem dX3_putOut_38 : decode cX3_putOut 38 = .ok (.iload_n 1, 1) := by decide +kernel
theorem dX3_putOut_39 : decode cX3_putOut 39 = .ok (.iadd, 1) := by decide +kernel
theorem dX3_putOut_40 : decode cX3_putOut 40 = .ok (.ldc_w 300, 3) := by decide +kernel
theorem dX3_putOut_43 : decode cX3_putOut 43 = .ok (.invokestatic 423, 3) := by decide +kernel
theorem dX3_putOut_46 : decode cX3_putOut 46 = .ok (.putfield 25, 3) := by decide +kernel
theorem dX3_putOut_49 : decode cX3_putOut 49 = .ok (.aload_n 0, 1) := by decide +kernel
theorem dX3_putOut_50 : decode cX3_putOut 50 = .ok (.getfield 51, 3) := by decide +kernel
theorem dX3_putOut_53 : decode cX3_putOut 53 = .ok (.getfield 427, 3) := by decide +kernel
theorem dX3_putOut_56 : decode cX3_putOut 56 = .ok (.iconst 0, 1) := by decide +kernel
theorem dX3_putOut_57 : decode cX3_putOut 57 = .ok (.aload_n 0, 1) := by decide +kernel
theorem dX3_putOut_58 : decode cX3_putOut 58 = .ok (.getfield 25, 3) := by decide +kernel
theorem dX3_putOut_61 : decode cX3_putOut 61 = .ok (.aload_n 0, 1) := by decide +kernel
theorem dX3_putOut_62 : decode cX3_putOut 62 = .ok (.getfield 14, 3) := by decide +kernel
theorem dX3_putOut_65 : decode cX3_putOut 65 = .ok (.getfield 125, 3) := by decide +kernel
theorem dX3_putOut_68 : decode cX3_putOut 68 = .ok (.iload_n 1, 1) := by decide +kernel
theorem dX3_putOut_69 : decode cX3_putOut 69 = .ok (.invokestatic 176, 3) := by decide +kernel
theorem dX3_putOut_72 : decode cX3_putOut 72 = .ok (.aload_n 0, 1) := by decide +kernel
theorem dX3_putOut_73 : decode cX3_putOut 73 = .ok (.aload_n 0, 1) := by decide +kernel
theorem dX3_putOut_74 : decode cX3_putOut 74 = .ok (.getfield 51, 3) := by decide +kernel
theorem dX3_putOut_77 : decode cX3_putOut 77 = .ok (.getfield 405, 3) := by decide +kernel
theorem dX3_putOut_80 : decode cX3_putOut 80 = .ok (.invokevirtual 402, 3) := by decide +kernel
theorem dX3_putOut_83 : decode cX3_putOut 83 = .ok (.return_, 1) := by decide +kernel
theorem dX3_read_0 : decode cX3_read 0 = .ok (.aload_n 0, 1) := by decide +kernel
theorem dX3_read_1 : decode cX3_read 1 = .ok (.getfield 14, 3) := by decide +kernel
theorem dX3_read_4 : decode cX3_read 4 = .ok (.getfield 84, 3) := by decide +kernel
theorem dX3_read_7 : decode cX3_read 7 = .ok (.aload_n 0, 1) := by decide +kernel
theorem dX3_read_8 : decode cX3_read 8 = .ok (.getfield 58, 3) := by decide +kernel
theorem dX3_read_11 : decode cX3_read 11 = .ok (.getfield 241, 3) := by decide +kernel
theorem dX3_read_14 : decode cX3_read 14 = .ok (.iload_n 2, 1) := by decide +kernel
theorem dX3_read_15 : decode cX3_read 15 = .ok (.iconst 1, 1) := by decide +kernel
theorem dX3_read_16 : decode cX3_read 16 = .ok (.iadd, 1) := by decide +kernel
theorem dX3_read_17 : decode cX3_read 17 = .ok (.iaload, 1) := by decide +kernel
theorem dX3_read_18 : decode cX3_read 18 = .ok (.isub, 1) := by decide +kernel
theorem dX3_read_19 : decode cX3_read 19 = .ok (.istore_n 3, 1) := by decide +kernel
theorem dX3_read_20 : decode cX3_read 20 = .ok (.aload_n 0, 1) := by decide +kernel
theorem dX3_read_21 : decode cX3_read 21 = .ok (.getfield 58, 3) := by decide +kernel
theorem dX3_read_24 : decode cX3_read 24 = .ok (.getfield 241, 3) := by decide +kernel
theorem dX3_read_27 : decode cX3_read 27 = .ok (.iload_n 2, 1) := by decide +kernel
theorem dX3_read_28 : decode cX3_read 28 = .ok (.iconst 2, 1) := by decide +kernel
theorem dX3_read_29 : decode cX3_read 29 = .ok (.iadd, 1) := by decide +kernel
theorem dX3_read_30 : decode cX3_read 30 = .ok (.iaload, 1) := by decide +kernel
theorem dX3_read_31 : decode cX3_read 31 = .ok (.istore 4, 2) := by decide +kernel
theorem dX3_read_33 : decode cX3_read 33 = .ok (.aload_n 0, 1) := by decide +kernel
theorem dX3_read_34 : decode cX3_read 34 = .ok (.getfield 14, 3) := by decide +kernel
theorem dX3_read_37 : decode cX3_read 37 = .ok (.iload_n 2, 1) := by decide +kernel
theorem dX3_read_38 : decode cX3_read 38 = .ok (.iconst 3, 1) := by decide +kernel
theorem dX3_read_39 : decode cX3_read 39 = .ok (.iadd, 1) := by decide +kernel
theorem dX3_read_40 : decode cX3_read 40 = .ok (.iload 4, 2) := by decide +kernel
theorem dX3_read_42 : decode cX3_read 42 = .ok (.iadd, 1) := by decide +kernel
theorem dX3_read_43 : decode cX3_read 43 = .ok (.putfield 78, 3) := by decide +kernel
theorem dX3_read_46 : decode cX3_read 46 = .ok (.aload_n 0, 1) := by decide +kernel
theorem dX3_read_47 : decode cX3_read 47 = .ok (.aload_n 0, 1) := by decide +kernel
theorem dX3_read_48 : decode cX3_read 48 = .ok (.getfield 18, 3) := by decide +kernel
theorem dX3_read_51 : decode cX3_read 51 = .ok (.iload_n 1, 1) := by decide +kernel
theorem dX3_read_52 : decode cX3_read 52 = .ok (.iaload, 1) := by decide +kernel
theorem dX3_read_53 : decode cX3_read 53 = .ok (.invokevirtual 322, 3) := by decide +kernel
theorem dX3_read_56 : decode cX3_read 56 = .ok (.iconst 0, 1) := by decide +kernel
theorem dX3_read_57 : decode cX3_read 57 = .ok (.istore 5, 2) := by decide +kernel
theorem dX3_read_59 : decode cX3_read 59 = .ok (.iload 5, 2) := by decide +kernel
theorem dX3_read_61 : decode cX3_read 61 = .ok (.iload 4, 2) := by decide +kernel
theorem dX3_read_63 : decode cX3_read 63 = .ok (.if_icmp .ge 92, 3) := by decide +kernel
theorem dX3_read_66 : decode cX3_read 66 = .ok (.aload_n 0, 1) := by decide +kernel
theorem dX3_read_67 : decode cX3_read 67 = .ok (.getfield 149, 3) := by decide +kernel
theorem dX3_read_70 : decode cX3_read 70 = .ok (.ifCond .ne 85, 3) := by decide +kernel
theorem dX3_read_73 : decode cX3_read 73 = .ok (.aload_n 0, 1) := by decide +kernel
theorem dX3_read_74 : decode cX3_read 74 = .ok (.invokevirtual 246, 3) := by decide +kernel
theorem dX3_read_77 : decode cX3_read 77 = .ok (.aload_n 0, 1) := by decide +kernel
theorem dX3_read_78 : decode cX3_read 78 = .ok (.getfield 58, 3) := by decide +kernel
theorem dX3_read_81 : decode cX3_read 81 = .ok (.getfield 241, 3) := by decide +kernel
theorem dX3_read_84 : decode cX3_read 84 = .ok (.iload_n 2, 1) := by decide +kernel
theorem dX3_read_85 : decode cX3_read 85 = .ok (.iconst 3, 1) := by decide +kernel
theorem dX3_read_86 : decode cX3_read 86 = .ok (.iadd, 1) := by decide +kernel
theorem dX3_read_87 : decode cX3_read 87 = .ok (.iload 5, 2) := by decide +kernel
theorem dX3_read_89 : decode cX3_read 89 = .ok (.iadd, 1) := by decide +kernel
theorem dX3_read_90 : decode cX3_read 90 = .ok (.iaload, 1) := by decide +kernel
theorem dX3_read_91 : decode cX3_read 91 = .ok (.istore 6, 2) := by decide +kernel
theorem dX3_read_93 : decode cX3_read 93 = .ok (.aload_n 0, 1) := by decide +kernel
theorem dX3_read_94 : decode cX3_read 94 = .ok (.aload_n 0, 1) := by decide +kernel
theorem dX3_read_95 : decode cX3_read 95 = .ok (.getfield 47, 3) := by decide +kernel
theorem dX3_read_98 : decode cX3_read 98 = .ok (.iload 6, 2) := by decide +kernel
theorem dX3_read_100 : decode cX3_read 100 = .ok (.aload_n 0, 1) := by decide +kernel
theorem dX3_read_101 : decode cX3_read 101 = .ok (.getfield 18, 3) := by decide +kernel
theorem dX3_read_104 : decode cX3_read 104 = .ok (.aload_n 0, 1) := by decide +kernel
theorem dX3_read_105 : decode cX3_read 105 = .ok (.getfield 14, 3) := by decide +kernel
theorem dX3_read_108 : decode cX3_read 108 = .ok (.getfield 84, 3) := by decide +kernel
theorem dX3_read_111 : decode cX3_read 111 = .ok (.iconst 1, 1) := by decide +kernel
theorem dX3_read_112 : decode cX3_read 112 = .ok (.isub, 1) := by decide +kernel
theorem dX3_read_113 : decode cX3_read 113 = .ok (.iaload, 1) := by decide +kernel
theorem dX3_read_114 : decode cX3_read 114 = .ok (.aload_n 0, 1) := by decide +kernel
theorem dX3_read_115 : decode cX3_read 115 = .ok (.getfield 18, 3) := by decide +kernel
theorem dX3_read_118 : decode cX3_read 118 = .ok (.iload_n 3, 1) := by decide +kernel
theorem dX3_read_119 : decode cX3_read 119 = .ok (.iaload, 1) := by decide +kernel
theorem dX3_read_120 : decode cX3_read 120 = .ok (.aload_n 0, 1) := by decide +kernel
theorem dX3_read_121 : decode cX3_read 121 = .ok (.getfield 18, 3) := by decide +kernel
theorem dX3_read_124 : decode cX3_read 124 = .ok (.iload_n 3, 1) := by decide +kernel
theorem dX3_read_125 : decode cX3_read 125 = .ok (.iconst 1, 1) := by decide +kernel
theorem dX3_read_126 : decode cX3_read 126 = .ok (.iadd, 1) := by decide +kernel
theorem dX3_read_127 : decode cX3_read 127 = .ok (.iaload, 1) := by decide +kernel
theorem dX3_read_128 : decode cX3_read 128 = .ok (.invokevirtual 540, 3) := by decide +kernel
theorem dX3_read_131 : decode cX3_read 131 = .ok (.invokevirtual 280, 3) := by decide +kernel
theorem dX3_read_134 : decode cX3_read 134 = .ok (.iload_n 3, 1) := by decide +kernel
theorem dX3_read_135 : decode cX3_read 135 = .ok (.iload 6, 2) := by decide +kernel
theorem dX3_read_137 : decode cX3_read 137 = .ok (.bipush 97, 2) := by decide +kernel
theorem dX3_read_139 : decode cX3_read 139 = .ok (.if_icmp .ne 7, 3) := by decide +kernel
theorem dX3_read_142 : decode cX3_read 142 = .ok (.iconst 2, 1) := by decide +kernel
theorem dX3_read_143 : decode cX3_read 143 = .ok (.goto 4, 3) := by decide +kernel
theorem dX3_read_146 : decode cX3_read 146 = .ok (.iconst 1, 1) := by decide +kernel
theorem dX3_read_147 : decode cX3_read 147 = .ok (.iadd, 1) := by decide +kernel
theorem dX3_read_148 : decode cX3_read 148 = .ok (.istore_n 3, 1) := by decide +kernel
theorem dX3_read_149 : decode cX3_read 149 = .ok (.iinc 5 1, 3) := by decide +kernel
theorem dX3_read_152 : decode cX3_read 152 = .ok (.goto (-93), 3) := by decide +kernel
theorem dX3_read_155 : decode cX3_read 155 = .ok (.return_, 1) := by decide +kernel
theorem dX3_restart_0 : decode cX3_restart 0 = .ok (.aload_n 0, 1) := by decide +kernel
theorem dX3_restart_1 : decode cX3_restart 1 = .ok (.getfield 14, 3) := by decide +kernel
theorem dX3_restart_4 : decode cX3_restart 4 = .ok (.aload_n 0, 1) := by decide +kernel
theorem dX3_restart_5 : decode cX3_restart 5 = .ok (.getfield 58, 3) := by decide +kernel
theorem dX3_restart_8 : decode cX3_restart 8 = .ok (.getfield 72, 3) := by decide +kernel
theorem dX3_restart_11 : decode cX3_restart 11 = .ok (.putfield 78, 3) := by decide +kernel
theorem dX3_restart_14 : decode cX3_restart 14 = .ok (.aload_n 0, 1) := by decide +kernel
theorem dX3_restart_15 : decode cX3_restart 15 = .ok (.getfield 14, 3) := by decide +kernel
theorem dX3_restart_18 : decode cX3_restart 18 = .ok (.iconst 0, 1) := by decide +kernel
theorem dX3_restart_19 : decode cX3_restart 19 = .ok (.putfield 81, 3) := by decide +kernel
theorem dX3_restart_22 : decode cX3_restart 22 = .ok (.aload_n 0, 1) := by decide +kernel
theorem dX3_restart_23 : decode cX3_restart 23 = .ok (.getfield 14, 3) := by decide +kernel
theorem dX3_restart_26 : decode cX3_restart 26 = .ok (.iconst 0, 1) := by decide +kernel
theorem dX3_restart_27 : decode cX3_restart 27 = .ok (.putfield 84, 3) := by decide +kernel
theorem dX3_restart_30 : decode cX3_restart 30 = .ok (.aload_n 0, 1) := by decide +kernel
theorem dX3_restart_31 : decode cX3_restart 31 = .ok (.getfield 14, 3) := by decide +kernel
theorem dX3_restart_34 : decode cX3_restart 34 = .ok (.iconst 0, 1) := by decide +kernel
theorem dX3_restart_35 : decode cX3_restart 35 = .ok (.putfield 87, 3) := by decide +kernel
theorem dX3_restart_38 : decode cX3_restart 38 = .ok (.aload_n 0, 1) := by decide +kernel
theorem dX3_restart_39 : decode cX3_restart 39 = .ok (.getfield 14, 3) := by decide +kernel
theorem dX3_restart_42 : decode cX3_restart 42 = .ok (.iconst (-1), 1) := by decide +kernel
theorem dX3_restart_43 : decode cX3_restart 43 = .ok (.putfield 90, 3) := by decide +kernel
theorem dX3_restart_46 : decode cX3_restart 46 = .ok (.aload_n 0, 1) := by decide +kernel
theorem dX3_restart_47 : decode cX3_restart 47 = .ok (.getfield 14, 3) := by decide +kernel
theorem dX3_restart_50 : decode cX3_restart 50 = .ok (.iconst 0, 1) := by decide +kernel
theorem dX3_restart_51 : decode cX3_restart 51 = .ok (.putfield 93, 3) := by decide +kernel
theorem dX3_restart_54 : decode cX3_restart 54 = .ok (.aload_n 0, 1) := by decide +kernel
theorem dX3_restart_55 : decode cX3_restart 55 = .ok (.getfield 14, 3) := by decide +kernel
theorem dX3_restart_58 : decode cX3_restart 58 = .ok (.iconst 0, 1) := by decide +kernel
theorem dX3_restart_59 : decode cX3_restart 59 = .ok (.putfield 96, 3) := by decide +kernel
theorem dX3_restart_62 : decode cX3_restart 62 = .ok (.aload_n 0, 1) := by decide +kernel
theorem dX3_restart_63 : decode cX3_restart 63 = .ok (.getfield 14, 3) := by decide +kernel
theorem dX3_restart_66 : decode cX3_restart 66 = .ok (.iconst 0, 1) := by decide +kernel
theorem dX3_restart_67 : decode cX3_restart 67 = .ok (.putfield 99, 3) := by decide +kernel
theorem dX3_restart_70 : decode cX3_restart 70 = .ok (.aload_n 0, 1) := by decide +kernel
theorem dX3_restart_71 : decode cX3_restart 71 = .ok (.getfield 14, 3) := by decide +kernel
theorem dX3_restart_74 : decode cX3_restart 74 = .ok (.iconst 0, 1) := by decide +kernel
theorem dX3_restart_75 : decode cX3_restart 75 = .ok (.putfield 102, 3) := by decide +kernel
theorem dX3_restart_78 : decode cX3_restart 78 = .ok (.aload_n 0, 1) := by decide +kernel
theorem dX3_restart_79 : decode cX3_restart 79 = .ok (.getfield 14, 3) := by decide +kernel
theorem dX3_restart_82 : decode cX3_restart 82 = .ok (.aload_n 0, 1) := by decide +kernel
theorem dX3_restart_83 : decode cX3_restart 83 = .ok (.getfield 58, 3) := by decide +kernel
theorem dX3_restart_86 : decode cX3_restart 86 = .ok (.getfield 105, 3) := by decide +kernel
theorem dX3_restart_89 : decode cX3_restart 89 = .ok (.iconst 0, 1) := by decide +kernel
theorem dX3_restart_90 : decode cX3_restart 90 = .ok (.iaload, 1) := by decide +kernel
theorem dX3_restart_91 : decode cX3_restart 91 = .ok (.putfield 108, 3) := by decide +kernel
theorem dX3_restart_94 : decode cX3_restart 94 = .ok (.aload_n 0, 1) := by decide +kernel
theorem dX3_restart_95 : decode cX3_restart 95 = .ok (.getfield 14, 3) := by decide +kernel
theorem dX3_restart_98 : decode cX3_restart 98 = .ok (.iconst 0, 1) := by decide +kernel
theorem dX3_restart_99 : decode cX3_restart 99 = .ok (.putfield 111, 3) := by decide +kernel
theorem dX3_restart_102 : decode cX3_restart 102 = .ok (.aload_n 0, 1) := by decide +kernel
theorem dX3_restart_103 : decode cX3_restart 103 = .ok (.getfield 14, 3) := by decide +kernel
theorem dX3_restart_106 : decode cX3_restart 106 = .ok (.iconst 0, 1) := by decide +kernel
theorem dX3_restart_107 : decode cX3_restart 107 = .ok (.putfield 114, 3) := by decide +kernel
theorem dX3_restart_110 : decode cX3_restart 110 = .ok (.aload_n 0, 1) := by decide +kernel
theorem dX3_restart_111 : decode cX3_restart 111 = .ok (.getfield 14, 3) := by decide +kernel
theorem dX3_restart_114 : decode cX3_restart 114 = .ok (.iconst 0, 1) := by decide +kernel
theorem dX3_restart_115 : decode cX3_restart 115 = .ok (.putfield 117, 3) := by decide +kernel
theorem dX3_restart_118 : decode cX3_restart 118 = .ok (.aload_n 0, 1) := by decide +kernel
theorem dX3_restart_119 : decode cX3_restart 119 = .ok (.getfield 14, 3) := by decide +kernel
theorem dX3_restart_122 : decode cX3_restart 122 = .ok (.iconst 0, 1) := by decide +kernel
theorem dX3_restart_123 : decode cX3_restart 123 = .ok (.putfield 119, 3) := by decide +kernel
theorem dX3_restart_126 : decode cX3_restart 126 = .ok (.aload_n 0, 1) := by decide +kernel
theorem dX3_restart_127 : decode cX3_restart 127 = .ok (.getfield 14, 3) := by decide +kernel
theorem dX3_restart_130 : decode cX3_restart 130 = .ok (.iconst 0, 1) := by decide +kernel
theorem dX3_restart_131 : decode cX3_restart 131 = .ok (.putfield 122, 3) := by decide +kernel
theorem dX3_restart_134 : decode cX3_restart 134 = .ok (.aload_n 0, 1) := by decide +kernel
theorem dX3_restart_135 : decode cX3_restart 135 = .ok (.getfield 14, 3) := by decide +kernel
theorem dX3_restart_138 : decode cX3_restart 138 = .ok (.iconst 0, 1) := by decide +kernel
theorem dX3_restart_139 : decode cX3_restart 139 = .ok (.putfield 125, 3) := by decide +kernel
theorem dX3_restart_142 : decode cX3_restart 142 = .ok (.aload_n 0, 1) := by decide +kernel
theorem dX3_restart_143 : decode cX3_restart 143 = .ok (.getfield 14, 3) := by decide +kernel
theorem dX3_restart_146 : decode cX3_restart 146 = .ok (.aload_n 0, 1) := by decide +kernel
theorem dX3_restart_147 : decode cX3_restart 147 = .ok (.getfield 62, 3) := by decide +kernel
theorem dX3_restart_150 : decode cX3_restart 150 = .ok (.putfield 128, 3) := by decide +kernel
theorem dX3_restart_153 : decode cX3_restart 153 = .ok (.aload_n 0, 1) := by decide +kernel
theorem dX3_restart_154 : decode cX3_restart 154 = .ok (.ldc 131, 2) := by decide +kernel
theorem dX3_restart_156 : decode cX3_restart 156 = .ok (.iconst 4, 1) := by decide +kernel
theorem dX3_restart_157 : decode cX3_restart 157 = .ok (.invokevirtual 132, 3) := by decide +kernel
theorem dX3_restart_160 : decode cX3_restart 160 = .ok (.aload_n 0, 1) := by decide +kernel
theorem dX3_restart_161 : decode cX3_restart 161 = .ok (.ldc 136, 2) := by decide +kernel
theorem dX3_restart_163 : decode cX3_restart 163 = .ok (.aload_n 0, 1) := by decide +kernel
theorem dX3_restart_164 : decode cX3_restart 164 = .ok (.getfield 58, 3) := by decide +kernel
theorem dX3_restart_167 : decode cX3_restart 167 = .ok (.getfield 137, 3) := by decide +kernel
theorem dX3_restart_170 : decode cX3_restart 170 = .ok (.iconst 0, 1) := by decide +kernel
theorem dX3_restart_171 : decode cX3_restart 171 = .ok (.iaload, 1) := by decide +kernel
theorem dX3_restart_172 : decode cX3_restart 172 = .ok (.invokevirtual 132, 3) := by decide +kernel
theorem dX3_restart_175 : decode cX3_restart 175 = .ok (.return_, 1) := by decide +kernel
theorem dX3_save_0 : decode cX3_save 0 = .ok (.aload_n 0, 1) := by decide +kernel
theorem dX3_save_1 : decode cX3_save 1 = .ok (.getfield 14, 3) := by decide +kernel
theorem dX3_save_4 : decode cX3_save 4 = .ok (.getfield 78, 3) := by decide +kernel
theorem dX3_save_7 : decode cX3_save 7 = .ok (.istore_n 2, 1) := by decide +kernel
theorem dX3_save_8 : decode cX3_save 8 = .ok (.aload_n 0, 1) := by decide +kernel
theorem dX3_save_9 : decode cX3_save 9 = .ok (.getfield 14, 3) := by decide +kernel
theorem dX3_save_12 : decode cX3_save 12 = .ok (.iload_n 1, 1) := by decide +kernel
theorem dX3_save_13 : decode cX3_save 13 = .ok (.putfield 78, 3) := by decide +kernel
theorem dX3_save_16 : decode cX3_save 16 = .ok (.aload_n 0, 1) := by decide +kernel
theorem dX3_save_17 : decode cX3_save 17 = .ok (.getfield 14, 3) := by decide +kernel
theorem dX3_save_20 : decode cX3_save 20 = .ok (.getfield 87, 3) := by decide +kernel
theorem dX3_save_23 : decode cX3_save 23 = .ok (.aload_n 0, 1) := by decide +kernel
theorem dX3_save_24 : decode cX3_save 24 = .ok (.getfield 35, 3) := by decide +kernel
theorem dX3_save_27 : decode cX3_save 27 = .ok (.getfield 330, 3) := by decide +kernel
theorem dX3_save_30 : decode cX3_save 30 = .ok (.if_icmp .ne 22, 3) := by decide +kernel
theorem dX3_save_33 : decode cX3_save 33 = .ok (.aload_n 0, 1) := by decide +kernel
theorem dX3_save_34 : decode cX3_save 34 = .ok (.getfield 35, 3) := by decide +kernel
theorem dX3_save_37 : decode cX3_save 37 = .ok (.aload_n 0, 1) := by decide +kernel
theorem dX3_save_38 : decode cX3_save 38 = .ok (.getfield 14, 3) := by decide +kernel
theorem dX3_save_41 : decode cX3_save 41 = .ok (.aload_n 0, 1) := by decide +kernel
theorem dX3_save_42 : decode cX3_save 42 = .ok (.getfield 18, 3) := by decide +kernel
theorem dX3_save_45 : decode cX3_save 45 = .ok (.aload_n 0, 1) := by decide +kernel
theorem dX3_save_46 : decode cX3_save 46 = .ok (.getfield 22, 3) := by decide +kernel
theorem dX3_save_49 : decode cX3_save 49 = .ok (.invokevirtual 352, 3) := by decide +kernel
theorem dX3_save_52 : decode cX3_save 52 = .ok (.aload_n 0, 1) := by decide +kernel
theorem dX3_save_53 : decode cX3_save 53 = .ok (.getfield 14, 3) := by decide +kernel
theorem dX3_save_56 : decode cX3_save 56 = .ok (.getfield 87, 3) := by decide +kernel
theorem dX3_save_59 : decode cX3_save 59 = .ok (.aload_n 0, 1) := by decide +kernel
theorem dX3_save_60 : decode cX3_save 60 = .ok (.getfield 35, 3) := by decide +kernel
theorem dX3_save_63 : decode cX3_save 63 = .ok (.getfield 327, 3) := by decide +kernel
theorem dX3_save_66 : decode cX3_save 66 = .ok (.if_icmp .ne 22, 3) := by decide +kernel
theorem dX3_save_69 : decode cX3_save 69 = .ok (.aload_n 0, 1) := by decide +kernel
theorem dX3_save_70 : decode cX3_save 70 = .ok (.getfield 35, 3) := by decide +kernel
theorem dX3_save_73 : decode cX3_save 73 = .ok (.aload_n 0, 1) := by decide +kernel
theorem dX3_save_74 : decode cX3_save 74 = .ok (.getfield 14, 3) := by decide +kernel
theorem dX3_save_77 : decode cX3_save 77 = .ok (.aload_n 0, 1) := by decide +kernel
theorem dX3_save_78 : decode cX3_save 78 = .ok (.getfield 18, 3) := by decide +kernel
theorem dX3_save_81 : decode cX3_save 81 = .ok (.aload_n 0, 1) := by decide +kernel
theorem dX3_save_82 : decode cX3_save 82 = .ok (.getfield 22, 3) := by decide +kernel
theorem dX3_save_85 : decode cX3_save 85 = .ok (.invokevirtual 356, 3) := by decide +kernel
theorem dX3_save_88 : decode cX3_save 88 = .ok (.aload_n 0, 1) := by decide +kernel
theorem dX3_save_89 : decode cX3_save 89 = .ok (.getfield 14, 3) := by decide +kernel
theorem dX3_save_92 : decode cX3_save 92 = .ok (.iload_n 2, 1) := by decide +kernel
theorem dX3_save_93 : decode cX3_save 93 = .ok (.putfield 78, 3) := by decide +kernel
theorem dX3_save_96 : decode cX3_save 96 = .ok (.return_, 1) := by decide +kernel
theorem dX3_spread_0 : decode cX3_spread 0 = .ok (.aload_n 0, 1) := by decide +kernel
theorem dX3_spread_1 : decode cX3_spread 1 = .ok (.invokevirtual 339, 3) := by decide +kernel
theorem dX3_spread_4 : decode cX3_spread 4 = .ok (.istore 5, 2) := by decide +kernel
theorem dX3_spread_6 : decode cX3_spread 6 = .ok (.aload_n 0, 1) := by decide +kernel
theorem dX3_spread_7 : decode cX3_spread 7 = .ok (.getfield 39, 3) := by decide +kernel
theorem dX3_spread_10 : decode cX3_spread 10 = .ok (.iload 5, 2) := by decide +kernel
theorem dX3_spread_12 : decode cX3_spread 12 = .ok (.invokevirtual 396, 3) := by decide +kernel
theorem dX3_spread_15 : decode cX3_spread 15 = .ok (.iconst 5, 1) := by decide +kernel
theorem dX3_spread_16 : decode cX3_spread 16 = .ok (.if_icmp .ne 16, 3) := by decide +kernel
theorem dX3_spread_19 : decode cX3_spread 19 = .ok (.aload_n 0, 1) := by decide +kernel
theorem dX3_spread_20 : decode cX3_spread 20 = .ok (.getfield 39, 3) := by decide +kernel
theorem dX3_spread_23 : decode cX3_spread 23 = .ok (.iload 5, 2) := by decide +kernel
theorem dX3_spread_25 : decode cX3_spread 25 = .ok (.invokevirtual 399, 3) := by decide +kernel
theorem dX3_spread_28 : decode cX3_spread 28 = .ok (.iload_n 3, 1) := by decide +kernel
theorem dX3_spread_29 : decode cX3_spread 29 = .ok (.if_icmp .le 9, 3) := by decide +kernel
theorem dX3_spread_32 : decode cX3_spread 32 = .ok (.aload_n 0, 1) := by decide +kernel
theorem dX3_spread_33 : decode cX3_spread 33 = .ok (.iconst 1, 1) := by decide +kernel
theorem dX3_spread_34 : decode cX3_spread 34 = .ok (.invokevirtual 313, 3) := by decide +kernel
theorem dX3_spread_37 : decode cX3_spread 37 = .ok (.return_, 1) := by decide +kernel
theorem dX3_spread_38 : decode cX3_spread 38 = .ok (.iconst 0, 1) := by decide +kernel
theorem dX3_spread_39 : decode cX3_spread 39 = .ok (.istore 6, 2) := by decide +kernel
theorem dX3_spread_41 : decode cX3_spread 41 = .ok (.iload 6, 2) := by decide +kernel
theorem dX3_spread_43 : decode cX3_spread 43 = .ok (.iload_n 3, 1) := by decide +kernel
theorem dX3_spread_44 : decode cX3_spread 44 = .ok (.if_icmp .ge 61, 3) := by decide +kernel
theorem dX3_spread_47 : decode cX3_spread 47 = .ok (.aload_n 0, 1) := by decide +kernel
theorem dX3_spread_48 : decode cX3_spread 48 = .ok (.getfield 149, 3) := by decide +kernel
theorem dX3_spread_51 : decode cX3_spread 51 = .ok (.ifCond .ne 54, 3) := by decide +kernel
theorem dX3_spread_54 : decode cX3_spread 54 = .ok (.iload 4, 2) := by decide +kernel
theorem dX3_spread_56 : decode cX3_spread 56 = .ok (.ifCond .eq 26, 3) := by decide +kernel
theorem dX3_spread_59 : decode cX3_spread 59 = .ok (.aload_n 0, 1) := by decide +kernel
theorem dX3_spread_60 : decode cX3_spread 60 = .ok (.iload_n 2, 1) := by decide +kernel
theorem dX3_spread_61 : decode cX3_spread 61 = .ok (.iload 6, 2) := by decide +kernel
theorem dX3_spread_63 : decode cX3_spread 63 = .ok (.iadd, 1) := by decide +kernel
theorem dX3_spread_64 : decode cX3_spread 64 = .ok (.aload_n 0, 1) := by decide +kernel
theorem dX3_spread_65 : decode cX3_spread 65 = .ok (.getfield 39, 3) := by decide +kernel
theorem dX3_spread_68 : decode cX3_spread 68 = .ok (.iload 5, 2) := by decide +kernel
theorem dX3_spread_70 : decode cX3_spread 70 = .ok (.iload 6, 2) := by decide +kernel
theorem dX3_spread_72 : decode cX3_spread 72 = .ok (.invokevirtual 452, 3) := by decide +kernel
theorem dX3_spread_75 : decode cX3_spread 75 = .ok (.iconst 1, 1) := by decide +kernel
theorem dX3_spread_76 : decode cX3_spread 76 = .ok (.invokevirtual 504, 3) := by decide +kernel
theorem dX3_spread_79 : decode cX3_spread 79 = .ok (.goto 20, 3) := by decide +kernel
theorem dX3_spread_82 : decode cX3_spread 82 = .ok (.aload_n 1, 1) := by decide +kernel
theorem dX3_spread_83 : decode cX3_spread 83 = .ok (.iload_n 2, 1) := by decide +kernel
theorem dX3_spread_84 : decode cX3_spread 84 = .ok (.iload 6, 2) := by decide +kernel
theorem dX3_spread_86 : decode cX3_spread 86 = .ok (.iadd, 1) := by decide +kernel
theorem dX3_spread_87 : decode cX3_spread 87 = .ok (.aload_n 0, 1) := by decide +kernel
theorem dX3_spread_88 : decode cX3_spread 88 = .ok (.getfield 39, 3) := by decide +kernel
theorem dX3_spread_91 : decode cX3_spread 91 = .ok (.iload 5, 2) := by decide +kernel
theorem dX3_spread_93 : decode cX3_spread 93 = .ok (.iload 6, 2) := by decide +kernel
theorem dX3_spread_95 : decode cX3_spread 95 = .ok (.invokevirtual 452, 3) := by decide +kernel
theorem dX3_spread_98 : decode cX3_spread 98 = .ok (.iastore, 1) := by decide +kernel
theorem dX3_spread_99 : decode cX3_spread 99 = .ok (.iinc 6 1, 3) := by decide +kernel
theorem dX3_spread_102 : decode cX3_spread 102 = .ok (.goto (-61), 3) := by decide +kernel
theorem dX3_spread_105 : decode cX3_spread 105 = .ok (.return_, 1) := by decide +kernel
theorem dX3_takeFrom_0 : decode cX3_takeFrom 0 = .ok (.aload_n 0, 1) := by decide +kernel
theorem dX3_takeFrom_1 : decode cX3_takeFrom 1 = .ok (.getfield 18, 3) := by decide +kernel
theorem dX3_takeFrom_4 : decode cX3_takeFrom 4 = .ok (.aload_n 0, 1) := by decide +kernel
theorem dX3_takeFrom_5 : decode cX3_takeFrom 5 = .ok (.getfield 14, 3) := by decide +kernel
theorem dX3_takeFrom_8 : decode cX3_takeFrom 8 = .ok (.getfield 84, 3) := by decide +kernel
theorem dX3_takeFrom_11 : decode cX3_takeFrom 11 = .ok (.iconst 1, 1) := by decide +kernel
theorem dX3_takeFrom_12 : decode cX3_takeFrom 12 = .ok (.isub, 1) := by decide +kernel
theorem dX3_takeFrom_13 : decode cX3_takeFrom 13 = .ok (.iaload, 1) := by decide +kernel
theorem dX3_takeFrom_14 : decode cX3_takeFrom 14 = .ok (.istore_n 3, 1) := by decide +kernel
theorem dX3_takeFrom_15 : decode cX3_takeFrom 15 = .ok (.aload_n 0, 1) := by decide +kernel
theorem dX3_takeFrom_16 : decode cX3_takeFrom 16 = .ok (.getfield 39, 3) := by decide +kernel
theorem dX3_takeFrom_19 : decode cX3_takeFrom 19 = .ok (.iload_n 3, 1) := by decide +kernel
theorem dX3_takeFrom_20 : decode cX3_takeFrom 20 = .ok (.invokevirtual 396, 3) := by decide +kernel
theorem dX3_takeFrom_23 : decode cX3_takeFrom 23 = .ok (.istore 4, 2) := by decide +kernel
theorem dX3_takeFrom_25 : decode cX3_takeFrom 25 = .ok (.iload_n 1, 1) := by decide +kernel
theorem dX3_takeFrom_26 : decode cX3_takeFrom 26 = .ok (.ifCond .ne 13, 3) := by decide +kernel
theorem dX3_takeFrom_29 : decode cX3_takeFrom 29 = .ok (.iload 4, 2) := by decide +kernel
theorem dX3_takeFrom_31 : decode cX3_takeFrom 31 = .ok (.bipush 6, 2) := by decide +kernel
theorem dX3_takeFrom_33 : decode cX3_takeFrom 33 = .ok (.if_icmp .eq 24, 3) := by decide +kernel
theorem dX3_takeFrom_36 : decode cX3_takeFrom 36 = .ok (.goto 15, 3) := by decide +kernel
theorem dX3_takeFrom_39 : decode cX3_takeFrom 39 = .ok (.iload 4, 2) := by decide +kernel
theorem dX3_takeFrom_41 : decode cX3_takeFrom 41 = .ok (.iconst 5, 1) := by decide +kernel
theorem dX3_takeFrom_42 : decode cX3_takeFrom 42 = .ok (.if_icmp .eq 15, 3) := by decide +kernel
theorem dX3_takeFrom_45 : decode cX3_takeFrom 45 = .ok (.iload 4, 2) := by decide +kernel
theorem dX3_takeFrom_47 : decode cX3_takeFrom 47 = .ok (.iconst 4, 1) := by decide +kernel
theorem dX3_takeFrom_48 : decode cX3_takeFrom 48 = .ok (.if_icmp .eq 9, 3) := by decide +kernel
theorem dX3_takeFrom_51 : decode cX3_takeFrom 51 = .ok (.aload_n 0, 1) := by decide +kernel
theorem dX3_takeFrom_52 : decode cX3_takeFrom 52 = .ok (.iconst 1, 1) := by decide +kernel
theorem dX3_takeFrom_53 : decode cX3_takeFrom 53 = .ok (.invokevirtual 313, 3) := by decide +kernel
theorem dX3_takeFrom_56 : decode cX3_takeFrom 56 = .ok (.return_, 1) := by decide +kernel
theorem dX3_takeFrom_57 : decode cX3_takeFrom 57 = .ok (.aload_n 0, 1) := by decide +kernel
theorem dX3_takeFrom_58 : decode cX3_takeFrom 58 = .ok (.getfield 39, 3) := by decide +kernel
theorem dX3_takeFrom_61 : decode cX3_takeFrom 61 = .ok (.iload_n 3, 1) := by decide +kernel
theorem dX3_takeFrom_62 : decode cX3_takeFrom 62 = .ok (.invokevirtual 399, 3) := by decide +kernel
theorem dX3_takeFrom_65 : decode cX3_takeFrom 65 = .ok (.istore 5, 2) := by decide +kernel
theorem dX3_takeFrom_67 : decode cX3_takeFrom 67 = .ok (.iload 5, 2) := by decide +kernel
theorem dX3_takeFrom_69 : decode cX3_takeFrom 69 = .ok (.ifCond .ne 46, 3) := by decide +kernel
theorem dX3_takeFrom_72 : decode cX3_takeFrom 72 = .ok (.aload_n 0, 1) := by decide +kernel
theorem dX3_takeFrom_73 : decode cX3_takeFrom 73 = .ok (.getfield 18, 3) := by decide +kernel
theorem dX3_takeFrom_76 : decode cX3_takeFrom 76 = .ok (.aload_n 0, 1) := by decide +kernel
theorem dX3_takeFrom_77 : decode cX3_takeFrom 77 = .ok (.getfield 14, 3) := by decide +kernel
theorem dX3_takeFrom_80 : decode cX3_takeFrom 80 = .ok (.getfield 84, 3) := by decide +kernel
theorem dX3_takeFrom_83 : decode cX3_takeFrom 83 = .ok (.iconst 1, 1) := by decide +kernel
theorem dX3_takeFrom_84 : decode cX3_takeFrom 84 = .ok (.isub, 1) := by decide +kernel
theorem dX3_takeFrom_85 : decode cX3_takeFrom 85 = .ok (.ldc 136, 2) := by decide +kernel
theorem dX3_takeFrom_87 : decode cX3_takeFrom 87 = .ok (.iastore, 1) := by decide +kernel
theorem dX3_takeFrom_88 : decode cX3_takeFrom 88 = .ok (.aload_n 0, 1) := by decide +kernel
theorem dX3_takeFrom_89 : decode cX3_takeFrom 89 = .ok (.ldc 136, 2) := by decide +kernel
theorem dX3_takeFrom_91 : decode cX3_takeFrom 91 = .ok (.invokevirtual 322, 3) := by decide +kernel
theorem dX3_takeFrom_94 : decode cX3_takeFrom 94 = .ok (.aload_n 0, 1) := by decide +kernel
theorem dX3_takeFrom_95 : decode cX3_takeFrom 95 = .ok (.getfield 14, 3) := by decide +kernel
theorem dX3_takeFrom_98 : decode cX3_takeFrom 98 = .ok (.iload_n 2, 1) := by decide +kernel
theorem dX3_takeFrom_99 : decode cX3_takeFrom 99 = .ok (.aload_n 0, 1) := by decide +kernel
theorem dX3_takeFrom_100 : decode cX3_takeFrom 100 = .ok (.getfield 58, 3) := by decide +kernel
theorem dX3_takeFrom_103 : decode cX3_takeFrom 103 = .ok (.getfield 241, 3) := by decide +kernel
theorem dX3_takeFrom_106 : decode cX3_takeFrom 106 = .ok (.iload_n 2, 1) := by decide +kernel
theorem dX3_takeFrom_107 : decode cX3_takeFrom 107 = .ok (.iconst 1, 1) := by decide +kernel
theorem dX3_takeFrom_108 : decode cX3_takeFrom 108 = .ok (.iadd, 1) := by decide +kernel
theorem dX3_takeFrom_109 : decode cX3_takeFrom 109 = .ok (.iaload, 1) := by decide +kernel
theorem dX3_takeFrom_110 : decode cX3_takeFrom 110 = .ok (.iadd, 1) := by decide +kernel
theorem dX3_takeFrom_111 : decode cX3_takeFrom 111 = .ok (.putfield 78, 3) := by decide +kernel
theorem dX3_takeFrom_114 : decode cX3_takeFrom 114 = .ok (.return_, 1) := by decide +kernel
theorem dX3_takeFrom_115 : decode cX3_takeFrom 115 = .ok (.aload_n 0, 1) := by decide +kernel
theorem dX3_takeFrom_116 : decode cX3_takeFrom 116 = .ok (.getfield 18, 3) := by decide +kernel
theorem dX3_takeFrom_119 : decode cX3_takeFrom 119 = .ok (.aload_n 0, 1) := by decide +kernel
theorem dX3_takeFrom_120 : decode cX3_takeFrom 120 = .ok (.getfield 14, 3) := by decide +kernel
theorem dX3_takeFrom_123 : decode cX3_takeFrom 123 = .ok (.getfield 84, 3) := by decide +kernel
theorem dX3_takeFrom_126 : decode cX3_takeFrom 126 = .ok (.iconst 1, 1) := by decide +kernel
theorem dX3_takeFrom_127 : decode cX3_takeFrom 127 = .ok (.isub, 1) := by decide +kernel
theorem dX3_takeFrom_128 : decode cX3_takeFrom 128 = .ok (.aload_n 0, 1) := by decide +kernel
theorem dX3_takeFrom_129 : decode cX3_takeFrom 129 = .ok (.getfield 39, 3) := by decide +kernel
theorem dX3_takeFrom_132 : decode cX3_takeFrom 132 = .ok (.iload_n 3, 1) := by decide +kernel
theorem dX3_takeFrom_133 : decode cX3_takeFrom 133 = .ok (.iload_n 1, 1) := by decide +kernel
theorem dX3_takeFrom_134 : decode cX3_takeFrom 134 = .ok (.iconst 2, 1) := by decide +kernel
theorem dX3_takeFrom_135 : decode cX3_takeFrom 135 = .ok (.if_icmp .ne 10, 3) := by decide +kernel
theorem dX3_takeFrom_138 : decode cX3_takeFrom 138 = .ok (.iload 5, 2) := by decide +kernel
theorem dX3_takeFrom_140 : decode cX3_takeFrom 140 = .ok (.iconst 1, 1) := by decide +kernel
theorem dX3_takeFrom_141 : decode cX3_takeFrom 141 = .ok (.isub, 1) := by decide +kernel
theorem dX3_takeFrom_142 : decode cX3_takeFrom 142 = .ok (.goto 4, 3) := by decide +kernel
theorem dX3_takeFrom_145 : decode cX3_takeFrom 145 = .ok (.iconst 0, 1) := by decide +kernel
theorem dX3_takeFrom_146 : decode cX3_takeFrom 146 = .ok (.invokevirtual 473, 3) := by decide +kernel
theorem dX3_takeFrom_149 : decode cX3_takeFrom 149 = .ok (.iastore, 1) := by decide +kernel
theorem dX3_takeFrom_150 : decode cX3_takeFrom 150 = .ok (.aload_n 0, 1) := by decide +kernel
theorem dX3_takeFrom_151 : decode cX3_takeFrom 151 = .ok (.getfield 14, 3) := by decide +kernel
theorem dX3_takeFrom_154 : decode cX3_takeFrom 154 = .ok (.iload_n 2, 1) := by decide +kernel
theorem dX3_takeFrom_155 : decode cX3_takeFrom 155 = .ok (.iconst 2, 1) := by decide +kernel
theorem dX3_takeFrom_156 : decode cX3_takeFrom 156 = .ok (.iadd, 1) := by decide +kernel
theorem dX3_takeFrom_157 : decode cX3_takeFrom 157 = .ok (.putfield 78, 3) := by decide +kernel
theorem dX3_takeFrom_160 : decode cX3_takeFrom 160 = .ok (.aload_n 0, 1) := by decide +kernel
theorem dX3_takeFrom_161 : decode cX3_takeFrom 161 = .ok (.aload_n 0, 1) := by decide +kernel
theorem dX3_takeFrom_162 : decode cX3_takeFrom 162 = .ok (.getfield 47, 3) := by decide +kernel
theorem dX3_takeFrom_165 : decode cX3_takeFrom 165 = .ok (.iload_n 3, 1) := by decide +kernel
theorem dX3_takeFrom_166 : decode cX3_takeFrom 166 = .ok (.iload_n 1, 1) := by decide +kernel
theorem dX3_takeFrom_167 : decode cX3_takeFrom 167 = .ok (.invokevirtual 551, 3) := by decide +kernel
theorem dX3_takeFrom_170 : decode cX3_takeFrom 170 = .ok (.invokevirtual 391, 3) := by decide +kernel
theorem dX3_takeFrom_173 : decode cX3_takeFrom 173 = .ok (.return_, 1) := by decide +kernel
theorem dX3_write_0 : decode cX3_write 0 = .ok (.aload_n 0, 1) := by decide +kernel
theorem dX3_write_1 : decode cX3_write 1 = .ok (.getfield 14, 3) := by decide +kernel
theorem dX3_write_4 : decode cX3_write 4 = .ok (.getfield 84, 3) := by decide +kernel
theorem dX3_write_7 : decode cX3_write 7 = .ok (.istore 4, 2) := by decide +kernel
theorem dX3_write_9 : decode cX3_write 9 = .ok (.iload 4, 2) := by decide +kernel
theorem dX3_write_11 : decode cX3_write 11 = .ok (.aload_n 0, 1) := by decide +kernel
theorem dX3_write_12 : decode cX3_write 12 = .ok (.getfield 58, 3) := by decide +kernel
theorem dX3_write_15 : decode cX3_write 15 = .ok (.getfield 241, 3) := by decide +kernel
theorem dX3_write_18 : decode cX3_write 18 = .ok (.iload_n 2, 1) := by decide +kernel
theorem dX3_write_19 : decode cX3_write 19 = .ok (.iconst 1, 1) := by decide +kernel
theorem dX3_write_20 : decode cX3_write 20 = .ok (.iadd, 1) := by decide +kernel
theorem dX3_write_21 : decode cX3_write 21 = .ok (.iaload, 1) := by decide +kernel
theorem dX3_write_22 : decode cX3_write 22 = .ok (.isub, 1) := by decide +kernel
theorem dX3_write_23 : decode cX3_write 23 = .ok (.istore 5, 2) := by decide +kernel
theorem dX3_write_25 : decode cX3_write 25 = .ok (.aload_n 0, 1) := by decide +kernel
theorem dX3_write_26 : decode cX3_write 26 = .ok (.getfield 58, 3) := by decide +kernel
theorem dX3_write_29 : decode cX3_write 29 = .ok (.getfield 241, 3) := by decide +kernel
theorem dX3_write_32 : decode cX3_write 32 = .ok (.iload_n 2, 1) := by decide +kernel
theorem dX3_write_33 : decode cX3_write 33 = .ok (.iconst 2, 1) := by decide +kernel
theorem dX3_write_34 : decode cX3_write 34 = .ok (.iadd, 1) := by decide +kernel
theorem dX3_write_35 : decode cX3_write 35 = .ok (.iaload, 1) := by decide +kernel
theorem dX3_write_36 : decode cX3_write 36 = .ok (.istore 6, 2) := by decide +kernel
theorem dX3_write_38 : decode cX3_write 38 = .ok (.aload_n 0, 1) := by decide +kernel
theorem dX3_write_39 : decode cX3_write 39 = .ok (.getfield 14, 3) := by decide +kernel
theorem dX3_write_42 : decode cX3_write 42 = .ok (.iload_n 2, 1) := by decide +kernel
theorem dX3_write_43 : decode cX3_write 43 = .ok (.iconst 3, 1) := by decide +kernel
theorem dX3_write_44 : decode cX3_write 44 = .ok (.iadd, 1) := by decide +kernel
theorem dX3_write_45 : decode cX3_write 45 = .ok (.iload 6, 2) := by decide +kernel
theorem dX3_write_47 : decode cX3_write 47 = .ok (.iadd, 1) := by decide +kernel
theorem dX3_write_48 : decode cX3_write 48 = .ok (.putfield 78, 3) := by decide +kernel
theorem dX3_write_51 : decode cX3_write 51 = .ok (.aload_n 0, 1) := by decide +kernel
theorem dX3_write_52 : decode cX3_write 52 = .ok (.aload_n 0, 1) := by decide +kernel
theorem dX3_write_53 : decode cX3_write 53 = .ok (.getfield 18, 3) := by decide +kernel
theorem dX3_write_56 : decode cX3_write 56 = .ok (.iload_n 1, 1) := by decide +kernel
theorem dX3_write_57 : decode cX3_write 57 = .ok (.iaload, 1) := by decide +kernel
theorem dX3_write_58 : decode cX3_write 58 = .ok (.invokevirtual 322, 3) := by decide +kernel
theorem dX3_write_61 : decode cX3_write 61 = .ok (.iconst 0, 1) := by decide +kernel
theorem dX3_write_62 : decode cX3_write 62 = .ok (.istore 7, 2) := by decide +kernel
theorem dX3_write_64 : decode cX3_write 64 = .ok (.iload 7, 2) := by decide +kernel
theorem dX3_write_66 : decode cX3_write 66 = .ok (.iload 6, 2) := by decide +kernel
theorem dX3_write_68 : decode cX3_write 68 = .ok (.iconst 1, 1) := by decide +kernel
theorem dX3_write_69 : decode cX3_write 69 = .ok (.isub, 1) := by decide +kernel
theorem dX3_write_70 : decode cX3_write 70 = .ok (.if_icmp .ge 102, 3) := by decide +kernel
theorem dX3_write_73 : decode cX3_write 73 = .ok (.aload_n 0, 1) := by decide +kernel
theorem dX3_write_74 : decode cX3_write 74 = .ok (.getfield 149, 3) := by decide +kernel
theorem dX3_write_77 : decode cX3_write 77 = .ok (.ifCond .ne 95, 3) := by decide +kernel
theorem dX3_write_80 : decode cX3_write 80 = .ok (.aload_n 0, 1) := by decide +kernel
theorem dX3_write_81 : decode cX3_write 81 = .ok (.invokevirtual 246, 3) := by decide +kernel
theorem dX3_write_84 : decode cX3_write 84 = .ok (.aload_n 0, 1) := by decide +kernel
theorem dX3_write_85 : decode cX3_write 85 = .ok (.getfield 58, 3) := by decide +kernel
theorem dX3_write_88 : decode cX3_write 88 = .ok (.getfield 241, 3) := by decide +kernel
theorem dX3_write_91 : decode cX3_write 91 = .ok (.iload_n 2, 1) := by decide +kernel
theorem dX3_write_92 : decode cX3_write 92 = .ok (.iconst 3, 1) := by decide +kernel
theorem dX3_write_93 : decode cX3_write 93 = .ok (.iadd, 1) := by decide +kernel
theorem dX3_write_94 : decode cX3_write 94 = .ok (.iload 7, 2) := by decide +kernel
theorem dX3_write_96 : decode cX3_write 96 = .ok (.iadd, 1) := by decide +kernel
theorem dX3_write_97 : decode cX3_write 97 = .ok (.iaload, 1) := by decide +kernel
theorem dX3_write_98 : decode cX3_write 98 = .ok (.istore 8, 2) := by decide +kernel
theorem dX3_write_100 : decode cX3_write 100 = .ok (.aload_n 0, 1) := by decide +kernel
theorem dX3_write_101 : decode cX3_write 101 = .ok (.ldc 136, 2) := by decide +kernel
theorem dX3_write_103 : decode cX3_write 103 = .ok (.invokevirtual 322, 3) := by decide +kernel
theorem dX3_write_106 : decode cX3_write 106 = .ok (.aload_n 0, 1) := by decide +kernel
theorem dX3_write_107 : decode cX3_write 107 = .ok (.aload_n 0, 1) := by decide +kernel
theorem dX3_write_108 : decode cX3_write 108 = .ok (.getfield 47, 3) := by decide +kernel
theorem dX3_write_111 : decode cX3_write 111 = .ok (.iload 8, 2) := by decide +kernel
theorem dX3_write_113 : decode cX3_write 113 = .ok (.aload_n 0, 1) := by decide +kernel
theorem dX3_write_114 : decode cX3_write 114 = .ok (.getfield 18, 3) := by decide +kernel
theorem dX3_write_117 : decode cX3_write 117 = .ok (.aload_n 0, 1) := by decide +kernel
theorem dX3_write_118 : decode cX3_write 118 = .ok (.getfield 14, 3) := by decide +kernel
theorem dX3_write_121 : decode cX3_write 121 = .ok (.getfield 84, 3) := by decide +kernel
theorem dX3_write_124 : decode cX3_write 124 = .ok (.iconst 2, 1) := by decide +kernel
theorem dX3_write_125 : decode cX3_write 125 = .ok (.isub, 1) := by decide +kernel
theorem dX3_write_126 : decode cX3_write 126 = .ok (.iaload, 1) := by decide +kernel
theorem dX3_write_127 : decode cX3_write 127 = .ok (.aload_n 0, 1) := by decide +kernel
theorem dX3_write_128 : decode cX3_write 128 = .ok (.getfield 18, 3) := by decide +kernel
theorem dX3_write_131 : decode cX3_write 131 = .ok (.iload 5, 2) := by decide +kernel
theorem dX3_write_133 : decode cX3_write 133 = .ok (.iaload, 1) := by decide +kernel
theorem dX3_write_134 : decode cX3_write 134 = .ok (.aload_n 0, 1) := by decide +kernel
theorem dX3_write_135 : decode cX3_write 135 = .ok (.getfield 18, 3) := by decide +kernel
theorem dX3_write_138 : decode cX3_write 138 = .ok (.iload 5, 2) := by decide +kernel
theorem dX3_write_140 : decode cX3_write 140 = .ok (.iconst 1, 1) := by decide +kernel
theorem dX3_write_141 : decode cX3_write 141 = .ok (.iadd, 1) := by decide +kernel
theorem dX3_write_142 : decode cX3_write 142 = .ok (.iaload, 1) := by decide +kernel
theorem dX3_write_143 : decode cX3_write 143 = .ok (.invokevirtual 540, 3) := by decide +kernel
theorem dX3_write_146 : decode cX3_write 146 = .ok (.invokevirtual 280, 3) := by decide +kernel
theorem dX3_write_149 : decode cX3_write 149 = .ok (.iload 5, 2) := by decide +kernel
theorem dX3_write_151 : decode cX3_write 151 = .ok (.iload 8, 2) := by decide +kernel
theorem dX3_write_153 : decode cX3_write 153 = .ok (.bipush 97, 2) := by decide +kernel
theorem dX3_write_155 : decode cX3_write 155 = .ok (.if_icmp .ne 7, 3) := by decide +kernel
theorem dX3_write_158 : decode cX3_write 158 = .ok (.iconst 2, 1) := by decide +kernel
theorem dX3_write_159 : decode cX3_write 159 = .ok (.goto 4, 3) := by decide +kernel
theorem dX3_write_162 : decode cX3_write 162 = .ok (.iconst 1, 1) := by decide +kernel
theorem dX3_write_163 : decode cX3_write 163 = .ok (.iadd, 1) := by decide +kernel
theorem dX3_write_164 : decode cX3_write 164 = .ok (.istore 5, 2) := by decide +kernel
theorem dX3_write_166 : decode cX3_write 166 = .ok (.iinc 7 1, 3) := by decide +kernel
theorem dX3_write_169 : decode cX3_write 169 = .ok (.goto (-105), 3) := by decide +kernel
theorem dX3_write_172 : decode cX3_write 172 = .ok (.aload_n 0, 1) := by decide +kernel
theorem dX3_write_173 : decode cX3_write 173 = .ok (.aload_n 0, 1) := by decide +kernel
theorem dX3_write_174 : decode cX3_write 174 = .ok (.getfield 18, 3) := by decide +kernel
theorem dX3_write_177 : decode cX3_write 177 = .ok (.iload 4, 2) := by decide +kernel
theorem dX3_write_179 : decode cX3_write 179 = .ok (.iconst 1, 1) := by decide +kernel
theorem dX3_write_180 : decode cX3_write 180 = .ok (.isub, 1) := by decide +kernel
theorem dX3_write_181 : decode cX3_write 181 = .ok (.iaload, 1) := by decide +kernel
theorem dX3_write_182 : decode cX3_write 182 = .ok (.invokevirtual 322, 3) := by decide +kernel
theorem dX3_write_185 : decode cX3_write 185 = .ok (.iload 6, 2) := by decide +kernel
theorem dX3_write_187 : decode cX3_write 187 = .ok (.iconst 1, 1) := by decide +kernel
theorem dX3_write_188 : decode cX3_write 188 = .ok (.isub, 1) := by decide +kernel
theorem dX3_write_189 : decode cX3_write 189 = .ok (.istore 7, 2) := by decide +kernel
theorem dX3_write_191 : decode cX3_write 191 = .ok (.iload 7, 2) := by decide +kernel
theorem dX3_write_193 : decode cX3_write 193 = .ok (.ifCond .lt 135, 3) := by decide +kernel
theorem dX3_write_196 : decode cX3_write 196 = .ok (.aload_n 0, 1) := by decide +kernel
theorem dX3_write_197 : decode cX3_write 197 = .ok (.getfield 149, 3) := by decide +kernel
theorem dX3_write_200 : decode cX3_write 200 = .ok (.ifCond .ne 128, 3) := by decide +kernel
theorem dX3_write_203 : decode cX3_write 203 = .ok (.aload_n 0, 1) := by decide +kernel
theorem dX3_write_204 : decode cX3_write 204 = .ok (.invokevirtual 246, 3) := by decide +kernel
theorem dX3_write_207 : decode cX3_write 207 = .ok (.aload_n 0, 1) := by decide +kernel
theorem dX3_write_208 : decode cX3_write 208 = .ok (.getfield 58, 3) := by decide +kernel
theorem dX3_write_211 : decode cX3_write 211 = .ok (.getfield 241, 3) := by decide +kernel
theorem dX3_write_214 : decode cX3_write 214 = .ok (.iload_n 2, 1) := by decide +kernel
theorem dX3_write_215 : decode cX3_write 215 = .ok (.iconst 3, 1) := by decide +kernel
theorem dX3_write_216 : decode cX3_write 216 = .ok (.iadd, 1) := by decide +kernel
theorem dX3_write_217 : decode cX3_write 217 = .ok (.iload 7, 2) := by decide +kernel
theorem dX3_write_219 : decode cX3_write 219 = .ok (.iadd, 1) := by decide +kernel
theorem dX3_write_220 : decode cX3_write 220 = .ok (.iaload, 1) := by decide +kernel
theorem dX3_write_221 : decode cX3_write 221 = .ok (.istore 8, 2) := by decide +kernel
theorem dX3_write_223 : decode cX3_write 223 = .ok (.iload 7, 2) := by decide +kernel
theorem dX3_write_225 : decode cX3_write 225 = .ok (.iload 6, 2) := by decide +kernel
theorem dX3_write_227 : decode cX3_write 227 = .ok (.iconst 1, 1) := by decide +kernel
theorem dX3_write_228 : decode cX3_write 228 = .ok (.isub, 1) := by decide +kernel
theorem dX3_write_229 : decode cX3_write 229 = .ok (.if_icmp .ne 8, 3) := by decide +kernel
theorem dX3_write_232 : decode cX3_write 232 = .ok (.iload 5, 2) := by decide +kernel
theorem dX3_write_234 : decode cX3_write 234 = .ok (.goto 18, 3) := by decide +kernel
theorem dX3_write_237 : decode cX3_write 237 = .ok (.iload 5, 2) := by decide +kernel
theorem dX3_write_239 : decode cX3_write 239 = .ok (.iload 8, 2) := by decide +kernel
theorem dX3_write_241 : decode cX3_write 241 = .ok (.bipush 97, 2) := by decide +kernel
theorem dX3_write_243 : decode cX3_write 243 = .ok (.if_icmp .ne 7, 3) := by decide +kernel
theorem dX3_write_246 : decode cX3_write 246 = .ok (.iconst 2, 1) := by decide +kernel
theorem dX3_write_247 : decode cX3_write 247 = .ok (.goto 4, 3) := by decide +kernel
theorem dX3_write_250 : decode cX3_write 250 = .ok (.iconst 1, 1) := by decide +kernel
theorem dX3_write_251 : decode cX3_write 251 = .ok (.isub, 1) := by decide +kernel
theorem dX3_write_252 : decode cX3_write 252 = .ok (.istore 5, 2) := by decide +kernel
theorem dX3_write_254 : decode cX3_write 254 = .ok (.aload_n 0, 1) := by decide +kernel
theorem dX3_write_255 : decode cX3_write 255 = .ok (.getfield 14, 3) := by decide +kernel
theorem dX3_write_258 : decode cX3_write 258 = .ok (.dup, 1) := by decide +kernel
theorem dX3_write_259 : decode cX3_write 259 = .ok (.getfield 84, 3) := by decide +kernel
theorem dX3_write_262 : decode cX3_write 262 = .ok (.iconst 1, 1) := by decide +kernel
theorem dX3_write_263 : decode cX3_write 263 = .ok (.isub, 1) := by decide +kernel
theorem dX3_write_264 : decode cX3_write 264 = .ok (.putfield 84, 3) := by decide +kernel
theorem dX3_write_267 : decode cX3_write 267 = .ok (.aload_n 0, 1) := by decide +kernel
theorem dX3_write_268 : decode cX3_write 268 = .ok (.aload_n 0, 1) := by decide +kernel
theorem dX3_write_269 : decode cX3_write 269 = .ok (.getfield 47, 3) := by decide +kernel
theorem dX3_write_272 : decode cX3_write 272 = .ok (.iload 8, 2) := by decide +kernel
theorem dX3_write_274 : decode cX3_write 274 = .ok (.aload_n 0, 1) := by decide +kernel
theorem dX3_write_275 : decode cX3_write 275 = .ok (.getfield 18, 3) := by decide +kernel
theorem dX3_write_278 : decode cX3_write 278 = .ok (.aload_n 0, 1) := by decide +kernel
theorem dX3_write_279 : decode cX3_write 279 = .ok (.getfield 14, 3) := by decide +kernel
theorem dX3_write_282 : decode cX3_write 282 = .ok (.getfield 84, 3) := by decide +kernel
theorem dX3_write_285 : decode cX3_write 285 = .ok (.iconst 1, 1) := by decide +kernel
theorem dX3_write_286 : decode cX3_write 286 = .ok (.isub, 1) := by decide +kernel
theorem dX3_write_287 : decode cX3_write 287 = .ok (.iaload, 1) := by decide +kernel
theorem dX3_write_288 : decode cX3_write 288 = .ok (.aload_n 0, 1) := by decide +kernel
theorem dX3_write_289 : decode cX3_write 289 = .ok (.getfield 18, 3) := by decide +kernel
theorem dX3_write_292 : decode cX3_write 292 = .ok (.iload 5, 2) := by decide +kernel
theorem dX3_write_294 : decode cX3_write 294 = .ok (.iaload, 1) := by decide +kernel
theorem dX3_write_295 : decode cX3_write 295 = .ok (.aload_n 0, 1) := by decide +kernel
theorem dX3_write_296 : decode cX3_write 296 = .ok (.getfield 18, 3) := by decide +kernel
theorem dX3_write_299 : decode cX3_write 299 = .ok (.iload 5, 2) := by decide +kernel
theorem dX3_write_301 : decode cX3_write 301 = .ok (.iconst 1, 1) := by decide +kernel
theorem dX3_write_302 : decode cX3_write 302 = .ok (.iadd, 1) := by decide +kernel
theorem dX3_write_303 : decode cX3_write 303 = .ok (.iaload, 1) := by decide +kernel
theorem dX3_write_304 : decode cX3_write 304 = .ok (.aload_n 0, 1) := by decide +kernel
theorem dX3_write_305 : decode cX3_write 305 = .ok (.getfield 18, 3) := by decide +kernel
theorem dX3_write_308 : decode cX3_write 308 = .ok (.aload_n 0, 1) := by decide +kernel
theorem dX3_write_309 : decode cX3_write 309 = .ok (.getfield 14, 3) := by decide +kernel
theorem dX3_write_312 : decode cX3_write 312 = .ok (.getfield 84, 3) := by decide +kernel
theorem dX3_write_315 : decode cX3_write 315 = .ok (.iaload, 1) := by decide +kernel
theorem dX3_write_316 : decode cX3_write 316 = .ok (.invokevirtual 547, 3) := by decide +kernel
theorem dX3_write_319 : decode cX3_write 319 = .ok (.invokevirtual 280, 3) := by decide +kernel
theorem dX3_write_322 : decode cX3_write 322 = .ok (.iinc 7 (-1), 3) := by decide +kernel
theorem dX3_write_325 : decode cX3_write 325 = .ok (.goto (-134), 3) := by decide +kernel
theorem dX3_write_328 : decode cX3_write 328 = .ok (.aload_n 0, 1) := by decide +kernel
theorem dX3_write_329 : decode cX3_write 329 = .ok (.getfield 149, 3) := by decide +kernel
theorem dX3_write_332 : decode cX3_write 332 = .ok (.ifCond .ne 23, 3) := by decide +kernel
theorem dX3_write_335 : decode cX3_write 335 = .ok (.aload_n 0, 1) := by decide +kernel
theorem dX3_write_336 : decode cX3_write 336 = .ok (.iload_n 1, 1) := by decide +kernel
theorem dX3_write_337 : decode cX3_write 337 = .ok (.aload_n 0, 1) := by decide +kernel
theorem dX3_write_338 : decode cX3_write 338 = .ok (.getfield 18, 3) := by decide +kernel
theorem dX3_write_341 : decode cX3_write 341 = .ok (.aload_n 0, 1) := by decide +kernel
theorem dX3_write_342 : decode cX3_write 342 = .ok (.getfield 14, 3) := by decide +kernel
theorem dX3_write_345 : decode cX3_write 345 = .ok (.getfield 84, 3) := by decide +kernel
theorem dX3_write_348 : decode cX3_write 348 = .ok (.iconst 1, 1) := by decide +kernel
theorem dX3_write_349 : decode cX3_write 349 = .ok (.isub, 1) := by decide +kernel
theorem dX3_write_350 : decode cX3_write 350 = .ok (.iaload, 1) := by decide +kernel
theorem dX3_write_351 : decode cX3_write 351 = .ok (.iload_n 3, 1) := by decide +kernel
theorem dX3_write_352 : decode cX3_write 352 = .ok (.invokevirtual 504, 3) := by decide +kernel
theorem dX3_write_355 : decode cX3_write 355 = .ok (.aload_n 0, 1) := by decide +kernel
theorem dX3_write_356 : decode cX3_write 356 = .ok (.getfield 14, 3) := by decide +kernel
theorem dX3_write_359 : decode cX3_write 359 = .ok (.iload 4, 2) := by decide +kernel
theorem dX3_write_361 : decode cX3_write 361 = .ok (.putfield 84, 3) := by decide +kernel
theorem dX3_write_364 : decode cX3_write 364 = .ok (.return_, 1) := by decide +kernel
theorem dX5_assignResult_0 : decode cX5_assignResult 0 = .ok (.aload_n 0, 1) := by decide +kernel
theorem dX5_assignResult_1 : decode cX5_assignResult 1 = .ok (.getfield 9, 3) := by decide +kernel
theorem dX5_assignResult_4 : decode cX5_assignResult 4 = .ok (.iload_n 1, 1) := by decide +kernel
theorem dX5_assignResult_5 : decode cX5_assignResult 5 = .ok (.iconst 2, 1) := by decide +kernel
theorem dX5_assignResult_6 : decode cX5_assignResult 6 = .ok (.iadd, 1) := by decide +kernel
theorem dX5_assignResult_7 : decode cX5_assignResult 7 = .ok (.iaload, 1) := by decide +kernel
theorem dX5_assignResult_8 : decode cX5_assignResult 8 = .ok (.istore_n 3, 1) := by decide +kernel
theorem dX5_assignResult_9 : decode cX5_assignResult 9 = .ok (.aload_n 0, 1) := by decide +kernel
theorem dX5_assignResult_10 : decode cX5_assignResult 10 = .ok (.getfield 93, 3) := by decide +kernel
theorem dX5_assignResult_13 : decode cX5_assignResult 13 = .ok (.bipush 38, 2) := by decide +kernel
theorem dX5_assignResult_15 : decode cX5_assignResult 15 = .ok (.iload_n 3, 1) := by decide +kernel
theorem dX5_assignResult_16 : decode cX5_assignResult 16 = .ok (.aload_n 0, 1) := by decide +kernel
theorem dX5_assignResult_17 : decode cX5_assignResult 17 = .ok (.getfield 93, 3) := by decide +kernel
theorem dX5_assignResult_20 : decode cX5_assignResult 20 = .ok (.getfield 176, 3) := by decide +kernel
theorem dX5_assignResult_23 : decode cX5_assignResult 23 = .ok (.iload_n 2, 1) := by decide +kernel
theorem dX5_assignResult_24 : decode cX5_assignResult 24 = .ok (.iaload, 1) := by decide +kernel
theorem dX5_assignResult_25 : decode cX5_assignResult 25 = .ok (.iadd, 1) := by decide +kernel
theorem dX5_assignResult_26 : decode cX5_assignResult 26 = .ok (.invokevirtual 66, 3) := by decide +kernel
theorem dX5_assignResult_29 : decode cX5_assignResult 29 = .ok (.pop, 1) := by decide +kernel
theorem dX5_assignResult_30 : decode cX5_assignResult 30 = .ok (.aload_n 0, 1) := by decide +kernel
theorem dX5_assignResult_31 : decode cX5_assignResult 31 = .ok (.sipush 192, 3) := by decide +kernel
theorem dX5_assignResult_34 : decode cX5_assignResult 34 = .ok (.iload_n 1, 1) := by decide +kernel
theorem dX5_assignResult_35 : decode cX5_assignResult 35 = .ok (.iload_n 3, 1) := by decide +kernel
theorem dX5_assignResult_36 : decode cX5_assignResult 36 = .ok (.iconst 1, 1) := by decide +kernel
theorem dX5_assignResult_37 : decode cX5_assignResult 37 = .ok (.iadd, 1) := by decide +kernel
theorem dX5_assignResult_38 : decode cX5_assignResult 38 = .ok (.invokevirtual 316, 3) := by decide +kernel
theorem dX5_assignResult_41 : decode cX5_assignResult 41 = .ok (.aload_n 0, 1) := by decide +kernel
theorem dX5_assignResult_42 : decode cX5_assignResult 42 = .ok (.getfield 93, 3) := by decide +kernel
theorem dX5_assignResult_45 : decode cX5_assignResult 45 = .ok (.bipush 37, 2) := by decide +kernel
theorem dX5_assignResult_47 : decode cX5_assignResult 47 = .ok (.iload_n 3, 1) := by decide +kernel
theorem dX5_assignResult_48 : decode cX5_assignResult 48 = .ok (.iconst 2, 1) := by decide +kernel
theorem dX5_assignResult_49 : decode cX5_assignResult 49 = .ok (.iadd, 1) := by decide +kernel
theorem dX5_assignResult_50 : decode cX5_assignResult 50 = .ok (.aload_n 0, 1) := by decide +kernel
theorem dX5_assignResult_51 : decode cX5_assignResult 51 = .ok (.getfield 93, 3) := by decide +kernel
theorem dX5_assignResult_54 : decode cX5_assignResult 54 = .ok (.getfield 176, 3) := by decide +kernel
theorem dX5_assignResult_57 : decode cX5_assignResult 57 = .ok (.iload_n 2, 1) := by decide +kernel
theorem dX5_assignResult_58 : decode cX5_assignResult 58 = .ok (.iaload, 1) := by decide +kernel
theorem dX5_assignResult_59 : decode cX5_assignResult 59 = .ok (.iadd, 1) := by decide +kernel
theorem dX5_assignResult_60 : decode cX5_assignResult 60 = .ok (.invokevirtual 66, 3) := by decide +kernel
theorem dX5_assignResult_63 : decode cX5_assignResult 63 = .ok (.pop, 1) := by decide +kernel
theorem dX5_assignResult_64 : decode cX5_assignResult 64 = .ok (.return_, 1) := by decide +kernel
theorem dX5_assignment_0 : decode cX5_assignment 0 = .ok (.aload_n 0, 1) := by decide +kernel
theorem dX5_assignment_1 : decode cX5_assignment 1 = .ok (.getfield 18, 3) := by decide +kernel
theorem dX5_assignment_4 : decode cX5_assignment 4 = .ok (.getfield 36, 3) := by decide +kernel
theorem dX5_assignment_7 : decode cX5_assignment 7 = .ok (.bipush 63, 2) := by decide +kernel
theorem dX5_assignment_9 : decode cX5_assignment 9 = .ok (.if_icmp .ne 35, 3) := by decide +kernel
theorem dX5_assignment_12 : decode cX5_assignment 12 = .ok (.aload_n 0, 1) := by decide +kernel
theorem dX5_assignment_13 : decode cX5_assignment 13 = .ok (.getfield 9, 3) := by decide +kernel
theorem dX5_assignment_16 : decode cX5_assignment 16 = .ok (.iload_n 1, 1) := by decide +kernel
theorem dX5_assignment_17 : decode cX5_assignment 17 = .ok (.iconst 3, 1) := by decide +kernel
theorem dX5_assignment_18 : decode cX5_assignment 18 = .ok (.iadd, 1) := by decide +kernel
theorem dX5_assignment_19 : decode cX5_assignment 19 = .ok (.iaload, 1) := by decide +kernel
theorem dX5_assignment_20 : decode cX5_assignment 20 = .ok (.ifCond .ne 24, 3) := by decide +kernel
theorem dX5_assignment_23 : decode cX5_assignment 23 = .ok (.aload_n 0, 1) := by decide +kernel
theorem dX5_assignment_24 : decode cX5_assignment 24 = .ok (.getfield 18, 3) := by decide +kernel
theorem dX5_assignment_27 : decode cX5_assignment 27 = .ok (.invokevirtual 30, 3) := by decide +kernel
theorem dX5_assignment_30 : decode cX5_assignment 30 = .ok (.aload_n 0, 1) := by decide +kernel
theorem dX5_assignment_31 : decode cX5_assignment 31 = .ok (.getfield 93, 3) := by decide +kernel
theorem dX5_assignment_34 : decode cX5_assignment 34 = .ok (.bipush 21, 2) := by decide +kernel
theorem dX5_assignment_36 : decode cX5_assignment 36 = .ok (.iconst 0, 1) := by decide +kernel
theorem dX5_assignment_37 : decode cX5_assignment 37 = .ok (.invokevirtual 66, 3) := by decide +kernel
theorem dX5_assignment_40 : decode cX5_assignment 40 = .ok (.pop, 1) := by decide +kernel
theorem dX5_assignment_41 : decode cX5_assignment 41 = .ok (.goto 8, 3) := by decide +kernel
theorem dX5_assignment_44 : decode cX5_assignment 44 = .ok (.aload_n 0, 1) := by decide +kernel
theorem dX5_assignment_45 : decode cX5_assignment 45 = .ok (.iconst 0, 1) := by decide +kernel
theorem dX5_assignment_46 : decode cX5_assignment 46 = .ok (.invokevirtual 90, 3) := by decide +kernel
theorem dX5_assignment_49 : decode cX5_assignment 49 = .ok (.aload_n 0, 1) := by decide +kernel
theorem dX5_assignment_50 : decode cX5_assignment 50 = .ok (.sipush 192, 3) := by decide +kernel
theorem dX5_assignment_53 : decode cX5_assignment 53 = .ok (.iload_n 1, 1) := by decide +kernel
theorem dX5_assignment_54 : decode cX5_assignment 54 = .ok (.aload_n 0, 1) := by decide +kernel
theorem dX5_assignment_55 : decode cX5_assignment 55 = .ok (.getfield 9, 3) := by decide +kernel
theorem dX5_assignment_58 : decode cX5_assignment 58 = .ok (.iload_n 1, 1) := by decide +kernel
theorem dX5_assignment_59 : decode cX5_assignment 59 = .ok (.iconst 2, 1) := by decide +kernel
theorem dX5_assignment_60 : decode cX5_assignment 60 = .ok (.iadd, 1) := by decide +kernel
theorem dX5_assignment_61 : decode cX5_assignment 61 = .ok (.iaload, 1) := by decide +kernel
theorem dX5_assignment_62 : decode cX5_assignment 62 = .ok (.iconst 1, 1) := by decide +kernel
theorem dX5_assignment_63 : decode cX5_assignment 63 = .ok (.iadd, 1) := by decide +kernel
theorem dX5_assignment_64 : decode cX5_assignment 64 = .ok (.invokevirtual 316, 3) := by decide +kernel
theorem dX5_assignment_67 : decode cX5_assignment 67 = .ok (.aload_n 0, 1) := by decide +kernel
theorem dX5_assignment_68 : decode cX5_assignment 68 = .ok (.getfield 93, 3) := by decide +kernel
theorem dX5_assignment_71 : decode cX5_assignment 71 = .ok (.bipush 37, 2) := by decide +kernel
theorem dX5_assignment_73 : decode cX5_assignment 73 = .ok (.aload_n 0, 1) := by decide +kernel
theorem dX5_assignment_74 : decode cX5_assignment 74 = .ok (.getfield 9, 3) := by decide +kernel
theorem dX5_assignment_77 : decode cX5_assignment 77 = .ok (.iload_n 1, 1) := by decide +kernel
theorem dX5_assignment_78 : decode cX5_assignment 78 = .ok (.iconst 2, 1) := by decide +kernel
theorem dX5_assignment_79 : decode cX5_assignment 79 = .ok (.iadd, 1) := by decide +kernel
theorem dX5_assignment_80 : decode cX5_assignment 80 = .ok (.iaload, 1) := by decide +kernel
theorem dX5_assignment_81 : decode cX5_assignment 81 = .ok (.iconst 1, 1) := by decide +kernel
theorem dX5_assignment_82 : decode cX5_assignment 82 = .ok (.iadd, 1) := by decide +kernel
theorem dX5_assignment_83 : decode cX5_assignment 83 = .ok (.invokevirtual 66, 3) := by decide +kernel
theorem dX5_assignment_86 : decode cX5_assignment 86 = .ok (.pop, 1) := by decide +kernel
theorem dX5_assignment_87 : decode cX5_assignment 87 = .ok (.return_, 1) := by decide +kernel
theorem dX5_begin_0 : decode cX5_begin 0 = .ok (.aload_n 0, 1) := by decide +kernel
theorem dX5_begin_1 : decode cX5_begin 1 = .ok (.aload_n 1, 1) := by decide +kernel
theorem dX5_begin_2 : decode cX5_begin 2 = .ok (.putfield 93, 3) := by decide +kernel
theorem dX5_begin_5 : decode cX5_begin 5 = .ok (.aload_n 0, 1) := by decide +kernel
theorem dX5_begin_6 : decode cX5_begin 6 = .ok (.iload_n 2, 1) := by decide +kernel
theorem dX5_begin_7 : decode cX5_begin 7 = .ok (.putfield 97, 3) := by decide +kernel
theorem dX5_begin_10 : decode cX5_begin 10 = .ok (.aload_n 0, 1) := by decide +kernel
theorem dX5_begin_11 : decode cX5_begin 11 = .ok (.iload_n 3, 1) := by decide +kernel
theorem dX5_begin_12 : decode cX5_begin 12 = .ok (.putfield 100, 3) := by decide +kernel
theorem dX5_begin_15 : decode cX5_begin 15 = .ok (.aload_n 0, 1) := by decide +kernel
theorem dX5_begin_16 : decode cX5_begin 16 = .ok (.iconst 0, 1) := by decide +kernel
theorem dX5_begin_17 : decode cX5_begin 17 = .ok (.putfield 103, 3) := by decide +kernel
theorem dX5_begin_20 : decode cX5_begin 20 = .ok (.aload_n 0, 1) := by decide +kernel
theorem dX5_begin_21 : decode cX5_begin 21 = .ok (.iconst 0, 1) := by decide +kernel
theorem dX5_begin_22 : decode cX5_begin 22 = .ok (.putfield 75, 3) := by decide +kernel
theorem dX5_begin_25 : decode cX5_begin 25 = .ok (.aload_n 0, 1) := by decide +kernel
theorem dX5_begin_26 : decode cX5_begin 26 = .ok (.iconst 0, 1) := by decide +kernel
theorem dX5_begin_27 : decode cX5_begin 27 = .ok (.putfield 81, 3) := by decide +kernel
theorem dX5_begin_30 : decode cX5_begin 30 = .ok (.aload_n 0, 1) := by decide +kernel
theorem dX5_begin_31 : decode cX5_begin 31 = .ok (.iconst (-1), 1) := by decide +kernel
theorem dX5_begin_32 : decode cX5_begin 32 = .ok (.putfield 106, 3) := by decide +kernel
theorem dX5_begin_35 : decode cX5_begin 35 = .ok (.aload_n 0, 1) := by decide +kernel
theorem dX5_begin_36 : decode cX5_begin 36 = .ok (.iconst 0, 1) := by decide +kernel
theorem dX5_begin_37 : decode cX5_begin 37 = .ok (.putfield 109, 3) := by decide +kernel
theorem dX5_begin_40 : decode cX5_begin 40 = .ok (.aload_n 0, 1) := by decide +kernel
theorem dX5_begin_41 : decode cX5_begin 41 = .ok (.iconst 0, 1) := by decide +kernel
theorem dX5_begin_42 : decode cX5_begin 42 = .ok (.putfield 112, 3) := by decide +kernel
theorem dX5_begin_45 : decode cX5_begin 45 = .ok (.aload_n 0, 1) := by decide +kernel
theorem dX5_begin_46 : decode cX5_begin 46 = .ok (.iconst 0, 1) := by decide +kernel
theorem dX5_begin_47 : decode cX5_begin 47 = .ok (.putfield 115, 3) := by decide +kernel
theorem dX5_begin_50 : decode cX5_begin 50 = .ok (.aload_n 0, 1) := by decide +kernel
theorem dX5_begin_51 : decode cX5_begin 51 = .ok (.iconst (-1), 1) := by decide +kernel
theorem dX5_begin_52 : decode cX5_begin 52 = .ok (.putfield 118, 3) := by decide +kernel
theorem dX5_begin_55 : decode cX5_begin 55 = .ok (.aload_n 0, 1) := by decide +kernel
theorem dX5_begin_56 : decode cX5_begin 56 = .ok (.getfield 18, 3) := by decide +kernel
theorem dX5_begin_59 : decode cX5_begin 59 = .ok (.invokevirtual 121, 3) := by decide +kernel
theorem dX5_begin_62 : decode cX5_begin 62 = .ok (.return_, 1) := by decide +kernel
theorem dX5_block_0 : decode cX5_block 0 = .ok (.iconst 0, 1) := by decide +kernel
theorem dX5_block_1 : decode cX5_block 1 = .ok (.istore_n 1, 1) := by decide +kernel
theorem dX5_block_2 : decode cX5_block 2 = .ok (.iload_n 1, 1) := by decide +kernel
theorem dX5_block_3 : decode cX5_block 3 = .ok (.sipush 400, 3) := by decide +kernel
theorem dX5_block_6 : decode cX5_block 6 = .ok (.if_icmp .gt 54, 3) := by decide +kernel
theorem dX5_block_9 : decode cX5_block 9 = .ok (.aload_n 0, 1) := by decide +kernel
theorem dX5_block_10 : decode cX5_block 10 = .ok (.invokevirtual 205, 3) := by decide +kernel
theorem dX5_block_13 : decode cX5_block 13 = .ok (.ifCond .eq 47, 3) := by decide +kernel
theorem dX5_block_16 : decode cX5_block 16 = .ok (.aload_n 0, 1) := by decide +kernel
theorem dX5_block_17 : decode cX5_block 17 = .ok (.invokevirtual 209, 3) := by decide +kernel
theorem dX5_block_20 : decode cX5_block 20 = .ok (.aload_n 0, 1) := by decide +kernel
theorem dX5_block_21 : decode cX5_block 21 = .ok (.getfield 93, 3) := by decide +kernel
theorem dX5_block_24 : decode cX5_block 24 = .ok (.dup, 1) := by decide +kernel
theorem dX5_block_25 : decode cX5_block 25 = .ok (.getfield 212, 3) := by decide +kernel
theorem dX5_block_28 : decode cX5_block 28 = .ok (.iconst 1, 1) := by decide +kernel
theorem dX5_block_29 : decode cX5_block 29 = .ok (.iadd, 1) := by decide +kernel
theorem dX5_block_30 : decode cX5_block 30 = .ok (.putfield 212, 3) := by decide +kernel
theorem dX5_block_33 : decode cX5_block 33 = .ok (.aload_n 0, 1) := by decide +kernel
theorem dX5_block_34 : decode cX5_block 34 = .ok (.getfield 93, 3) := by decide +kernel
theorem dX5_block_37 : decode cX5_block 37 = .ok (.iconst 0, 1) := by decide +kernel
theorem dX5_block_38 : decode cX5_block 38 = .ok (.aload_n 0, 1) := by decide +kernel
theorem dX5_block_39 : decode cX5_block 39 = .ok (.getfield 18, 3) := by decide +kernel
theorem dX5_block_42 : decode cX5_block 42 = .ok (.getfield 78, 3) := by decide +kernel
theorem dX5_block_45 : decode cX5_block 45 = .ok (.invokevirtual 66, 3) := by decide +kernel
theorem dX5_block_48 : decode cX5_block 48 = .ok (.istore_n 2, 1) := by decide +kernel
theorem dX5_block_49 : decode cX5_block 49 = .ok (.aload_n 0, 1) := by decide +kernel
theorem dX5_block_50 : decode cX5_block 50 = .ok (.iload_n 2, 1) := by decide +kernel
theorem dX5_block_51 : decode cX5_block 51 = .ok (.invokevirtual 215, 3) := by decide +kernel
theorem dX5_block_54 : decode cX5_block 54 = .ok (.iinc 1 1, 3) := by decide +kernel
theorem dX5_block_57 : decode cX5_block 57 = .ok (.goto (-55), 3) := by decide +kernel
theorem dX5_block_60 : decode cX5_block 60 = .ok (.return_, 1) := by decide +kernel
theorem dX5_call_0 : decode cX5_call 0 = .ok (.aload_n 0, 1) := by decide +kernel
theorem dX5_call_1 : decode cX5_call 1 = .ok (.getfield 93, 3) := by decide +kernel
theorem dX5_call_4 : decode cX5_call 4 = .ok (.getfield 176, 3) := by decide +kernel
theorem dX5_call_7 : decode cX5_call 7 = .ok (.iload_n 1, 1) := by decide +kernel
theorem dX5_call_8 : decode cX5_call 8 = .ok (.iaload, 1) := by decide +kernel
theorem dX5_call_9 : decode cX5_call 9 = .ok (.istore_n 3, 1) := by decide +kernel
theorem dX5_call_10 : decode cX5_call 10 = .ok (.iconst 0, 1) := by decide +kernel
theorem dX5_call_11 : decode cX5_call 11 = .ok (.istore 4, 2) := by decide +kernel
theorem dX5_call_13 : decode cX5_call 13 = .ok (.aload_n 0, 1) := by decide +kernel
theorem dX5_call_14 : decode cX5_call 14 = .ok (.getfield 93, 3) := by decide +kernel
theorem dX5_call_17 : decode cX5_call 17 = .ok (.bipush 16, 2) := by decide +kernel
theorem dX5_call_19 : decode cX5_call 19 = .ok (.iconst 0, 1) := by decide +kernel
theorem dX5_call_20 : decode cX5_call 20 = .ok (.invokevirtual 66, 3) := by decide +kernel
theorem dX5_call_23 : decode cX5_call 23 = .ok (.pop, 1) := by decide +kernel
theorem dX5_call_24 : decode cX5_call 24 = .ok (.aload_n 0, 1) := by decide +kernel
theorem dX5_call_25 : decode cX5_call 25 = .ok (.invokevirtual 173, 3) := by decide +kernel
theorem dX5_call_28 : decode cX5_call 28 = .ok (.aload_n 0, 1) := by decide +kernel
theorem dX5_call_29 : decode cX5_call 29 = .ok (.getfield 18, 3) := by decide +kernel
theorem dX5_call_32 : decode cX5_call 32 = .ok (.getfield 36, 3) := by decide +kernel
theorem dX5_call_35 : decode cX5_call 35 = .ok (.bipush 11, 2) := by decide +kernel
theorem dX5_call_37 : decode cX5_call 37 = .ok (.if_icmp .eq 7, 3) := by decide +kernel
theorem dX5_call_40 : decode cX5_call 40 = .ok (.iconst 1, 1) := by decide +kernel
theorem dX5_call_41 : decode cX5_call 41 = .ok (.goto 4, 3) := by decide +kernel
theorem dX5_call_44 : decode cX5_call 44 = .ok (.iconst 0, 1) := by decide +kernel
theorem dX5_call_45 : decode cX5_call 45 = .ok (.istore 5, 2) := by decide +kernel
theorem dX5_call_47 : decode cX5_call 47 = .ok (.iconst 0, 1) := by decide +kernel
theorem dX5_call_48 : decode cX5_call 48 = .ok (.istore 6, 2) := by decide +kernel
theorem dX5_call_50 : decode cX5_call 50 = .ok (.iload 6, 2) := by decide +kernel
theorem dX5_call_52 : decode cX5_call 52 = .ok (.ldc 35, 2) := by decide +kernel
theorem dX5_call_54 : decode cX5_call 54 = .ok (.if_icmp .gt 160, 3) := by decide +kernel
theorem dX5_call_57 : decode cX5_call 57 = .ok (.iload 5, 2) := by decide +kernel
theorem dX5_call_59 : decode cX5_call 59 = .ok (.ifCond .eq 155, 3) := by decide +kernel
theorem dX5_call_62 : decode cX5_call 62 = .ok (.aload_n 0, 1) := by decide +kernel
theorem dX5_call_63 : decode cX5_call 63 = .ok (.getfield 18, 3) := by decide +kernel
theorem dX5_call_66 : decode cX5_call 66 = .ok (.getfield 78, 3) := by decide +kernel
theorem dX5_call_69 : decode cX5_call 69 = .ok (.istore 7, 2) := by decide +kernel
theorem dX5_call_71 : decode cX5_call 71 = .ok (.aload_n 0, 1) := by decide +kernel
theorem dX5_call_72 : decode cX5_call 72 = .ok (.getfield 93, 3) := by decide +kernel
theorem dX5_call_75 : decode cX5_call 75 = .ok (.getfield 50, 3) := by decide +kernel
theorem dX5_call_78 : decode cX5_call 78 = .ok (.istore 8, 2) := by decide +kernel
theorem dX5_call_80 : decode cX5_call 80 = .ok (.aload_n 0, 1) := by decide +kernel
theorem dX5_call_81 : decode cX5_call 81 = .ok (.iconst 0, 1) := by decide +kernel
theorem dX5_call_82 : decode cX5_call 82 = .ok (.invokevirtual 90, 3) := by decide +kernel
theorem dX5_call_85 : decode cX5_call 85 = .ok (.iload 4, 2) := by decide +kernel
theorem dX5_call_87 : decode cX5_call 87 = .ok (.iload_n 3, 1) := by decide +kernel
theorem dX5_call_88 : decode cX5_call 88 = .ok (.if_icmp .ge 16, 3) := by decide +kernel
theorem dX5_call_91 : decode cX5_call 91 = .ok (.aload_n 0, 1) := by decide +kernel
theorem dX5_call_92 : decode cX5_call 92 = .ok (.getfield 93, 3) := by decide +kernel
theorem dX5_call_95 : decode cX5_call 95 = .ok (.iload_n 1, 1) := by decide +kernel
theorem dX5_call_96 : decode cX5_call 96 = .ok (.iload 4, 2) := by decide +kernel
theorem dX5_call_98 : decode cX5_call 98 = .ok (.invokevirtual 338, 3) := by decide +kernel
theorem dX5_call_101 : decode cX5_call 101 = .ok (.goto 4, 3) := by decide +kernel
theorem dX5_call_104 : decode cX5_call 104 = .ok (.iconst 0, 1) := by decide +kernel
theorem dX5_call_105 : decode cX5_call 105 = .ok (.istore 9, 2) := by decide +kernel
theorem dX5_call_107 : decode cX5_call 107 = .ok (.iload 9, 2) := by decide +kernel
theorem dX5_call_109 : decode cX5_call 109 = .ok (.ifCond .eq 44, 3) := by decide +kernel
theorem dX5_call_112 : decode cX5_call 112 = .ok (.aload_n 0, 1) := by decide +kernel
theorem dX5_call_113 : decode cX5_call 113 = .ok (.getfield 118, 3) := by decide +kernel
theorem dX5_call_116 : decode cX5_call 116 = .ok (.iload 7, 2) := by decide +kernel
theorem dX5_call_118 : decode cX5_call 118 = .ok (.if_icmp .ne 17, 3) := by decide +kernel
theorem dX5_call_121 : decode cX5_call 121 = .ok (.aload_n 0, 1) := by decide +kernel
theorem dX5_call_122 : decode cX5_call 122 = .ok (.getfield 341, 3) := by decide +kernel
theorem dX5_call_125 : decode cX5_call 125 = .ok (.aload_n 0, 1) := by decide +kernel
theorem dX5_call_126 : decode cX5_call 126 = .ok (.getfield 93, 3) := by decide +kernel
theorem dX5_call_129 : decode cX5_call 129 = .ok (.getfield 50, 3) := by decide +kernel
theorem dX5_call_132 : decode cX5_call 132 = .ok (.if_icmp .eq 11, 3) := by decide +kernel
theorem dX5_call_135 : decode cX5_call 135 = .ok (.aload_n 0, 1) := by decide +kernel
theorem dX5_call_136 : decode cX5_call 136 = .ok (.bipush 6, 2) := by decide +kernel
theorem dX5_call_138 : decode cX5_call 138 = .ok (.iload 7, 2) := by decide +kernel
theorem dX5_call_140 : decode cX5_call 140 = .ok (.invokevirtual 125, 3) := by decide +kernel
theorem dX5_call_143 : decode cX5_call 143 = .ok (.aload_n 0, 1) := by decide +kernel
theorem dX5_call_144 : decode cX5_call 144 = .ok (.iload_n 3, 1) := by decide +kernel
theorem dX5_call_145 : decode cX5_call 145 = .ok (.iconst 1, 1) := by decide +kernel
theorem dX5_call_146 : decode cX5_call 146 = .ok (.isub, 1) := by decide +kernel
theorem dX5_call_147 : decode cX5_call 147 = .ok (.iload 4, 2) := by decide +kernel
theorem dX5_call_149 : decode cX5_call 149 = .ok (.isub, 1) := by decide +kernel
theorem dX5_call_150 : decode cX5_call 150 = .ok (.invokevirtual 344, 3) := by decide +kernel
theorem dX5_call_153 : decode cX5_call 153 = .ok (.iload 9, 2) := by decide +kernel
theorem dX5_call_155 : decode cX5_call 155 = .ok (.iconst 1, 1) := by decide +kernel
theorem dX5_call_156 : decode cX5_call 156 = .ok (.if_icmp .ne 18, 3) := by decide +kernel
theorem dX5_call_159 : decode cX5_call 159 = .ok (.aload_n 0, 1) := by decide +kernel
theorem dX5_call_160 : decode cX5_call 160 = .ok (.getfield 93, 3) := by decide +kernel
theorem dX5_call_163 : decode cX5_call 163 = .ok (.iload 8, 2) := by decide +kernel
theorem dX5_call_165 : decode cX5_call 165 = .ok (.putfield 50, 3) := by decide +kernel
theorem dX5_call_168 : decode cX5_call 168 = .ok (.aload_n 0, 1) := by decide +kernel
theorem dX5_call_169 : decode cX5_call 169 = .ok (.ldc 198, 2) := by decide +kernel
theorem dX5_call_171 : decode cX5_call 171 = .ok (.invokevirtual 199, 3) := by decide +kernel
theorem dX5_call_174 : decode cX5_call 174 = .ok (.iinc 4 1, 3) := by decide +kernel
theorem dX5_call_177 : decode cX5_call 177 = .ok (.aload_n 0, 1) := by decide +kernel
theorem dX5_call_178 : decode cX5_call 178 = .ok (.getfield 18, 3) := by decide +kernel
theorem dX5_call_181 : decode cX5_call 181 = .ok (.getfield 36, 3) := by decide +kernel
theorem dX5_call_184 : decode cX5_call 184 = .ok (.bipush 16, 2) := by decide +kernel
theorem dX5_call_186 : decode cX5_call 186 = .ok (.if_icmp .ne 7, 3) := by decide +kernel
theorem dX5_call_189 : decode cX5_call 189 = .ok (.iconst 1, 1) := by decide +kernel
theorem dX5_call_190 : decode cX5_call 190 = .ok (.goto 4, 3) := by decide +kernel
theorem dX5_call_193 : decode cX5_call 193 = .ok (.iconst 0, 1) := by decide +kernel
theorem dX5_call_194 : decode cX5_call 194 = .ok (.istore 5, 2) := by decide +kernel
theorem dX5_call_196 : decode cX5_call 196 = .ok (.iload 5, 2) := by decide +kernel
theorem dX5_call_198 : decode cX5_call 198 = .ok (.ifCond .eq 10, 3) := by decide +kernel
theorem dX5_call_201 : decode cX5_call 201 = .ok (.aload_n 0, 1) := by decide +kernel
theorem dX5_call_202 : decode cX5_call 202 = .ok (.getfield 18, 3) := by decide +kernel
theorem dX5_call_205 : decode cX5_call 205 = .ok (.invokevirtual 30, 3) := by decide +kernel
theorem dX5_call_208 : decode cX5_call 208 = .ok (.iinc 6 1, 3) := by decide +kernel
theorem dX5_call_211 : decode cX5_call 211 = .ok (.goto (-161), 3) := by decide +kernel
theorem dX5_call_214 : decode cX5_call 214 = .ok (.aload_n 0, 1) := by decide +kernel
theorem dX5_call_215 : decode cX5_call 215 = .ok (.bipush 11, 2) := by decide +kernel
theorem dX5_call_217 : decode cX5_call 217 = .ok (.invokevirtual 61, 3) := by decide +kernel
theorem dX5_call_220 : decode cX5_call 220 = .ok (.iload 4, 2) := by decide +kernel
theorem dX5_call_222 : decode cX5_call 222 = .ok (.iload_n 3, 1) := by decide +kernel
theorem dX5_call_223 : decode cX5_call 223 = .ok (.if_icmp .eq 16, 3) := by decide +kernel
theorem dX5_call_226 : decode cX5_call 226 = .ok (.aload_n 0, 1) := by decide +kernel
theorem dX5_call_227 : decode cX5_call 227 = .ok (.bipush 6, 2) := by decide +kernel
theorem dX5_call_229 : decode cX5_call 229 = .ok (.aload_n 0, 1) := by decide +kernel
theorem dX5_call_230 : decode cX5_call 230 = .ok (.getfield 18, 3) := by decide +kernel
theorem dX5_call_233 : decode cX5_call 233 = .ok (.getfield 78, 3) := by decide +kernel
theorem dX5_call_236 : decode cX5_call 236 = .ok (.invokevirtual 125, 3) := by decide +kernel
theorem dX5_call_239 : decode cX5_call 239 = .ok (.aload_n 0, 1) := by decide +kernel
theorem dX5_call_240 : decode cX5_call 240 = .ok (.bipush 11, 2) := by decide +kernel
theorem dX5_call_242 : decode cX5_call 242 = .ok (.invokevirtual 186, 3) := by decide +kernel
theorem dX5_call_245 : decode cX5_call 245 = .ok (.aload_n 0, 1) := by decide +kernel
theorem dX5_call_246 : decode cX5_call 246 = .ok (.getfield 93, 3) := by decide +kernel
theorem dX5_call_249 : decode cX5_call 249 = .ok (.bipush 19, 2) := by decide +kernel
theorem dX5_call_251 : decode cX5_call 251 = .ok (.iload_n 1, 1) := by decide +kernel
theorem dX5_call_252 : decode cX5_call 252 = .ok (.invokevirtual 66, 3) := by decide +kernel
theorem dX5_call_255 : decode cX5_call 255 = .ok (.pop, 1) := by decide +kernel
theorem dX5_call_256 : decode cX5_call 256 = .ok (.aload_n 0, 1) := by decide +kernel
theorem dX5_call_257 : decode cX5_call 257 = .ok (.getfield 93, 3) := by decide +kernel
theorem dX5_call_260 : decode cX5_call 260 = .ok (.aload_n 0, 1) := by decide +kernel
theorem dX5_call_261 : decode cX5_call 261 = .ok (.getfield 15, 3) := by decide +kernel
theorem dX5_call_264 : decode cX5_call 264 = .ok (.iload_n 2, 1) := by decide +kernel
theorem dX5_call_265 : decode cX5_call 265 = .ok (.aload_n 0, 1) := by decide +kernel
theorem dX5_call_266 : decode cX5_call 266 = .ok (.getfield 115, 3) := by decide +kernel
theorem dX5_call_269 : decode cX5_call 269 = .ok (.iload_n 2, 1) := by decide +kernel
theorem dX5_call_270 : decode cX5_call 270 = .ok (.isub, 1) := by decide +kernel
theorem dX5_call_271 : decode cX5_call 271 = .ok (.invokevirtual 312, 3) := by decide +kernel
theorem dX5_call_274 : decode cX5_call 274 = .ok (.aload_n 0, 1) := by decide +kernel
theorem dX5_call_275 : decode cX5_call 275 = .ok (.getfield 93, 3) := by decide +kernel
theorem dX5_call_278 : decode cX5_call 278 = .ok (.aload_n 0, 1) := by decide +kernel
theorem dX5_call_279 : decode cX5_call 279 = .ok (.getfield 15, 3) := by decide +kernel
theorem dX5_call_282 : decode cX5_call 282 = .ok (.iconst 0, 1) := by decide +kernel
theorem dX5_call_283 : decode cX5_call 283 = .ok (.iload_n 2, 1) := by decide +kernel
theorem dX5_call_284 : decode cX5_call 284 = .ok (.invokevirtual 312, 3) := by decide +kernel
theorem dX5_call_287 : decode cX5_call 287 = .ok (.return_, 1) := by decide +kernel
theorem dX5_checkName_0 : decode cX5_checkName 0 = .ok (.aload_n 0, 1) := by decide +kernel
theorem dX5_checkName_1 : decode cX5_checkName 1 = .ok (.getfield 18, 3) := by decide +kernel
theorem dX5_checkName_4 : decode cX5_checkName 4 = .ok (.getfield 36, 3) := by decide +kernel
theorem dX5_checkName_7 : decode cX5_checkName 7 = .ok (.iconst 2, 1) := by decide +kernel
theorem dX5_checkName_8 : decode cX5_checkName 8 = .ok (.if_icmp .eq 15, 3) := by decide +kernel
theorem dX5_checkName_11 : decode cX5_checkName 11 = .ok (.aload_n 0, 1) := by decide +kernel
theorem dX5_checkName_12 : decode cX5_checkName 12 = .ok (.iconst 2, 1) := by decide +kernel
theorem dX5_checkName_13 : decode cX5_checkName 13 = .ok (.aload_n 0, 1) := by decide +kernel
theorem dX5_checkName_14 : decode cX5_checkName 14 = .ok (.getfield 18, 3) := by decide +kernel
theorem dX5_checkName_17 : decode cX5_checkName 17 = .ok (.getfield 78, 3) := by decide +kernel
theorem dX5_checkName_20 : decode cX5_checkName 20 = .ok (.invokevirtual 125, 3) := by decide +kernel
theorem dX5_checkName_23 : decode cX5_checkName 23 = .ok (.aload_n 0, 1) := by decide +kernel
theorem dX5_checkName_24 : decode cX5_checkName 24 = .ok (.getfield 93, 3) := by decide +kernel
theorem dX5_checkName_27 : decode cX5_checkName 27 = .ok (.iload_n 1, 1) := by decide +kernel
theorem dX5_checkName_28 : decode cX5_checkName 28 = .ok (.aload_n 0, 1) := by decide +kernel
theorem dX5_checkName_29 : decode cX5_checkName 29 = .ok (.getfield 18, 3) := by decide +kernel
theorem dX5_checkName_32 : decode cX5_checkName 32 = .ok (.getfield 150, 3) := by decide +kernel
theorem dX5_checkName_35 : decode cX5_checkName 35 = .ok (.aload_n 0, 1) := by decide +kernel
theorem dX5_checkName_36 : decode cX5_checkName 36 = .ok (.getfield 18, 3) := by decide +kernel
theorem dX5_checkName_39 : decode cX5_checkName 39 = .ok (.getfield 154, 3) := by decide +kernel
theorem dX5_checkName_42 : decode cX5_checkName 42 = .ok (.invokevirtual 164, 3) := by decide +kernel
theorem dX5_checkName_45 : decode cX5_checkName 45 = .ok (.ifCond .eq 15, 3) := by decide +kernel
theorem dX5_checkName_48 : decode cX5_checkName 48 = .ok (.aload_n 0, 1) := by decide +kernel
theorem dX5_checkName_49 : decode cX5_checkName 49 = .ok (.iconst 4, 1) := by decide +kernel
theorem dX5_checkName_50 : decode cX5_checkName 50 = .ok (.aload_n 0, 1) := by decide +kernel
theorem dX5_checkName_51 : decode cX5_checkName 51 = .ok (.getfield 18, 3) := by decide +kernel
theorem dX5_checkName_54 : decode cX5_checkName 54 = .ok (.getfield 78, 3) := by decide +kernel
theorem dX5_checkName_57 : decode cX5_checkName 57 = .ok (.invokevirtual 125, 3) := by decide +kernel
theorem dX5_checkName_60 : decode cX5_checkName 60 = .ok (.aload_n 0, 1) := by decide +kernel
theorem dX5_checkName_61 : decode cX5_checkName 61 = .ok (.getfield 93, 3) := by decide +kernel
theorem dX5_checkName_64 : decode cX5_checkName 64 = .ok (.getfield 168, 3) := by decide +kernel
theorem dX5_checkName_67 : decode cX5_checkName 67 = .ok (.aload_n 0, 1) := by decide +kernel
theorem dX5_checkName_68 : decode cX5_checkName 68 = .ok (.getfield 97, 3) := by decide +kernel
theorem dX5_checkName_71 : decode cX5_checkName 71 = .ok (.iaload, 1) := by decide +kernel
theorem dX5_checkName_72 : decode cX5_checkName 72 = .ok (.bipush 60, 2) := by decide +kernel
theorem dX5_checkName_74 : decode cX5_checkName 74 = .ok (.if_icmp .lt 16, 3) := by decide +kernel
theorem dX5_checkName_77 : decode cX5_checkName 77 = .ok (.aload_n 0, 1) := by decide +kernel
theorem dX5_checkName_78 : decode cX5_checkName 78 = .ok (.bipush 8, 2) := by decide +kernel
theorem dX5_checkName_80 : decode cX5_checkName 80 = .ok (.aload_n 0, 1) := by decide +kernel
theorem dX5_checkName_81 : decode cX5_checkName 81 = .ok (.getfield 18, 3) := by decide +kernel
theorem dX5_checkName_84 : decode cX5_checkName 84 = .ok (.getfield 78, 3) := by decide +kernel
theorem dX5_checkName_87 : decode cX5_checkName 87 = .ok (.invokevirtual 125, 3) := by decide +kernel
theorem dX5_checkName_90 : decode cX5_checkName 90 = .ok (.aload_n 0, 1) := by decide +kernel
theorem dX5_checkName_91 : decode cX5_checkName 91 = .ok (.getfield 93, 3) := by decide +kernel
theorem dX5_checkName_94 : decode cX5_checkName 94 = .ok (.getfield 168, 3) := by decide +kernel
theorem dX5_checkName_97 : decode cX5_checkName 97 = .ok (.aload_n 0, 1) := by decide +kernel
theorem dX5_checkName_98 : decode cX5_checkName 98 = .ok (.getfield 97, 3) := by decide +kernel
theorem dX5_checkName_101 : decode cX5_checkName 101 = .ok (.dup2, 1) := by decide +kernel
theorem dX5_checkName_102 : decode cX5_checkName 102 = .ok (.iaload, 1) := by decide +kernel
theorem dX5_checkName_103 : decode cX5_checkName 103 = .ok (.iconst 1, 1) := by decide +kernel
theorem dX5_checkName_104 : decode cX5_checkName 104 = .ok (.iadd, 1) := by decide +kernel
theorem dX5_checkName_105 : decode cX5_checkName 105 = .ok (.iastore, 1) := by decide +kernel
theorem dX5_checkName_106 : decode cX5_checkName 106 = .ok (.return_, 1) := by decide +kernel
theorem dX5_checkStatement_0 : decode cX5_checkStatement 0 = .ok (.aload_n 0, 1) := by decide +kernel
theorem dX5_checkStatement_1 : decode cX5_checkStatement 1 = .ok (.getfield 18, 3) := by decide +kernel
theorem dX5_checkStatement_4 : decode cX5_checkStatement 4 = .ok (.getfield 36, 3) := by decide +kernel
theorem dX5_checkStatement_7 : decode cX5_checkStatement 7 = .ok (.istore_n 1, 1) := by decide +kernel
theorem dX5_checkStatement_8 : decode cX5_checkStatement 8 = .ok (.iload_n 1, 1) := by decide +kernel
theorem dX5_checkStatement_9 : decode cX5_checkStatement 9 = .ok (.bipush 14, 2) := by decide +kernel
theorem dX5_checkStatement_11 : decode cX5_checkStatement 11 = .ok (.if_icmp .eq 21, 3) := by decide +kernel
theorem dX5_checkStatement_14 : decode cX5_checkStatement 14 = .ok (.iload_n 1, 1) := by decide +kernel
theorem dX5_checkStatement_15 : decode cX5_checkStatement 15 = .ok (.bipush 39, 2) := by decide +kernel
theorem dX5_checkStatement_17 : decode cX5_checkStatement 17 = .ok (.if_icmp .eq 15, 3) := by decide +kernel
theorem dX5_checkStatement_20 : decode cX5_checkStatement 20 = .ok (.iload_n 1, 1) := by decide +kernel
theorem dX5_checkStatement_21 : decode cX5_checkStatement 21 = .ok (.bipush 43, 2) := by decide +kernel
theorem dX5_checkStatement_23 : decode cX5_checkStatement 23 = .ok (.if_icmp .eq 9, 3) := by decide +kernel
theorem dX5_checkStatement_26 : decode cX5_checkStatement 26 = .ok (.iload_n 1, 1) := by decide +kernel
theorem dX5_checkStatement_27 : decode cX5_checkStatement 27 = .ok (.bipush 45, 2) := by decide +kernel
theorem dX5_checkStatement_29 : decode cX5_checkStatement 29 = .ok (.if_icmp .ne 7, 3) := by decide +kernel
theorem dX5_checkStatement_32 : decode cX5_checkStatement 32 = .ok (.iconst 1, 1) := by decide +kernel
theorem dX5_checkStatement_33 : decode cX5_checkStatement 33 = .ok (.goto 4, 3) := by decide +kernel
theorem dX5_checkStatement_36 : decode cX5_checkStatement 36 = .ok (.iconst 0, 1) := by decide +kernel
theorem dX5_checkStatement_37 : decode cX5_checkStatement 37 = .ok (.istore_n 2, 1) := by decide +kernel
theorem dX5_checkStatement_38 : decode cX5_checkStatement 38 = .ok (.iload_n 2, 1) := by decide +kernel
theorem dX5_checkStatement_39 : decode cX5_checkStatement 39 = .ok (.ifCond .eq 24, 3) := by decide +kernel
theorem dX5_checkStatement_42 : decode cX5_checkStatement 42 = .ok (.aload_n 0, 1) := by decide +kernel
theorem dX5_checkStatement_43 : decode cX5_checkStatement 43 = .ok (.getfield 103, 3) := by decide +kernel
theorem dX5_checkStatement_46 : decode cX5_checkStatement 46 = .ok (.bipush 20, 2) := by decide +kernel
theorem dX5_checkStatement_48 : decode cX5_checkStatement 48 = .ok (.if_icmp .lt 15, 3) := by decide +kernel
theorem dX5_checkStatement_51 : decode cX5_checkStatement 51 = .ok (.aload_n 0, 1) := by decide +kernel
theorem dX5_checkStatement_52 : decode cX5_checkStatement 52 = .ok (.iconst 3, 1) := by decide +kernel
theorem dX5_checkStatement_53 : decode cX5_checkStatement 53 = .ok (.aload_n 0, 1) := by decide +kernel
theorem dX5_checkStatement_54 : decode cX5_checkStatement 54 = .ok (.getfield 18, 3) := by decide +kernel
theorem dX5_checkStatement_57 : decode cX5_checkStatement 57 = .ok (.getfield 78, 3) := by decide +kernel
theorem dX5_checkStatement_60 : decode cX5_checkStatement 60 = .ok (.invokevirtual 125, 3) := by decide +kernel
theorem dX5_checkStatement_63 : decode cX5_checkStatement 63 = .ok (.aload_n 0, 1) := by decide +kernel
theorem dX5_checkStatement_64 : decode cX5_checkStatement 64 = .ok (.getfield 93, 3) := by decide +kernel
theorem dX5_checkStatement_67 : decode cX5_checkStatement 67 = .ok (.getfield 212, 3) := by decide +kernel
theorem dX5_checkStatement_70 : decode cX5_checkStatement 70 = .ok (.sipush 400, 3) := by decide +kernel
theorem dX5_checkStatement_73 : decode cX5_checkStatement 73 = .ok (.if_icmp .lt 16, 3) := by decide +kernel
theorem dX5_checkStatement_76 : decode cX5_checkStatement 76 = .ok (.aload_n 0, 1) := by decide +kernel
theorem dX5_checkStatement_77 : decode cX5_checkStatement 77 = .ok (.bipush 8, 2) := by decide +kernel
theorem dX5_checkStatement_79 : decode cX5_checkStatement 79 = .ok (.aload_n 0, 1) := by decide +kernel
theorem dX5_checkStatement_80 : decode cX5_checkStatement 80 = .ok (.getfield 18, 3) := by decide +kernel
theorem dX5_checkStatement_83 : decode cX5_checkStatement 83 = .ok (.getfield 78, 3) := by decide +kernel
theorem dX5_checkStatement_86 : decode cX5_checkStatement 86 = .ok (.invokevirtual 125, 3) := by decide +kernel
theorem dX5_checkStatement_89 : decode cX5_checkStatement 89 = .ok (.aload_n 0, 1) := by decide +kernel
theorem dX5_checkStatement_90 : decode cX5_checkStatement 90 = .ok (.getfield 106, 3) := by decide +kernel
theorem dX5_checkStatement_93 : decode cX5_checkStatement 93 = .ok (.iconst (-1), 1) := by decide +kernel
theorem dX5_checkStatement_94 : decode cX5_checkStatement 94 = .ok (.if_icmp .eq 7, 3) := by decide +kernel
theorem dX5_checkStatement_97 : decode cX5_checkStatement 97 = .ok (.iconst 1, 1) := by decide +kernel
theorem dX5_checkStatement_98 : decode cX5_checkStatement 98 = .ok (.goto 4, 3) := by decide +kernel
theorem dX5_checkStatement_101 : decode cX5_checkStatement 101 = .ok (.iconst 0, 1) := by decide +kernel
theorem dX5_checkStatement_102 : decode cX5_checkStatement 102 = .ok (.istore_n 3, 1) := by decide +kernel
theorem dX5_checkStatement_103 : decode cX5_checkStatement 103 = .ok (.iload_n 1, 1) := by decide +kernel
theorem dX5_checkStatement_104 : decode cX5_checkStatement 104 = .ok (.bipush 49, 2) := by decide +kernel
theorem dX5_checkStatement_106 : decode cX5_checkStatement 106 = .ok (.if_icmp .eq 9, 3) := by decide +kernel
theorem dX5_checkStatement_109 : decode cX5_checkStatement 109 = .ok (.iload_n 1, 1) := by decide +kernel
theorem dX5_checkStatement_110 : decode cX5_checkStatement 110 = .ok (.bipush 50, 2) := by decide +kernel
theorem dX5_checkStatement_112 : decode cX5_checkStatement 112 = .ok (.if_icmp .ne 7, 3) := by decide +kernel
theorem dX5_checkStatement_115 : decode cX5_checkStatement 115 = .ok (.iload_n 3, 1) := by decide +kernel
theorem dX5_checkStatement_116 : decode cX5_checkStatement 116 = .ok (.ifCond .eq 16, 3) := by decide +kernel
theorem dX5_checkStatement_119 : decode cX5_checkStatement 119 = .ok (.iload_n 1, 1) := by decide +kernel
theorem dX5_checkStatement_120 : decode cX5_checkStatement 120 = .ok (.bipush 51, 2) := by decide +kernel
theorem dX5_checkStatement_122 : decode cX5_checkStatement 122 = .ok (.if_icmp .ne 23, 3) := by decide +kernel
theorem dX5_checkStatement_125 : decode cX5_checkStatement 125 = .ok (.aload_n 0, 1) := by decide +kernel
theorem dX5_checkStatement_126 : decode cX5_checkStatement 126 = .ok (.getfield 97, 3) := by decide +kernel
theorem dX5_checkStatement_129 : decode cX5_checkStatement 129 = .ok (.ifCond .ne 16, 3) := by decide +kernel
theorem dX5_checkStatement_132 : decode cX5_checkStatement 132 = .ok (.aload_n 0, 1) := by decide +kernel
theorem dX5_checkStatement_133 : decode cX5_checkStatement 133 = .ok (.bipush 7, 2) := by decide +kernel
theorem dX5_checkStatement_135 : decode cX5_checkStatement 135 = .ok (.aload_n 0, 1) := by decide +kernel
theorem dX5_checkStatement_136 : decode cX5_checkStatement 136 = .ok (.getfield 18, 3) := by decide +kernel
theorem dX5_checkStatement_139 : decode cX5_checkStatement 139 = .ok (.getfield 78, 3) := by decide +kernel
theorem dX5_checkStatement_142 : decode cX5_checkStatement 142 = .ok (.invokevirtual 125, 3) := by decide +kernel
theorem dX5_checkStatement_145 : decode cX5_checkStatement 145 = .ok (.return_, 1) := by decide +kernel
theorem dX5_choice_0 : decode cX5_choice 0 = .ok (.aload_n 0, 1) := by decide +kernel
theorem dX5_choice_1 : decode cX5_choice 1 = .ok (.invokevirtual 173, 3) := by decide +kernel
theorem dX5_choice_4 : decode cX5_choice 4 = .ok (.aload_n 0, 1) := by decide +kernel
theorem dX5_choice_5 : decode cX5_choice 5 = .ok (.iconst 0, 1) := by decide +kernel
theorem dX5_choice_6 : decode cX5_choice 6 = .ok (.invokevirtual 90, 3) := by decide +kernel
theorem dX5_choice_9 : decode cX5_choice 9 = .ok (.aload_n 0, 1) := by decide +kernel
theorem dX5_choice_10 : decode cX5_choice 10 = .ok (.bipush 40, 2) := by decide +kernel
theorem dX5_choice_12 : decode cX5_choice 12 = .ok (.invokevirtual 141, 3) := by decide +kernel
theorem dX5_choice_15 : decode cX5_choice 15 = .ok (.aload_n 0, 1) := by decide +kernel
theorem dX5_choice_16 : decode cX5_choice 16 = .ok (.getfield 93, 3) := by decide +kernel
theorem dX5_choice_19 : decode cX5_choice 19 = .ok (.iconst 4, 1) := by decide +kernel
theorem dX5_choice_20 : decode cX5_choice 20 = .ok (.iconst 0, 1) := by decide +kernel
theorem dX5_choice_21 : decode cX5_choice 21 = .ok (.invokevirtual 66, 3) := by decide +kernel
theorem dX5_choice_24 : decode cX5_choice 24 = .ok (.istore_n 1, 1) := by decide +kernel
theorem dX5_choice_25 : decode cX5_choice 25 = .ok (.aload_n 0, 1) := by decide +kernel
theorem dX5_choice_26 : decode cX5_choice 26 = .ok (.iconst 0, 1) := by decide +kernel
theorem dX5_choice_27 : decode cX5_choice 27 = .ok (.invokevirtual 90, 3) := by decide +kernel
theorem dX5_choice_30 : decode cX5_choice 30 = .ok (.aload_n 0, 1) := by decide +kernel
theorem dX5_choice_31 : decode cX5_choice 31 = .ok (.getfield 93, 3) := by decide +kernel
theorem dX5_choice_34 : decode cX5_choice 34 = .ok (.iconst 3, 1) := by decide +kernel
theorem dX5_choice_35 : decode cX5_choice 35 = .ok (.iconst 0, 1) := by decide +kernel
theorem dX5_choice_36 : decode cX5_choice 36 = .ok (.invokevirtual 66, 3) := by decide +kernel
theorem dX5_choice_39 : decode cX5_choice 39 = .ok (.istore_n 2, 1) := by decide +kernel
theorem dX5_choice_40 : decode cX5_choice 40 = .ok (.aload_n 0, 1) := by decide +kernel
theorem dX5_choice_41 : decode cX5_choice 41 = .ok (.getfield 93, 3) := by decide +kernel
theorem dX5_choice_44 : decode cX5_choice 44 = .ok (.iload_n 1, 1) := by decide +kernel
theorem dX5_choice_45 : decode cX5_choice 45 = .ok (.aload_n 0, 1) := by decide +kernel
theorem dX5_choice_46 : decode cX5_choice 46 = .ok (.getfield 93, 3) := by decide +kernel
theorem dX5_choice_49 : decode cX5_choice 49 = .ok (.getfield 50, 3) := by decide +kernel
theorem dX5_choice_52 : decode cX5_choice 52 = .ok (.invokevirtual 240, 3) := by decide +kernel
theorem dX5_choice_55 : decode cX5_choice 55 = .ok (.iconst 0, 1) := by decide +kernel
theorem dX5_choice_56 : decode cX5_choice 56 = .ok (.istore_n 3, 1) := by decide +kernel
theorem dX5_choice_57 : decode cX5_choice 57 = .ok (.iload_n 3, 1) := by decide +kernel
theorem dX5_choice_58 : decode cX5_choice 58 = .ok (.ldc 35, 2) := by decide +kernel
theorem dX5_choice_60 : decode cX5_choice 60 = .ok (.if_icmp .gt 79, 3) := by decide +kernel
theorem dX5_choice_63 : decode cX5_choice 63 = .ok (.aload_n 0, 1) := by decide +kernel
theorem dX5_choice_64 : decode cX5_choice 64 = .ok (.getfield 18, 3) := by decide +kernel
theorem dX5_choice_67 : decode cX5_choice 67 = .ok (.getfield 36, 3) := by decide +kernel
theorem dX5_choice_70 : decode cX5_choice 70 = .ok (.bipush 41, 2) := by decide +kernel
theorem dX5_choice_72 : decode cX5_choice 72 = .ok (.if_icmp .ne 67, 3) := by decide +kernel
theorem dX5_choice_75 : decode cX5_choice 75 = .ok (.aload_n 0, 1) := by decide +kernel
theorem dX5_choice_76 : decode cX5_choice 76 = .ok (.getfield 18, 3) := by decide +kernel
theorem dX5_choice_79 : decode cX5_choice 79 = .ok (.invokevirtual 30, 3) := by decide +kernel
theorem dX5_choice_82 : decode cX5_choice 82 = .ok (.aload_n 0, 1) := by decide +kernel
theorem dX5_choice_83 : decode cX5_choice 83 = .ok (.iconst 0, 1) := by decide +kernel
theorem dX5_choice_84 : decode cX5_choice 84 = .ok (.invokevirtual 90, 3) := by decide +kernel
theorem dX5_choice_87 : decode cX5_choice 87 = .ok (.aload_n 0, 1) := by decide +kernel
theorem dX5_choice_88 : decode cX5_choice 88 = .ok (.bipush 40, 2) := by decide +kernel
theorem dX5_choice_90 : decode cX5_choice 90 = .ok (.invokevirtual 141, 3) := by decide +kernel
theorem dX5_choice_93 : decode cX5_choice 93 = .ok (.aload_n 0, 1) := by decide +kernel
theorem dX5_choice_94 : decode cX5_choice 94 = .ok (.getfield 93, 3) := by decide +kernel
theorem dX5_choice_97 : decode cX5_choice 97 = .ok (.iconst 4, 1) := by decide +kernel
theorem dX5_choice_98 : decode cX5_choice 98 = .ok (.iconst 0, 1) := by decide +kernel
theorem dX5_choice_99 : decode cX5_choice 99 = .ok (.invokevirtual 66, 3) := by decide +kernel
theorem dX5_choice_102 : decode cX5_choice 102 = .ok (.istore_n 1, 1) := by decide +kernel
theorem dX5_choice_103 : decode cX5_choice 103 = .ok (.aload_n 0, 1) := by decide +kernel
theorem dX5_choice_104 : decode cX5_choice 104 = .ok (.iconst 0, 1) := by decide +kernel
theorem dX5_choice_105 : decode cX5_choice 105 = .ok (.invokevirtual 90, 3) := by decide +kernel
theorem dX5_choice_108 : decode cX5_choice 108 = .ok (.aload_n 0, 1) := by decide +kernel
theorem dX5_choice_109 : decode cX5_choice 109 = .ok (.getfield 93, 3) := by decide +kernel
theorem dX5_choice_112 : decode cX5_choice 112 = .ok (.iconst 3, 1) := by decide +kernel
theorem dX5_choice_113 : decode cX5_choice 113 = .ok (.iload_n 2, 1) := by decide +kernel
theorem dX5_choice_114 : decode cX5_choice 114 = .ok (.invokevirtual 66, 3) := by decide +kernel
theorem dX5_choice_117 : decode cX5_choice 117 = .ok (.istore_n 2, 1) := by decide +kernel
theorem dX5_choice_118 : decode cX5_choice 118 = .ok (.aload_n 0, 1) := by decide +kernel
theorem dX5_choice_119 : decode cX5_choice 119 = .ok (.getfield 93, 3) := by decide +kernel
theorem dX5_choice_122 : decode cX5_choice 122 = .ok (.iload_n 1, 1) := by decide +kernel
theorem dX5_choice_123 : decode cX5_choice 123 = .ok (.aload_n 0, 1) := by decide +kernel
theorem dX5_choice_124 : decode cX5_choice 124 = .ok (.getfield 93, 3) := by decide +kernel
theorem dX5_choice_127 : decode cX5_choice 127 = .ok (.getfield 50, 3) := by decide +kernel
theorem dX5_choice_130 : decode cX5_choice 130 = .ok (.invokevirtual 240, 3) := by decide +kernel
theorem dX5_choice_133 : decode cX5_choice 133 = .ok (.iinc 3 1, 3) := by decide +kernel
theorem dX5_choice_136 : decode cX5_choice 136 = .ok (.goto (-79), 3) := by decide +kernel
theorem dX5_choice_139 : decode cX5_choice 139 = .ok (.aload_n 0, 1) := by decide +kernel
theorem dX5_choice_140 : decode cX5_choice 140 = .ok (.bipush 42, 2) := by decide +kernel
theorem dX5_choice_142 : decode cX5_choice 142 = .ok (.invokevirtual 141, 3) := by decide +kernel
theorem dX5_choice_145 : decode cX5_choice 145 = .ok (.aload_n 0, 1) := by decide +kernel
theorem dX5_choice_146 : decode cX5_choice 146 = .ok (.iconst 0, 1) := by decide +kernel
theorem dX5_choice_147 : decode cX5_choice 147 = .ok (.invokevirtual 90, 3) := by decide +kernel
theorem dX5_choice_150 : decode cX5_choice 150 = .ok (.aload_n 0, 1) := by decide +kernel
theorem dX5_choice_151 : decode cX5_choice 151 = .ok (.bipush 38, 2) := by decide +kernel
theorem dX5_choice_153 : decode cX5_choice 153 = .ok (.invokevirtual 186, 3) := by decide +kernel
theorem dX5_choice_156 : decode cX5_choice 156 = .ok (.aload_n 0, 1) := by decide +kernel
theorem dX5_choice_157 : decode cX5_choice 157 = .ok (.iload_n 2, 1) := by decide +kernel
theorem dX5_choice_158 : decode cX5_choice 158 = .ok (.invokevirtual 249, 3) := by decide +kernel
theorem dX5_choice_161 : decode cX5_choice 161 = .ok (.return_, 1) := by decide +kernel
theorem dX5_clear_0 : decode cX5_clear 0 = .ok (.aload_n 0, 1) := by decide +kernel
theorem dX5_clear_1 : decode cX5_clear 1 = .ok (.getfield 93, 3) := by decide +kernel
theorem dX5_clear_4 : decode cX5_clear 4 = .ok (.bipush 68, 2) := by decide +kernel
theorem dX5_clear_6 : decode cX5_clear 6 = .ok (.iload_n 1, 1) := by decide +kernel
theorem dX5_clear_7 : decode cX5_clear 7 = .ok (.invokevirtual 66, 3) := by decide +kernel
theorem dX5_clear_10 : decode cX5_clear 10 = .ok (.pop, 1) := by decide +kernel
theorem dX5_clear_11 : decode cX5_clear 11 = .ok (.aload_n 0, 1) := by decide +kernel
theorem dX5_clear_12 : decode cX5_clear 12 = .ok (.getfield 93, 3) := by decide +kernel
theorem dX5_clear_15 : decode cX5_clear 15 = .ok (.aload_n 0, 1) := by decide +kernel
theorem dX5_clear_16 : decode cX5_clear 16 = .ok (.getfield 93, 3) := by decide +kernel
theorem dX5_clear_19 : decode cX5_clear 19 = .ok (.getfield 408, 3) := by decide +kernel
theorem dX5_clear_22 : decode cX5_clear 22 = .ok (.iload_n 1, 1) := by decide +kernel
theorem dX5_clear_23 : decode cX5_clear 23 = .ok (.isub, 1) := by decide +kernel
theorem dX5_clear_24 : decode cX5_clear 24 = .ok (.invokevirtual 243, 3) := by decide +kernel
theorem dX5_clear_27 : decode cX5_clear 27 = .ok (.pop, 1) := by decide +kernel
theorem dX5_clear_28 : decode cX5_clear 28 = .ok (.aload_n 0, 1) := by decide +kernel
theorem dX5_clear_29 : decode cX5_clear 29 = .ok (.getfield 93, 3) := by decide +kernel
theorem dX5_clear_32 : decode cX5_clear 32 = .ok (.iload_n 1, 1) := by decide +kernel
theorem dX5_clear_33 : decode cX5_clear 33 = .ok (.putfield 408, 3) := by decide +kernel
theorem dX5_clear_36 : decode cX5_clear 36 = .ok (.return_, 1) := by decide +kernel
theorem dX5_closes_0 : decode cX5_closes 0 = .ok (.aload_n 0, 1) := by decide +kernel
theorem dX5_closes_1 : decode cX5_closes 1 = .ok (.getfield 18, 3) := by decide +kernel
theorem dX5_closes_4 : decode cX5_closes 4 = .ok (.getfield 36, 3) := by decide +kernel
theorem dX5_closes_7 : decode cX5_closes 7 = .ok (.iload_n 1, 1) := by decide +kernel
theorem dX5_closes_8 : decode cX5_closes 8 = .ok (.if_icmp .eq 15, 3) := by decide +kernel
theorem dX5_closes_11 : decode cX5_closes 11 = .ok (.aload_n 0, 1) := by decide +kernel
theorem dX5_closes_12 : decode cX5_closes 12 = .ok (.iconst 2, 1) := by decide +kernel
theorem dX5_closes_13 : decode cX5_closes 13 = .ok (.aload_n 0, 1) := by decide +kernel
theorem dX5_closes_14 : decode cX5_closes 14 = .ok (.getfield 18, 3) := by decide +kernel
theorem dX5_closes_17 : decode cX5_closes 17 = .ok (.getfield 78, 3) := by decide +kernel
theorem dX5_closes_20 : decode cX5_closes 20 = .ok (.invokevirtual 125, 3) := by decide +kernel
theorem dX5_closes_23 : decode cX5_closes 23 = .ok (.aload_n 0, 1) := by decide +kernel
theorem dX5_closes_24 : decode cX5_closes 24 = .ok (.dup, 1) := by decide +kernel
theorem dX5_closes_25 : decode cX5_closes 25 = .ok (.getfield 103, 3) := by decide +kernel
theorem dX5_closes_28 : decode cX5_closes 28 = .ok (.iconst 1, 1) := by decide +kernel
theorem dX5_closes_29 : decode cX5_closes 29 = .ok (.isub, 1) := by decide +kernel
theorem dX5_closes_30 : decode cX5_closes 30 = .ok (.putfield 103, 3) := by decide +kernel
theorem dX5_closes_33 : decode cX5_closes 33 = .ok (.aload_n 0, 1) := by decide +kernel
theorem dX5_closes_34 : decode cX5_closes 34 = .ok (.getfield 18, 3) := by decide +kernel
theorem dX5_closes_37 : decode cX5_closes 37 = .ok (.invokevirtual 30, 3) := by decide +kernel
theorem dX5_closes_40 : decode cX5_closes 40 = .ok (.return_, 1) := by decide +kernel
theorem dX5_emitTarget_0 : decode cX5_emitTarget 0 = .ok (.aload_n 0, 1) := by decide +kernel
theorem dX5_emitTarget_1 : decode cX5_emitTarget 1 = .ok (.getfield 9, 3) := by decide +kernel
theorem dX5_emitTarget_4 : decode cX5_emitTarget 4 = .ok (.iload_n 2, 1) := by decide +kernel
theorem dX5_emitTarget_5 : decode cX5_emitTarget 5 = .ok (.iconst 1, 1) := by decide +kernel
theorem dX5_emitTarget_6 : decode cX5_emitTarget 6 = .ok (.iadd, 1) := by decide +kernel
theorem dX5_emitTarget_7 : decode cX5_emitTarget 7 = .ok (.iaload, 1) := by decide +kernel
theorem dX5_emitTarget_8 : decode cX5_emitTarget 8 = .ok (.aload_n 0, 1) := by decide +kernel
theorem dX5_emitTarget_9 : decode cX5_emitTarget 9 = .ok (.getfield 97, 3) := by decide +kernel
theorem dX5_emitTarget_12 : decode cX5_emitTarget 12 = .ok (.if_icmp .ne 7, 3) := by decide +kernel
theorem dX5_emitTarget_15 : decode cX5_emitTarget 15 = .ok (.iconst 0, 1) := by decide +kernel
theorem dX5_emitTarget_16 : decode cX5_emitTarget 16 = .ok (.goto 4, 3) := by decide +kernel
theorem dX5_emitTarget_19 : decode cX5_emitTarget 19 = .ok (.iconst 1, 1) := by decide +kernel
theorem dX5_emitTarget_20 : decode cX5_emitTarget 20 = .ok (.istore 4, 2) := by decide +kernel
theorem dX5_emitTarget_22 : decode cX5_emitTarget 22 = .ok (.aload_n 0, 1) := by decide +kernel
theorem dX5_emitTarget_23 : decode cX5_emitTarget 23 = .ok (.getfield 93, 3) := by decide +kernel
theorem dX5_emitTarget_26 : decode cX5_emitTarget 26 = .ok (.iload_n 1, 1) := by decide +kernel
theorem dX5_emitTarget_27 : decode cX5_emitTarget 27 = .ok (.iload 4, 2) := by decide +kernel
theorem dX5_emitTarget_29 : decode cX5_emitTarget 29 = .ok (.iadd, 1) := by decide +kernel
theorem dX5_emitTarget_30 : decode cX5_emitTarget 30 = .ok (.aload_n 0, 1) := by decide +kernel
theorem dX5_emitTarget_31 : decode cX5_emitTarget 31 = .ok (.getfield 9, 3) := by decide +kernel
theorem dX5_emitTarget_34 : decode cX5_emitTarget 34 = .ok (.iload_n 2, 1) := by decide +kernel
theorem dX5_emitTarget_35 : decode cX5_emitTarget 35 = .ok (.iaload, 1) := by decide +kernel
theorem dX5_emitTarget_36 : decode cX5_emitTarget 36 = .ok (.invokevirtual 66, 3) := by decide +kernel
theorem dX5_emitTarget_39 : decode cX5_emitTarget 39 = .ok (.pop, 1) := by decide +kernel
theorem dX5_emitTarget_40 : decode cX5_emitTarget 40 = .ok (.aload_n 0, 1) := by decide +kernel
theorem dX5_emitTarget_41 : decode cX5_emitTarget 41 = .ok (.getfield 93, 3) := by decide +kernel
theorem dX5_emitTarget_44 : decode cX5_emitTarget 44 = .ok (.iload_n 3, 1) := by decide +kernel
theorem dX5_emitTarget_45 : decode cX5_emitTarget 45 = .ok (.invokevirtual 243, 3) := by decide +kernel
theorem dX5_emitTarget_48 : decode cX5_emitTarget 48 = .ok (.pop, 1) := by decide +kernel
theorem dX5_emitTarget_49 : decode cX5_emitTarget 49 = .ok (.aload_n 0, 1) := by decide +kernel
theorem dX5_emitTarget_50 : decode cX5_emitTarget 50 = .ok (.getfield 93, 3) := by decide +kernel
theorem dX5_emitTarget_53 : decode cX5_emitTarget 53 = .ok (.aload_n 0, 1) := by decide +kernel
theorem dX5_emitTarget_54 : decode cX5_emitTarget 54 = .ok (.getfield 9, 3) := by decide +kernel
theorem dX5_emitTarget_57 : decode cX5_emitTarget 57 = .ok (.iload_n 2, 1) := by decide +kernel
theorem dX5_emitTarget_58 : decode cX5_emitTarget 58 = .ok (.iconst 3, 1) := by decide +kernel
theorem dX5_emitTarget_59 : decode cX5_emitTarget 59 = .ok (.iadd, 1) := by decide +kernel
theorem dX5_emitTarget_60 : decode cX5_emitTarget 60 = .ok (.iaload, 1) := by decide +kernel
theorem dX5_emitTarget_61 : decode cX5_emitTarget 61 = .ok (.invokevirtual 243, 3) := by decide +kernel
theorem dX5_emitTarget_64 : decode cX5_emitTarget 64 = .ok (.pop, 1) := by decide +kernel
theorem dX5_emitTarget_65 : decode cX5_emitTarget 65 = .ok (.aload_n 0, 1) := by decide +kernel
theorem dX5_emitTarget_66 : decode cX5_emitTarget 66 = .ok (.getfield 93, 3) := by decide +kernel
theorem dX5_emitTarget_69 : decode cX5_emitTarget 69 = .ok (.aload_n 0, 1) := by decide +kernel
theorem dX5_emitTarget_70 : decode cX5_emitTarget 70 = .ok (.getfield 9, 3) := by decide +kernel
theorem dX5_emitTarget_73 : decode cX5_emitTarget 73 = .ok (.iload_n 2, 1) := by decide +kernel
theorem dX5_emitTarget_74 : decode cX5_emitTarget 74 = .ok (.iconst 4, 1) := by decide +kernel
theorem dX5_emitTarget_75 : decode cX5_emitTarget 75 = .ok (.iadd, 1) := by decide +kernel
theorem dX5_emitTarget_76 : decode cX5_emitTarget 76 = .ok (.aload_n 0, 1) := by decide +kernel
theorem dX5_emitTarget_77 : decode cX5_emitTarget 77 = .ok (.getfield 9, 3) := by decide +kernel
theorem dX5_emitTarget_80 : decode cX5_emitTarget 80 = .ok (.iload_n 2, 1) := by decide +kernel
theorem dX5_emitTarget_81 : decode cX5_emitTarget 81 = .ok (.iconst 3, 1) := by decide +kernel
theorem dX5_emitTarget_82 : decode cX5_emitTarget 82 = .ok (.iadd, 1) := by decide +kernel
theorem dX5_emitTarget_83 : decode cX5_emitTarget 83 = .ok (.iaload, 1) := by decide +kernel
theorem dX5_emitTarget_84 : decode cX5_emitTarget 84 = .ok (.invokevirtual 312, 3) := by decide +kernel
theorem dX5_emitTarget_87 : decode cX5_emitTarget 87 = .ok (.return_, 1) := by decide +kernel
theorem dX5_exp_0 : decode cX5_exp 0 = .ok (.aload_n 0, 1) := by decide +kernel
theorem dX5_exp_1 : decode cX5_exp 1 = .ok (.getfield 112, 3) := by decide +kernel
theorem dX5_exp_4 : decode cX5_exp 4 = .ok (.istore_n 2, 1) := by decide +kernel
theorem dX5_exp_5 : decode cX5_exp 5 = .ok (.iconst 1, 1) := by decide +kernel
theorem dX5_exp_6 : decode cX5_exp 6 = .ok (.istore_n 3, 1) := by decide +kernel
theorem dX5_exp_7 : decode cX5_exp 7 = .ok (.iconst 0, 1) := by decide +kernel
theorem dX5_exp_8 : decode cX5_exp 8 = .ok (.istore 4, 2) := by decide +kernel
theorem dX5_exp_10 : decode cX5_exp 10 = .ok (.iload 4, 2) := by decide +kernel
theorem dX5_exp_12 : decode cX5_exp 12 = .ok (.ldc 35, 2) := by decide +kernel
theorem dX5_exp_14 : decode cX5_exp 14 = .ok (.if_icmp .gt 232, 3) := by decide +kernel
theorem dX5_exp_17 : decode cX5_exp 17 = .ok (.iload_n 3, 1) := by decide +kernel
theorem dX5_exp_18 : decode cX5_exp 18 = .ok (.ifCond .eq 228, 3) := by decide +kernel
theorem dX5_exp_21 : decode cX5_exp 21 = .ok (.iconst 1, 1) := by decide +kernel
theorem dX5_exp_22 : decode cX5_exp 22 = .ok (.istore 5, 2) := by decide +kernel
theorem dX5_exp_24 : decode cX5_exp 24 = .ok (.iconst 0, 1) := by decide +kernel
theorem dX5_exp_25 : decode cX5_exp 25 = .ok (.istore 6, 2) := by decide +kernel
theorem dX5_exp_27 : decode cX5_exp 27 = .ok (.iload 6, 2) := by decide +kernel
theorem dX5_exp_29 : decode cX5_exp 29 = .ok (.bipush 20, 2) := by decide +kernel
theorem dX5_exp_31 : decode cX5_exp 31 = .ok (.if_icmp .gt 22, 3) := by decide +kernel
theorem dX5_exp_34 : decode cX5_exp 34 = .ok (.iload 5, 2) := by decide +kernel
theorem dX5_exp_36 : decode cX5_exp 36 = .ok (.ifCond .eq 17, 3) := by decide +kernel
theorem dX5_exp_39 : decode cX5_exp 39 = .ok (.aload_n 0, 1) := by decide +kernel
theorem dX5_exp_40 : decode cX5_exp 40 = .ok (.iload_n 2, 1) := by decide +kernel
theorem dX5_exp_41 : decode cX5_exp 41 = .ok (.iload_n 1, 1) := by decide +kernel
theorem dX5_exp_42 : decode cX5_exp 42 = .ok (.invokevirtual 356, 3) := by decide +kernel
theorem dX5_exp_45 : decode cX5_exp 45 = .ok (.istore 5, 2) := by decide +kernel
theorem dX5_exp_47 : decode cX5_exp 47 = .ok (.iinc 6 1, 3) := by decide +kernel
theorem dX5_exp_50 : decode cX5_exp 50 = .ok (.goto (-23), 3) := by decide +kernel
theorem dX5_exp_53 : decode cX5_exp 53 = .ok (.aload_n 0, 1) := by decide +kernel
theorem dX5_exp_54 : decode cX5_exp 54 = .ok (.invokevirtual 360, 3) := by decide +kernel
theorem dX5_exp_57 : decode cX5_exp 57 = .ok (.aload_n 0, 1) := by decide +kernel
theorem dX5_exp_58 : decode cX5_exp 58 = .ok (.getfield 18, 3) := by decide +kernel
theorem dX5_exp_61 : decode cX5_exp 61 = .ok (.getfield 36, 3) := by decide +kernel
theorem dX5_exp_64 : decode cX5_exp 64 = .ok (.invokestatic 363, 3) := by decide +kernel
theorem dX5_exp_67 : decode cX5_exp 67 = .ok (.istore 6, 2) := by decide +kernel
theorem dX5_exp_69 : decode cX5_exp 69 = .ok (.iload 6, 2) := by decide +kernel
theorem dX5_exp_71 : decode cX5_exp 71 = .ok (.iload_n 1, 1) := by decide +kernel
theorem dX5_exp_72 : decode cX5_exp 72 = .ok (.if_icmp .lt 7, 3) := by decide +kernel
theorem dX5_exp_75 : decode cX5_exp 75 = .ok (.iconst 1, 1) := by decide +kernel
theorem dX5_exp_76 : decode cX5_exp 76 = .ok (.goto 4, 3) := by decide +kernel
theorem dX5_exp_79 : decode cX5_exp 79 = .ok (.iconst 0, 1) := by decide +kernel
theorem dX5_exp_80 : decode cX5_exp 80 = .ok (.istore_n 3, 1) := by decide +kernel
theorem dX5_exp_81 : decode cX5_exp 81 = .ok (.iload_n 3, 1) := by decide +kernel
theorem dX5_exp_82 : decode cX5_exp 82 = .ok (.ifCond .eq 63, 3) := by decide +kernel
theorem dX5_exp_85 : decode cX5_exp 85 = .ok (.iload 6, 2) := by decide +kernel
theorem dX5_exp_87 : decode cX5_exp 87 = .ok (.iconst 3, 1) := by decide +kernel
theorem dX5_exp_88 : decode cX5_exp 88 = .ok (.if_icmp .eq 10, 3) := by decide +kernel
theorem dX5_exp_91 : decode cX5_exp 91 = .ok (.iload 6, 2) := by decide +kernel
theorem dX5_exp_93 : decode cX5_exp 93 = .ok (.bipush 6, 2) := by decide +kernel
theorem dX5_exp_95 : decode cX5_exp 95 = .ok (.if_icmp .ne 7, 3) := by decide +kernel
theorem dX5_exp_98 : decode cX5_exp 98 = .ok (.iconst 1, 1) := by decide +kernel
theorem dX5_exp_99 : decode cX5_exp 99 = .ok (.goto 4, 3) := by decide +kernel
theorem dX5_exp_102 : decode cX5_exp 102 = .ok (.iconst 0, 1) := by decide +kernel
theorem dX5_exp_103 : decode cX5_exp 103 = .ok (.istore 7, 2) := by decide +kernel
theorem dX5_exp_105 : decode cX5_exp 105 = .ok (.aload_n 0, 1) := by decide +kernel
theorem dX5_exp_106 : decode cX5_exp 106 = .ok (.iload_n 2, 1) := by decide +kernel
theorem dX5_exp_107 : decode cX5_exp 107 = .ok (.iload 7, 2) := by decide +kernel
theorem dX5_exp_109 : decode cX5_exp 109 = .ok (.ifCond .eq 10, 3) := by decide +kernel
theorem dX5_exp_112 : decode cX5_exp 112 = .ok (.iload 6, 2) := by decide +kernel
theorem dX5_exp_114 : decode cX5_exp 114 = .ok (.iconst 1, 1) := by decide +kernel
theorem dX5_exp_115 : decode cX5_exp 115 = .ok (.iadd, 1) := by decide +kernel
theorem dX5_exp_116 : decode cX5_exp 116 = .ok (.goto 5, 3) := by decide +kernel
theorem dX5_exp_119 : decode cX5_exp 119 = .ok (.iload 6, 2) := by decide +kernel
theorem dX5_exp_121 : decode cX5_exp 121 = .ok (.invokevirtual 366, 3) := by decide +kernel
theorem dX5_exp_124 : decode cX5_exp 124 = .ok (.iload 6, 2) := by decide +kernel
theorem dX5_exp_126 : decode cX5_exp 126 = .ok (.iconst 3, 1) := by decide +kernel
theorem dX5_exp_127 : decode cX5_exp 127 = .ok (.if_icmp .ne 12, 3) := by decide +kernel
theorem dX5_exp_130 : decode cX5_exp 130 = .ok (.aload_n 0, 1) := by decide +kernel
theorem dX5_exp_131 : decode cX5_exp 131 = .ok (.iload_n 2, 1) := by decide +kernel
theorem dX5_exp_132 : decode cX5_exp 132 = .ok (.invokevirtual 369, 3) := by decide +kernel
theorem dX5_exp_135 : decode cX5_exp 135 = .ok (.iconst 3, 1) := by decide +kernel
theorem dX5_exp_136 : decode cX5_exp 136 = .ok (.if_icmp .eq 7, 3) := by decide +kernel
theorem dX5_exp_139 : decode cX5_exp 139 = .ok (.iconst 1, 1) := by decide +kernel
theorem dX5_exp_140 : decode cX5_exp 140 = .ok (.goto 4, 3) := by decide +kernel
theorem dX5_exp_143 : decode cX5_exp 143 = .ok (.iconst 0, 1) := by decide +kernel
theorem dX5_exp_144 : decode cX5_exp 144 = .ok (.istore_n 3, 1) := by decide +kernel
theorem dX5_exp_145 : decode cX5_exp 145 = .ok (.aload_n 0, 1) := by decide +kernel
theorem dX5_exp_146 : decode cX5_exp 146 = .ok (.getfield 18, 3) := by decide +kernel
theorem dX5_exp_149 : decode cX5_exp 149 = .ok (.getfield 36, 3) := by decide +kernel
theorem dX5_exp_152 : decode cX5_exp 152 = .ok (.istore 7, 2) := by decide +kernel
theorem dX5_exp_154 : decode cX5_exp 154 = .ok (.iload_n 3, 1) := by decide +kernel
theorem dX5_exp_155 : decode cX5_exp 155 = .ok (.ifCond .eq 17, 3) := by decide +kernel
theorem dX5_exp_158 : decode cX5_exp 158 = .ok (.iload 6, 2) := by decide +kernel
theorem dX5_exp_160 : decode cX5_exp 160 = .ok (.bipush 6, 2) := by decide +kernel
theorem dX5_exp_162 : decode cX5_exp 162 = .ok (.if_icmp .ne 10, 3) := by decide +kernel
theorem dX5_exp_165 : decode cX5_exp 165 = .ok (.aload_n 0, 1) := by decide +kernel
theorem dX5_exp_166 : decode cX5_exp 166 = .ok (.invokevirtual 173, 3) := by decide +kernel
theorem dX5_exp_169 : decode cX5_exp 169 = .ok (.goto 14, 3) := by decide +kernel
theorem dX5_exp_172 : decode cX5_exp 172 = .ok (.iload_n 3, 1) := by decide +kernel
theorem dX5_exp_173 : decode cX5_exp 173 = .ok (.ifCond .eq 10, 3) := by decide +kernel
theorem dX5_exp_176 : decode cX5_exp 176 = .ok (.aload_n 0, 1) := by decide +kernel
theorem dX5_exp_177 : decode cX5_exp 177 = .ok (.getfield 18, 3) := by decide +kernel
theorem dX5_exp_180 : decode cX5_exp 180 = .ok (.invokevirtual 30, 3) := by decide +kernel
theorem dX5_exp_183 : decode cX5_exp 183 = .ok (.iload_n 3, 1) := by decide +kernel
theorem dX5_exp_184 : decode cX5_exp 184 = .ok (.ifCond .eq 40, 3) := by decide +kernel
theorem dX5_exp_187 : decode cX5_exp 187 = .ok (.iload 6, 2) := by decide +kernel
theorem dX5_exp_189 : decode cX5_exp 189 = .ok (.iconst 1, 1) := by decide +kernel
theorem dX5_exp_190 : decode cX5_exp 190 = .ok (.if_icmp .gt 34, 3) := by decide +kernel
theorem dX5_exp_193 : decode cX5_exp 193 = .ok (.aload_n 0, 1) := by decide +kernel
theorem dX5_exp_194 : decode cX5_exp 194 = .ok (.iload 6, 2) := by decide +kernel
theorem dX5_exp_196 : decode cX5_exp 196 = .ok (.bipush 8, 2) := by decide +kernel
theorem dX5_exp_198 : decode cX5_exp 198 = .ok (.aload_n 0, 1) := by decide +kernel
theorem dX5_exp_199 : decode cX5_exp 199 = .ok (.getfield 93, 3) := by decide +kernel
theorem dX5_exp_202 : decode cX5_exp 202 = .ok (.iload 6, 2) := by decide +kernel
theorem dX5_exp_204 : decode cX5_exp 204 = .ok (.ifCond .ne 8, 3) := by decide +kernel
theorem dX5_exp_207 : decode cX5_exp 207 = .ok (.bipush 7, 2) := by decide +kernel
theorem dX5_exp_209 : decode cX5_exp 209 = .ok (.goto 5, 3) := by decide +kernel
theorem dX5_exp_212 : decode cX5_exp 212 = .ok (.bipush 6, 2) := by decide +kernel
theorem dX5_exp_214 : decode cX5_exp 214 = .ok (.iconst 0, 1) := by decide +kernel
theorem dX5_exp_215 : decode cX5_exp 215 = .ok (.invokevirtual 66, 3) := by decide +kernel
theorem dX5_exp_218 : decode cX5_exp 218 = .ok (.invokevirtual 372, 3) := by decide +kernel
theorem dX5_exp_221 : decode cX5_exp 221 = .ok (.goto 19, 3) := by decide +kernel
theorem dX5_exp_224 : decode cX5_exp 224 = .ok (.iload_n 3, 1) := by decide +kernel
theorem dX5_exp_225 : decode cX5_exp 225 = .ok (.ifCond .eq 15, 3) := by decide +kernel
theorem dX5_exp_228 : decode cX5_exp 228 = .ok (.aload_n 0, 1) := by decide +kernel
theorem dX5_exp_229 : decode cX5_exp 229 = .ok (.iload 6, 2) := by decide +kernel
theorem dX5_exp_231 : decode cX5_exp 231 = .ok (.iload 7, 2) := by decide +kernel
theorem dX5_exp_233 : decode cX5_exp 233 = .ok (.invokestatic 375, 3) := by decide +kernel
theorem dX5_exp_236 : decode cX5_exp 236 = .ok (.iconst 0, 1) := by decide +kernel
theorem dX5_exp_237 : decode cX5_exp 237 = .ok (.invokevirtual 372, 3) := by decide +kernel
theorem dX5_exp_240 : decode cX5_exp 240 = .ok (.iinc 4 1, 3) := by decide +kernel
theorem dX5_exp_243 : decode cX5_exp 243 = .ok (.goto (-233), 3) := by decide +kernel
theorem dX5_exp_246 : decode cX5_exp 246 = .ok (.aload_n 0, 1) := by decide +kernel
theorem dX5_exp_247 : decode cX5_exp 247 = .ok (.iload_n 2, 1) := by decide +kernel
theorem dX5_exp_248 : decode cX5_exp 248 = .ok (.iconst 0, 1) := by decide +kernel
theorem dX5_exp_249 : decode cX5_exp 249 = .ok (.invokevirtual 366, 3) := by decide +kernel
theorem dX5_exp_252 : decode cX5_exp 252 = .ok (.return_, 1) := by decide +kernel
theorem dX5_expect_0 : decode cX5_expect 0 = .ok (.aload_n 0, 1) := by decide +kernel
theorem dX5_expect_1 : decode cX5_expect 1 = .ok (.getfield 18, 3) := by decide +kernel
theorem dX5_expect_4 : decode cX5_expect 4 = .ok (.getfield 36, 3) := by decide +kernel
theorem dX5_expect_7 : decode cX5_expect 7 = .ok (.iload_n 1, 1) := by decide +kernel
theorem dX5_expect_8 : decode cX5_expect 8 = .ok (.if_icmp .eq 15, 3) := by decide +kernel
theorem dX5_expect_11 : decode cX5_expect 11 = .ok (.aload_n 0, 1) := by decide +kernel
theorem dX5_expect_12 : decode cX5_expect 12 = .ok (.iconst 2, 1) := by decide +kernel
theorem dX5_expect_13 : decode cX5_expect 13 = .ok (.aload_n 0, 1) := by decide +kernel
theorem dX5_expect_14 : decode cX5_expect 14 = .ok (.getfield 18, 3) := by decide +kernel
theorem dX5_expect_17 : decode cX5_expect 17 = .ok (.getfield 78, 3) := by decide +kernel
theorem dX5_expect_20 : decode cX5_expect 20 = .ok (.invokevirtual 125, 3) := by decide +kernel
theorem dX5_expect_23 : decode cX5_expect 23 = .ok (.aload_n 0, 1) := by decide +kernel
theorem dX5_expect_24 : decode cX5_expect 24 = .ok (.getfield 18, 3) := by decide +kernel
theorem dX5_expect_27 : decode cX5_expect 27 = .ok (.invokevirtual 30, 3) := by decide +kernel
theorem dX5_expect_30 : decode cX5_expect 30 = .ok (.return_, 1) := by decide +kernel
theorem dX5_exps_0 : decode cX5_exps 0 = .ok (.aload_n 0, 1) := by decide +kernel
theorem dX5_exps_1 : decode cX5_exps 1 = .ok (.iconst 0, 1) := by decide +kernel
theorem dX5_exps_2 : decode cX5_exps 2 = .ok (.invokevirtual 90, 3) := by decide +kernel
theorem dX5_exps_5 : decode cX5_exps 5 = .ok (.iconst 1, 1) := by decide +kernel
theorem dX5_exps_6 : decode cX5_exps 6 = .ok (.istore_n 1, 1) := by decide +kernel
theorem dX5_exps_7 : decode cX5_exps 7 = .ok (.iconst 0, 1) := by decide +kernel
theorem dX5_exps_8 : decode cX5_exps 8 = .ok (.istore_n 2, 1) := by decide +kernel
theorem dX5_exps_9 : decode cX5_exps 9 = .ok (.iload_n 2, 1) := by decide +kernel
theorem dX5_exps_10 : decode cX5_exps 10 = .ok (.ldc 35, 2) := by decide +kernel
theorem dX5_exps_12 : decode cX5_exps 12 = .ok (.if_icmp .gt 36, 3) := by decide +kernel
theorem dX5_exps_15 : decode cX5_exps 15 = .ok (.aload_n 0, 1) := by decide +kernel
theorem dX5_exps_16 : decode cX5_exps 16 = .ok (.getfield 18, 3) := by decide +kernel
theorem dX5_exps_19 : decode cX5_exps 19 = .ok (.getfield 36, 3) := by decide +kernel
theorem dX5_exps_22 : decode cX5_exps 22 = .ok (.bipush 16, 2) := by decide +kernel
theorem dX5_exps_24 : decode cX5_exps 24 = .ok (.if_icmp .ne 24, 3) := by decide +kernel
theorem dX5_exps_27 : decode cX5_exps 27 = .ok (.aload_n 0, 1) := by decide +kernel
theorem dX5_exps_28 : decode cX5_exps 28 = .ok (.getfield 18, 3) := by decide +kernel
theorem dX5_exps_31 : decode cX5_exps 31 = .ok (.invokevirtual 30, 3) := by decide +kernel
theorem dX5_exps_34 : decode cX5_exps 34 = .ok (.aload_n 0, 1) := by decide +kernel
theorem dX5_exps_35 : decode cX5_exps 35 = .ok (.iconst 0, 1) := by decide +kernel
theorem dX5_exps_36 : decode cX5_exps 36 = .ok (.invokevirtual 90, 3) := by decide +kernel
theorem dX5_exps_39 : decode cX5_exps 39 = .ok (.iinc 1 1, 3) := by decide +kernel
theorem dX5_exps_42 : decode cX5_exps 42 = .ok (.iinc 2 1, 3) := by decide +kernel
theorem dX5_exps_45 : decode cX5_exps 45 = .ok (.goto (-36), 3) := by decide +kernel
theorem dX5_exps_48 : decode cX5_exps 48 = .ok (.iload_n 1, 1) := by decide +kernel
theorem dX5_exps_49 : decode cX5_exps 49 = .ok (.ireturn, 1) := by decide +kernel
theorem dX5_forStatement_0 : decode cX5_forStatement 0 = .ok (.aload_n 0, 1) := by decide +kernel
theorem dX5_forStatement_1 : decode cX5_forStatement 1 = .ok (.getfield 93, 3) := by decide +kernel
theorem dX5_forStatement_4 : decode cX5_forStatement 4 = .ok (.getfield 84, 3) := by decide +kernel
theorem dX5_forStatement_7 : decode cX5_forStatement 7 = .ok (.istore_n 1, 1) := by decide +kernel
theorem dX5_forStatement_8 : decode cX5_forStatement 8 = .ok (.aload_n 0, 1) := by decide +kernel
theorem dX5_forStatement_9 : decode cX5_forStatement 9 = .ok (.getfield 112, 3) := by decide +kernel
theorem dX5_forStatement_12 : decode cX5_forStatement 12 = .ok (.istore_n 2, 1) := by decide +kernel
theorem dX5_forStatement_13 : decode cX5_forStatement 13 = .ok (.aload_n 0, 1) := by decide +kernel
theorem dX5_forStatement_14 : decode cX5_forStatement 14 = .ok (.getfield 93, 3) := by decide +kernel
theorem dX5_forStatement_17 : decode cX5_forStatement 17 = .ok (.getfield 255, 3) := by decide +kernel
theorem dX5_forStatement_20 : decode cX5_forStatement 20 = .ok (.aload_n 0, 1) := by decide +kernel
theorem dX5_forStatement_21 : decode cX5_forStatement 21 = .ok (.getfield 97, 3) := by decide +kernel
theorem dX5_forStatement_24 : decode cX5_forStatement 24 = .ok (.iaload, 1) := by decide +kernel
theorem dX5_forStatement_25 : decode cX5_forStatement 25 = .ok (.istore_n 3, 1) := by decide +kernel
theorem dX5_forStatement_26 : decode cX5_forStatement 26 = .ok (.aload_n 0, 1) := by decide +kernel
theorem dX5_forStatement_27 : decode cX5_forStatement 27 = .ok (.invokevirtual 173, 3) := by decide +kernel
theorem dX5_forStatement_30 : decode cX5_forStatement 30 = .ok (.aload_n 0, 1) := by decide +kernel
theorem dX5_forStatement_31 : decode cX5_forStatement 31 = .ok (.getfield 93, 3) := by decide +kernel
theorem dX5_forStatement_34 : decode cX5_forStatement 34 = .ok (.bipush 42, 2) := by decide +kernel
theorem dX5_forStatement_36 : decode cX5_forStatement 36 = .ok (.iconst 0, 1) := by decide +kernel
theorem dX5_forStatement_37 : decode cX5_forStatement 37 = .ok (.invokevirtual 66, 3) := by decide +kernel
theorem dX5_forStatement_40 : decode cX5_forStatement 40 = .ok (.istore 4, 2) := by decide +kernel
theorem dX5_forStatement_42 : decode cX5_forStatement 42 = .ok (.aload_n 0, 1) := by decide +kernel
theorem dX5_forStatement_43 : decode cX5_forStatement 43 = .ok (.iconst 1, 1) := by decide +kernel
theorem dX5_forStatement_44 : decode cX5_forStatement 44 = .ok (.invokevirtual 258, 3) := by decide +kernel
theorem dX5_forStatement_47 : decode cX5_forStatement 47 = .ok (.aload_n 0, 1) := by decide +kernel
theorem dX5_forStatement_48 : decode cX5_forStatement 48 = .ok (.getfield 93, 3) := by decide +kernel
theorem dX5_forStatement_51 : decode cX5_forStatement 51 = .ok (.getfield 255, 3) := by decide +kernel
theorem dX5_forStatement_54 : decode cX5_forStatement 54 = .ok (.aload_n 0, 1) := by decide +kernel
theorem dX5_forStatement_55 : decode cX5_forStatement 55 = .ok (.getfield 97, 3) := by decide +kernel
theorem dX5_forStatement_58 : decode cX5_forStatement 58 = .ok (.iaload, 1) := by decide +kernel
theorem dX5_forStatement_59 : decode cX5_forStatement 59 = .ok (.iload_n 3, 1) := by decide +kernel
theorem dX5_forStatement_60 : decode cX5_forStatement 60 = .ok (.isub, 1) := by decide +kernel
theorem dX5_forStatement_61 : decode cX5_forStatement 61 = .ok (.istore 5, 2) := by decide +kernel
theorem dX5_forStatement_63 : decode cX5_forStatement 63 = .ok (.aload_n 0, 1) := by decide +kernel
theorem dX5_forStatement_64 : decode cX5_forStatement 64 = .ok (.getfield 93, 3) := by decide +kernel
theorem dX5_forStatement_67 : decode cX5_forStatement 67 = .ok (.getfield 246, 3) := by decide +kernel
theorem dX5_forStatement_70 : decode cX5_forStatement 70 = .ok (.iload 4, 2) := by decide +kernel
theorem dX5_forStatement_72 : decode cX5_forStatement 72 = .ok (.bipush 42, 2) := by decide +kernel
theorem dX5_forStatement_74 : decode cX5_forStatement 74 = .ok (.iload 5, 2) := by decide +kernel
theorem dX5_forStatement_76 : decode cX5_forStatement 76 = .ok (.bipush 8, 2) := by decide +kernel
theorem dX5_forStatement_78 : decode cX5_forStatement 78 = .ok (.ishl, 1) := by decide +kernel
theorem dX5_forStatement_79 : decode cX5_forStatement 79 = .ok (.ior, 1) := by decide +kernel
theorem dX5_forStatement_80 : decode cX5_forStatement 80 = .ok (.iastore, 1) := by decide +kernel
theorem dX5_forStatement_81 : decode cX5_forStatement 81 = .ok (.aload_n 0, 1) := by decide +kernel
theorem dX5_forStatement_82 : decode cX5_forStatement 82 = .ok (.getfield 262, 3) := by decide +kernel
theorem dX5_forStatement_85 : decode cX5_forStatement 85 = .ok (.istore 6, 2) := by decide +kernel
theorem dX5_forStatement_87 : decode cX5_forStatement 87 = .ok (.aload_n 0, 1) := by decide +kernel
theorem dX5_forStatement_88 : decode cX5_forStatement 88 = .ok (.getfield 265, 3) := by decide +kernel
theorem dX5_forStatement_91 : decode cX5_forStatement 91 = .ok (.istore 7, 2) := by decide +kernel
theorem dX5_forStatement_93 : decode cX5_forStatement 93 = .ok (.aload_n 0, 1) := by decide +kernel
theorem dX5_forStatement_94 : decode cX5_forStatement 94 = .ok (.getfield 18, 3) := by decide +kernel
theorem dX5_forStatement_97 : decode cX5_forStatement 97 = .ok (.getfield 36, 3) := by decide +kernel
theorem dX5_forStatement_100 : decode cX5_forStatement 100 = .ok (.bipush 19, 2) := by decide +kernel
theorem dX5_forStatement_102 : decode cX5_forStatement 102 = .ok (.if_icmp .ne 33, 3) := by decide +kernel
theorem dX5_forStatement_105 : decode cX5_forStatement 105 = .ok (.aload_n 0, 1) := by decide +kernel
theorem dX5_forStatement_106 : decode cX5_forStatement 106 = .ok (.getfield 18, 3) := by decide +kernel
theorem dX5_forStatement_109 : decode cX5_forStatement 109 = .ok (.invokevirtual 30, 3) := by decide +kernel
theorem dX5_forStatement_112 : decode cX5_forStatement 112 = .ok (.aload_n 0, 1) := by decide +kernel
theorem dX5_forStatement_113 : decode cX5_forStatement 113 = .ok (.iconst 0, 1) := by decide +kernel
theorem dX5_forStatement_114 : decode cX5_forStatement 114 = .ok (.invokevirtual 90, 3) := by decide +kernel
theorem dX5_forStatement_117 : decode cX5_forStatement 117 = .ok (.aload_n 0, 1) := by decide +kernel
theorem dX5_forStatement_118 : decode cX5_forStatement 118 = .ok (.getfield 93, 3) := by decide +kernel
theorem dX5_forStatement_121 : decode cX5_forStatement 121 = .ok (.aload_n 0, 1) := by decide +kernel
theorem dX5_forStatement_122 : decode cX5_forStatement 122 = .ok (.getfield 93, 3) := by decide +kernel
theorem dX5_forStatement_125 : decode cX5_forStatement 125 = .ok (.iconst 4, 1) := by decide +kernel
theorem dX5_forStatement_126 : decode cX5_forStatement 126 = .ok (.iconst 0, 1) := by decide +kernel
theorem dX5_forStatement_127 : decode cX5_forStatement 127 = .ok (.invokevirtual 66, 3) := by decide +kernel
theorem dX5_forStatement_130 : decode cX5_forStatement 130 = .ok (.iload 7, 2) := by decide +kernel
theorem dX5_forStatement_132 : decode cX5_forStatement 132 = .ok (.invokevirtual 240, 3) := by decide +kernel
theorem dX5_forStatement_135 : decode cX5_forStatement 135 = .ok (.aload_n 0, 1) := by decide +kernel
theorem dX5_forStatement_136 : decode cX5_forStatement 136 = .ok (.bipush 44, 2) := by decide +kernel
theorem dX5_forStatement_138 : decode cX5_forStatement 138 = .ok (.invokevirtual 141, 3) := by decide +kernel
theorem dX5_forStatement_141 : decode cX5_forStatement 141 = .ok (.aload_n 0, 1) := by decide +kernel
theorem dX5_forStatement_142 : decode cX5_forStatement 142 = .ok (.iload 7, 2) := by decide +kernel
theorem dX5_forStatement_144 : decode cX5_forStatement 144 = .ok (.invokevirtual 252, 3) := by decide +kernel
theorem dX5_forStatement_147 : decode cX5_forStatement 147 = .ok (.aload_n 0, 1) := by decide +kernel
theorem dX5_forStatement_148 : decode cX5_forStatement 148 = .ok (.getfield 93, 3) := by decide +kernel
theorem dX5_forStatement_151 : decode cX5_forStatement 151 = .ok (.getfield 246, 3) := by decide +kernel
theorem dX5_forStatement_154 : decode cX5_forStatement 154 = .ok (.iload 6, 2) := by decide +kernel
theorem dX5_forStatement_156 : decode cX5_forStatement 156 = .ok (.iconst 1, 1) := by decide +kernel
theorem dX5_forStatement_157 : decode cX5_forStatement 157 = .ok (.iadd, 1) := by decide +kernel
theorem dX5_forStatement_158 : decode cX5_forStatement 158 = .ok (.aload_n 0, 1) := by decide +kernel
theorem dX5_forStatement_159 : decode cX5_forStatement 159 = .ok (.getfield 93, 3) := by decide +kernel
theorem dX5_forStatement_162 : decode cX5_forStatement 162 = .ok (.getfield 50, 3) := by decide +kernel
theorem dX5_forStatement_165 : decode cX5_forStatement 165 = .ok (.iload 6, 2) := by decide +kernel
theorem dX5_forStatement_167 : decode cX5_forStatement 167 = .ok (.isub, 1) := by decide +kernel
theorem dX5_forStatement_168 : decode cX5_forStatement 168 = .ok (.iastore, 1) := by decide +kernel
theorem dX5_forStatement_169 : decode cX5_forStatement 169 = .ok (.iload_n 2, 1) := by decide +kernel
theorem dX5_forStatement_170 : decode cX5_forStatement 170 = .ok (.istore 8, 2) := by decide +kernel
theorem dX5_forStatement_172 : decode cX5_forStatement 172 = .ok (.iload 8, 2) := by decide +kernel
theorem dX5_forStatement_174 : decode cX5_forStatement 174 = .ok (.iconst 2, 1) := by decide +kernel
theorem dX5_forStatement_175 : decode cX5_forStatement 175 = .ok (.iadd, 1) := by decide +kernel
theorem dX5_forStatement_176 : decode cX5_forStatement 176 = .ok (.aload_n 0, 1) := by decide +kernel
theorem dX5_forStatement_177 : decode cX5_forStatement 177 = .ok (.getfield 112, 3) := by decide +kernel
theorem dX5_forStatement_180 : decode cX5_forStatement 180 = .ok (.if_icmp .ge 63, 3) := by decide +kernel
theorem dX5_forStatement_183 : decode cX5_forStatement 183 = .ok (.aload_n 0, 1) := by decide +kernel
theorem dX5_forStatement_184 : decode cX5_forStatement 184 = .ok (.getfield 93, 3) := by decide +kernel
theorem dX5_forStatement_187 : decode cX5_forStatement 187 = .ok (.bipush 73, 2) := by decide +kernel
theorem dX5_forStatement_189 : decode cX5_forStatement 189 = .ok (.aload_n 0, 1) := by decide +kernel
theorem dX5_forStatement_190 : decode cX5_forStatement 190 = .ok (.getfield 9, 3) := by decide +kernel
theorem dX5_forStatement_193 : decode cX5_forStatement 193 = .ok (.iload 8, 2) := by decide +kernel
theorem dX5_forStatement_195 : decode cX5_forStatement 195 = .ok (.iaload, 1) := by decide +kernel
theorem dX5_forStatement_196 : decode cX5_forStatement 196 = .ok (.invokevirtual 66, 3) := by decide +kernel
theorem dX5_forStatement_199 : decode cX5_forStatement 199 = .ok (.pop, 1) := by decide +kernel
theorem dX5_forStatement_200 : decode cX5_forStatement 200 = .ok (.aload_n 0, 1) := by decide +kernel
theorem dX5_forStatement_201 : decode cX5_forStatement 201 = .ok (.getfield 93, 3) := by decide +kernel
theorem dX5_forStatement_204 : decode cX5_forStatement 204 = .ok (.aload_n 0, 1) := by decide +kernel
theorem dX5_forStatement_205 : decode cX5_forStatement 205 = .ok (.getfield 9, 3) := by decide +kernel
theorem dX5_forStatement_208 : decode cX5_forStatement 208 = .ok (.iload 8, 2) := by decide +kernel
theorem dX5_forStatement_210 : decode cX5_forStatement 210 = .ok (.iconst 1, 1) := by decide +kernel
theorem dX5_forStatement_211 : decode cX5_forStatement 211 = .ok (.iadd, 1) := by decide +kernel
theorem dX5_forStatement_212 : decode cX5_forStatement 212 = .ok (.iaload, 1) := by decide +kernel
theorem dX5_forStatement_213 : decode cX5_forStatement 213 = .ok (.invokevirtual 243, 3) := by decide +kernel
theorem dX5_forStatement_216 : decode cX5_forStatement 216 = .ok (.pop, 1) := by decide +kernel
theorem dX5_forStatement_217 : decode cX5_forStatement 217 = .ok (.aload_n 0, 1) := by decide +kernel
theorem dX5_forStatement_218 : decode cX5_forStatement 218 = .ok (.getfield 93, 3) := by decide +kernel
theorem dX5_forStatement_221 : decode cX5_forStatement 221 = .ok (.aload_n 0, 1) := by decide +kernel
theorem dX5_forStatement_222 : decode cX5_forStatement 222 = .ok (.getfield 9, 3) := by decide +kernel
theorem dX5_forStatement_225 : decode cX5_forStatement 225 = .ok (.iload 8, 2) := by decide +kernel
theorem dX5_forStatement_227 : decode cX5_forStatement 227 = .ok (.iconst 2, 1) := by decide +kernel
theorem dX5_forStatement_228 : decode cX5_forStatement 228 = .ok (.iadd, 1) := by decide +kernel
theorem dX5_forStatement_229 : decode cX5_forStatement 229 = .ok (.iaload, 1) := by decide +kernel
theorem dX5_forStatement_230 : decode cX5_forStatement 230 = .ok (.invokevirtual 243, 3) := by decide +kernel
theorem dX5_forStatement_233 : decode cX5_forStatement 233 = .ok (.pop, 1) := by decide +kernel
theorem dX5_forStatement_234 : decode cX5_forStatement 234 = .ok (.iload 8, 2) := by decide +kernel
theorem dX5_forStatement_236 : decode cX5_forStatement 236 = .ok (.iconst 3, 1) := by decide +kernel
theorem dX5_forStatement_237 : decode cX5_forStatement 237 = .ok (.iadd, 1) := by decide +kernel
theorem dX5_forStatement_238 : decode cX5_forStatement 238 = .ok (.istore 8, 2) := by decide +kernel
theorem dX5_forStatement_240 : decode cX5_forStatement 240 = .ok (.goto (-68), 3) := by decide +kernel
theorem dX5_forStatement_243 : decode cX5_forStatement 243 = .ok (.aload_n 0, 1) := by decide +kernel
theorem dX5_forStatement_244 : decode cX5_forStatement 244 = .ok (.getfield 93, 3) := by decide +kernel
theorem dX5_forStatement_247 : decode cX5_forStatement 247 = .ok (.bipush 37, 2) := by decide +kernel
theorem dX5_forStatement_249 : decode cX5_forStatement 249 = .ok (.iload 5, 2) := by decide +kernel
theorem dX5_forStatement_251 : decode cX5_forStatement 251 = .ok (.invokevirtual 66, 3) := by decide +kernel
theorem dX5_forStatement_254 : decode cX5_forStatement 254 = .ok (.pop, 1) := by decide +kernel
theorem dX5_forStatement_255 : decode cX5_forStatement 255 = .ok (.aload_n 0, 1) := by decide +kernel
theorem dX5_forStatement_256 : decode cX5_forStatement 256 = .ok (.iload_n 2, 1) := by decide +kernel
theorem dX5_forStatement_257 : decode cX5_forStatement 257 = .ok (.putfield 112, 3) := by decide +kernel
theorem dX5_forStatement_260 : decode cX5_forStatement 260 = .ok (.aload_n 0, 1) := by decide +kernel
theorem dX5_forStatement_261 : decode cX5_forStatement 261 = .ok (.getfield 93, 3) := by decide +kernel
theorem dX5_forStatement_264 : decode cX5_forStatement 264 = .ok (.getfield 255, 3) := by decide +kernel
theorem dX5_forStatement_267 : decode cX5_forStatement 267 = .ok (.aload_n 0, 1) := by decide +kernel
theorem dX5_forStatement_268 : decode cX5_forStatement 268 = .ok (.getfield 97, 3) := by decide +kernel
theorem dX5_forStatement_271 : decode cX5_forStatement 271 = .ok (.iload_n 3, 1) := by decide +kernel
theorem dX5_forStatement_272 : decode cX5_forStatement 272 = .ok (.iastore, 1) := by decide +kernel
theorem dX5_forStatement_273 : decode cX5_forStatement 273 = .ok (.aload_n 0, 1) := by decide +kernel
theorem dX5_forStatement_274 : decode cX5_forStatement 274 = .ok (.getfield 93, 3) := by decide +kernel
theorem dX5_forStatement_277 : decode cX5_forStatement 277 = .ok (.iload_n 1, 1) := by decide +kernel
theorem dX5_forStatement_278 : decode cX5_forStatement 278 = .ok (.putfield 84, 3) := by decide +kernel
theorem dX5_forStatement_281 : decode cX5_forStatement 281 = .ok (.return_, 1) := by decide +kernel
theorem dX5_former_0 : decode cX5_former 0 = .ok (.aload_n 0, 1) := by decide +kernel
theorem dX5_former_1 : decode cX5_former 1 = .ok (.getfield 18, 3) := by decide +kernel
theorem dX5_former_4 : decode cX5_former 4 = .ok (.invokevirtual 30, 3) := by decide +kernel
theorem dX5_former_7 : decode cX5_former 7 = .ok (.aload_n 0, 1) := by decide +kernel
theorem dX5_former_8 : decode cX5_former 8 = .ok (.getfield 93, 3) := by decide +kernel
theorem dX5_former_11 : decode cX5_former 11 = .ok (.getfield 84, 3) := by decide +kernel
theorem dX5_former_14 : decode cX5_former 14 = .ok (.istore_n 2, 1) := by decide +kernel
theorem dX5_former_15 : decode cX5_former 15 = .ok (.aload_n 0, 1) := by decide +kernel
theorem dX5_former_16 : decode cX5_former 16 = .ok (.getfield 93, 3) := by decide +kernel
theorem dX5_former_19 : decode cX5_former 19 = .ok (.getfield 408, 3) := by decide +kernel
theorem dX5_former_22 : decode cX5_former 22 = .ok (.istore_n 3, 1) := by decide +kernel
theorem dX5_former_23 : decode cX5_former 23 = .ok (.aload_n 0, 1) := by decide +kernel
theorem dX5_former_24 : decode cX5_former 24 = .ok (.getfield 93, 3) := by decide +kernel
theorem dX5_former_27 : decode cX5_former 27 = .ok (.bipush 80, 2) := by decide +kernel
theorem dX5_former_29 : decode cX5_former 29 = .ok (.iconst 0, 1) := by decide +kernel
theorem dX5_former_30 : decode cX5_former 30 = .ok (.invokevirtual 66, 3) := by decide +kernel
theorem dX5_former_33 : decode cX5_former 33 = .ok (.pop, 1) := by decide +kernel
theorem dX5_former_34 : decode cX5_former 34 = .ok (.aload_n 0, 1) := by decide +kernel
theorem dX5_former_35 : decode cX5_former 35 = .ok (.iconst 0, 1) := by decide +kernel
theorem dX5_former_36 : decode cX5_former 36 = .ok (.invokevirtual 258, 3) := by decide +kernel
theorem dX5_former_39 : decode cX5_former 39 = .ok (.aload_n 0, 1) := by decide +kernel
theorem dX5_former_40 : decode cX5_former 40 = .ok (.getfield 262, 3) := by decide +kernel
theorem dX5_former_43 : decode cX5_former 43 = .ok (.istore 4, 2) := by decide +kernel
theorem dX5_former_45 : decode cX5_former 45 = .ok (.aload_n 0, 1) := by decide +kernel
theorem dX5_former_46 : decode cX5_former 46 = .ok (.getfield 265, 3) := by decide +kernel
theorem dX5_former_49 : decode cX5_former 49 = .ok (.istore 5, 2) := by decide +kernel
theorem dX5_former_51 : decode cX5_former 51 = .ok (.aload_n 0, 1) := by decide +kernel
theorem dX5_former_52 : decode cX5_former 52 = .ok (.getfield 18, 3) := by decide +kernel
theorem dX5_former_55 : decode cX5_former 55 = .ok (.getfield 36, 3) := by decide +kernel
theorem dX5_former_58 : decode cX5_former 58 = .ok (.bipush 19, 2) := by decide +kernel
theorem dX5_former_60 : decode cX5_former 60 = .ok (.if_icmp .ne 33, 3) := by decide +kernel
theorem dX5_former_63 : decode cX5_former 63 = .ok (.aload_n 0, 1) := by decide +kernel
theorem dX5_former_64 : decode cX5_former 64 = .ok (.getfield 18, 3) := by decide +kernel
theorem dX5_former_67 : decode cX5_former 67 = .ok (.invokevirtual 30, 3) := by decide +kernel
theorem dX5_former_70 : decode cX5_former 70 = .ok (.aload_n 0, 1) := by decide +kernel
theorem dX5_former_71 : decode cX5_former 71 = .ok (.iconst 0, 1) := by decide +kernel
theorem dX5_former_72 : decode cX5_former 72 = .ok (.invokevirtual 90, 3) := by decide +kernel
theorem dX5_former_75 : decode cX5_former 75 = .ok (.aload_n 0, 1) := by decide +kernel
theorem dX5_former_76 : decode cX5_former 76 = .ok (.getfield 93, 3) := by decide +kernel
theorem dX5_former_79 : decode cX5_former 79 = .ok (.aload_n 0, 1) := by decide +kernel
theorem dX5_former_80 : decode cX5_former 80 = .ok (.getfield 93, 3) := by decide +kernel
theorem dX5_former_83 : decode cX5_former 83 = .ok (.iconst 4, 1) := by decide +kernel
theorem dX5_former_84 : decode cX5_former 84 = .ok (.iconst 0, 1) := by decide +kernel
theorem dX5_former_85 : decode cX5_former 85 = .ok (.invokevirtual 66, 3) := by decide +kernel
theorem dX5_former_88 : decode cX5_former 88 = .ok (.iload 5, 2) := by decide +kernel
theorem dX5_former_90 : decode cX5_former 90 = .ok (.invokevirtual 240, 3) := by decide +kernel
theorem dX5_former_93 : decode cX5_former 93 = .ok (.aload_n 0, 1) := by decide +kernel
theorem dX5_former_94 : decode cX5_former 94 = .ok (.bipush 18, 2) := by decide +kernel
theorem dX5_former_96 : decode cX5_former 96 = .ok (.invokevirtual 141, 3) := by decide +kernel
theorem dX5_former_99 : decode cX5_former 99 = .ok (.aload_n 0, 1) := by decide +kernel
theorem dX5_former_100 : decode cX5_former 100 = .ok (.iconst 0, 1) := by decide +kernel
theorem dX5_former_101 : decode cX5_former 101 = .ok (.invokevirtual 90, 3) := by decide +kernel
theorem dX5_former_104 : decode cX5_former 104 = .ok (.aload_n 0, 1) := by decide +kernel
theorem dX5_former_105 : decode cX5_former 105 = .ok (.getfield 93, 3) := by decide +kernel
theorem dX5_former_108 : decode cX5_former 108 = .ok (.bipush 81, 2) := by decide +kernel
theorem dX5_former_110 : decode cX5_former 110 = .ok (.iload_n 1, 1) := by decide +kernel
theorem dX5_former_111 : decode cX5_former 111 = .ok (.iadd, 1) := by decide +kernel
theorem dX5_former_112 : decode cX5_former 112 = .ok (.iconst 0, 1) := by decide +kernel
theorem dX5_former_113 : decode cX5_former 113 = .ok (.invokevirtual 66, 3) := by decide +kernel
theorem dX5_former_116 : decode cX5_former 116 = .ok (.pop, 1) := by decide +kernel
theorem dX5_former_117 : decode cX5_former 117 = .ok (.aload_n 0, 1) := by decide +kernel
theorem dX5_former_118 : decode cX5_former 118 = .ok (.getfield 93, 3) := by decide +kernel
theorem dX5_former_121 : decode cX5_former 121 = .ok (.aload_n 0, 1) := by decide +kernel
theorem dX5_former_122 : decode cX5_former 122 = .ok (.getfield 93, 3) := by decide +kernel
theorem dX5_former_125 : decode cX5_former 125 = .ok (.iconst 3, 1) := by decide +kernel
theorem dX5_former_126 : decode cX5_former 126 = .ok (.iconst 0, 1) := by decide +kernel
theorem dX5_former_127 : decode cX5_former 127 = .ok (.invokevirtual 66, 3) := by decide +kernel
theorem dX5_former_130 : decode cX5_former 130 = .ok (.iload 5, 2) := by decide +kernel
theorem dX5_former_132 : decode cX5_former 132 = .ok (.invokevirtual 240, 3) := by decide +kernel
theorem dX5_former_135 : decode cX5_former 135 = .ok (.aload_n 0, 1) := by decide +kernel
theorem dX5_former_136 : decode cX5_former 136 = .ok (.getfield 93, 3) := by decide +kernel
theorem dX5_former_139 : decode cX5_former 139 = .ok (.getfield 246, 3) := by decide +kernel
theorem dX5_former_142 : decode cX5_former 142 = .ok (.iload 4, 2) := by decide +kernel
theorem dX5_former_144 : decode cX5_former 144 = .ok (.iconst 1, 1) := by decide +kernel
theorem dX5_former_145 : decode cX5_former 145 = .ok (.iadd, 1) := by decide +kernel
theorem dX5_former_146 : decode cX5_former 146 = .ok (.aload_n 0, 1) := by decide +kernel
theorem dX5_former_147 : decode cX5_former 147 = .ok (.getfield 93, 3) := by decide +kernel
theorem dX5_former_150 : decode cX5_former 150 = .ok (.getfield 50, 3) := by decide +kernel
theorem dX5_former_153 : decode cX5_former 153 = .ok (.iload 4, 2) := by decide +kernel
theorem dX5_former_155 : decode cX5_former 155 = .ok (.isub, 1) := by decide +kernel
theorem dX5_former_156 : decode cX5_former 156 = .ok (.iastore, 1) := by decide +kernel
theorem dX5_former_157 : decode cX5_former 157 = .ok (.aload_n 0, 1) := by decide +kernel
theorem dX5_former_158 : decode cX5_former 158 = .ok (.iload_n 3, 1) := by decide +kernel
theorem dX5_former_159 : decode cX5_former 159 = .ok (.invokevirtual 444, 3) := by decide +kernel
theorem dX5_former_162 : decode cX5_former 162 = .ok (.aload_n 0, 1) := by decide +kernel
theorem dX5_former_163 : decode cX5_former 163 = .ok (.getfield 93, 3) := by decide +kernel
theorem dX5_former_166 : decode cX5_former 166 = .ok (.bipush 83, 2) := by decide +kernel
theorem dX5_former_168 : decode cX5_former 168 = .ok (.iload_n 1, 1) := by decide +kernel
theorem dX5_former_169 : decode cX5_former 169 = .ok (.iadd, 1) := by decide +kernel
theorem dX5_former_170 : decode cX5_former 170 = .ok (.iconst 0, 1) := by decide +kernel
theorem dX5_former_171 : decode cX5_former 171 = .ok (.invokevirtual 66, 3) := by decide +kernel
theorem dX5_former_174 : decode cX5_former 174 = .ok (.pop, 1) := by decide +kernel
theorem dX5_former_175 : decode cX5_former 175 = .ok (.aload_n 0, 1) := by decide +kernel
theorem dX5_former_176 : decode cX5_former 176 = .ok (.getfield 93, 3) := by decide +kernel
theorem dX5_former_179 : decode cX5_former 179 = .ok (.iload_n 2, 1) := by decide +kernel
theorem dX5_former_180 : decode cX5_former 180 = .ok (.putfield 84, 3) := by decide +kernel
theorem dX5_former_183 : decode cX5_former 183 = .ok (.return_, 1) := by decide +kernel
theorem dX5_function_0 : decode cX5_function 0 = .ok (.aload_n 0, 1) := by decide +kernel
theorem dX5_function_1 : decode cX5_function 1 = .ok (.iconst 1, 1) := by decide +kernel
theorem dX5_function_2 : decode cX5_function 2 = .ok (.invokevirtual 179, 3) := by decide +kernel
theorem dX5_function_5 : decode cX5_function 5 = .ok (.istore_n 1, 1) := by decide +kernel
theorem dX5_function_6 : decode cX5_function 6 = .ok (.aload_n 0, 1) := by decide +kernel
theorem dX5_function_7 : decode cX5_function 7 = .ok (.iconst 0, 1) := by decide +kernel
theorem dX5_function_8 : decode cX5_function 8 = .ok (.putfield 100, 3) := by decide +kernel
theorem dX5_function_11 : decode cX5_function 11 = .ok (.aload_n 0, 1) := by decide +kernel
theorem dX5_function_12 : decode cX5_function 12 = .ok (.getfield 18, 3) := by decide +kernel
theorem dX5_function_15 : decode cX5_function 15 = .ok (.getfield 36, 3) := by decide +kernel
theorem dX5_function_18 : decode cX5_function 18 = .ok (.bipush 11, 2) := by decide +kernel
theorem dX5_function_20 : decode cX5_function 20 = .ok (.if_icmp .eq 46, 3) := by decide +kernel
theorem dX5_function_23 : decode cX5_function 23 = .ok (.aload_n 0, 1) := by decide +kernel
theorem dX5_function_24 : decode cX5_function 24 = .ok (.iload_n 1, 1) := by decide +kernel
theorem dX5_function_25 : decode cX5_function 25 = .ok (.invokevirtual 183, 3) := by decide +kernel
theorem dX5_function_28 : decode cX5_function 28 = .ok (.iconst 0, 1) := by decide +kernel
theorem dX5_function_29 : decode cX5_function 29 = .ok (.istore_n 2, 1) := by decide +kernel
theorem dX5_function_30 : decode cX5_function 30 = .ok (.iload_n 2, 1) := by decide +kernel
theorem dX5_function_31 : decode cX5_function 31 = .ok (.bipush 8, 2) := by decide +kernel
theorem dX5_function_33 : decode cX5_function 33 = .ok (.if_icmp .gt 33, 3) := by decide +kernel
theorem dX5_function_36 : decode cX5_function 36 = .ok (.aload_n 0, 1) := by decide +kernel
theorem dX5_function_37 : decode cX5_function 37 = .ok (.getfield 18, 3) := by decide +kernel
theorem dX5_function_40 : decode cX5_function 40 = .ok (.getfield 36, 3) := by decide +kernel
theorem dX5_function_43 : decode cX5_function 43 = .ok (.bipush 16, 2) := by decide +kernel
theorem dX5_function_45 : decode cX5_function 45 = .ok (.if_icmp .ne 21, 3) := by decide +kernel
theorem dX5_function_48 : decode cX5_function 48 = .ok (.aload_n 0, 1) := by decide +kernel
theorem dX5_function_49 : decode cX5_function 49 = .ok (.getfield 18, 3) := by decide +kernel
theorem dX5_function_52 : decode cX5_function 52 = .ok (.invokevirtual 30, 3) := by decide +kernel
theorem dX5_function_55 : decode cX5_function 55 = .ok (.aload_n 0, 1) := by decide +kernel
theorem dX5_function_56 : decode cX5_function 56 = .ok (.iload_n 1, 1) := by decide +kernel
theorem dX5_function_57 : decode cX5_function 57 = .ok (.invokevirtual 183, 3) := by decide +kernel
theorem dX5_function_60 : decode cX5_function 60 = .ok (.iinc 2 1, 3) := by decide +kernel
theorem dX5_function_63 : decode cX5_function 63 = .ok (.goto (-33), 3) := by decide +kernel
theorem dX5_function_66 : decode cX5_function 66 = .ok (.aload_n 0, 1) := by decide +kernel
theorem dX5_function_67 : decode cX5_function 67 = .ok (.bipush 11, 2) := by decide +kernel
theorem dX5_function_69 : decode cX5_function 69 = .ok (.invokevirtual 186, 3) := by decide +kernel
theorem dX5_function_72 : decode cX5_function 72 = .ok (.aload_n 0, 1) := by decide +kernel
theorem dX5_function_73 : decode cX5_function 73 = .ok (.bipush 20, 2) := by decide +kernel
theorem dX5_function_75 : decode cX5_function 75 = .ok (.invokevirtual 141, 3) := by decide +kernel
theorem dX5_function_78 : decode cX5_function 78 = .ok (.aload_n 0, 1) := by decide +kernel
theorem dX5_function_79 : decode cX5_function 79 = .ok (.iconst 0, 1) := by decide +kernel
theorem dX5_function_80 : decode cX5_function 80 = .ok (.invokevirtual 90, 3) := by decide +kernel
theorem dX5_function_83 : decode cX5_function 83 = .ok (.aload_n 0, 1) := by decide +kernel
theorem dX5_function_84 : decode cX5_function 84 = .ok (.getfield 93, 3) := by decide +kernel
theorem dX5_function_87 : decode cX5_function 87 = .ok (.bipush 18, 2) := by decide +kernel
theorem dX5_function_89 : decode cX5_function 89 = .ok (.iconst 0, 1) := by decide +kernel
theorem dX5_function_90 : decode cX5_function 90 = .ok (.invokevirtual 66, 3) := by decide +kernel
theorem dX5_function_93 : decode cX5_function 93 = .ok (.pop, 1) := by decide +kernel
theorem dX5_function_94 : decode cX5_function 94 = .ok (.aload_n 0, 1) := by decide +kernel
theorem dX5_function_95 : decode cX5_function 95 = .ok (.bipush 17, 2) := by decide +kernel
theorem dX5_function_97 : decode cX5_function 97 = .ok (.invokevirtual 141, 3) := by decide +kernel
theorem dX5_function_100 : decode cX5_function 100 = .ok (.aload_n 0, 1) := by decide +kernel
theorem dX5_function_101 : decode cX5_function 101 = .ok (.iload_n 1, 1) := by decide +kernel
theorem dX5_function_102 : decode cX5_function 102 = .ok (.invokevirtual 189, 3) := by decide +kernel
theorem dX5_function_105 : decode cX5_function 105 = .ok (.return_, 1) := by decide +kernel
theorem dX5_functionCall_0 : decode cX5_functionCall 0 = .ok (.aload_n 0, 1) := by decide +kernel
theorem dX5_functionCall_1 : decode cX5_functionCall 1 = .ok (.getfield 93, 3) := by decide +kernel
theorem dX5_functionCall_4 : decode cX5_functionCall 4 = .ok (.bipush 16, 2) := by decide +kernel
theorem dX5_functionCall_6 : decode cX5_functionCall 6 = .ok (.iconst 0, 1) := by decide +kernel
theorem dX5_functionCall_7 : decode cX5_functionCall 7 = .ok (.invokevirtual 66, 3) := by decide +kernel
theorem dX5_functionCall_10 : decode cX5_functionCall 10 = .ok (.pop, 1) := by decide +kernel
theorem dX5_functionCall_11 : decode cX5_functionCall 11 = .ok (.aload_n 0, 1) := by decide +kernel
theorem dX5_functionCall_12 : decode cX5_functionCall 12 = .ok (.invokevirtual 173, 3) := by decide +kernel
theorem dX5_functionCall_15 : decode cX5_functionCall 15 = .ok (.aload_n 0, 1) := by decide +kernel
theorem dX5_functionCall_16 : decode cX5_functionCall 16 = .ok (.getfield 103, 3) := by decide +kernel
theorem dX5_functionCall_19 : decode cX5_functionCall 19 = .ok (.istore_n 2, 1) := by decide +kernel
theorem dX5_functionCall_20 : decode cX5_functionCall 20 = .ok (.aload_n 0, 1) := by decide +kernel
theorem dX5_functionCall_21 : decode cX5_functionCall 21 = .ok (.getfield 18, 3) := by decide +kernel
theorem dX5_functionCall_24 : decode cX5_functionCall 24 = .ok (.getfield 36, 3) := by decide +kernel
theorem dX5_functionCall_27 : decode cX5_functionCall 27 = .ok (.bipush 11, 2) := by decide +kernel
theorem dX5_functionCall_29 : decode cX5_functionCall 29 = .ok (.if_icmp .ne 7, 3) := by decide +kernel
theorem dX5_functionCall_32 : decode cX5_functionCall 32 = .ok (.iconst 0, 1) := by decide +kernel
theorem dX5_functionCall_33 : decode cX5_functionCall 33 = .ok (.goto 7, 3) := by decide +kernel
theorem dX5_functionCall_36 : decode cX5_functionCall 36 = .ok (.aload_n 0, 1) := by decide +kernel
theorem dX5_functionCall_37 : decode cX5_functionCall 37 = .ok (.invokevirtual 233, 3) := by decide +kernel
theorem dX5_functionCall_40 : decode cX5_functionCall 40 = .ok (.istore_n 3, 1) := by decide +kernel
theorem dX5_functionCall_41 : decode cX5_functionCall 41 = .ok (.aload_n 0, 1) := by decide +kernel
theorem dX5_functionCall_42 : decode cX5_functionCall 42 = .ok (.bipush 11, 2) := by decide +kernel
theorem dX5_functionCall_44 : decode cX5_functionCall 44 = .ok (.invokevirtual 61, 3) := by decide +kernel
theorem dX5_functionCall_47 : decode cX5_functionCall 47 = .ok (.iload_n 3, 1) := by decide +kernel
theorem dX5_functionCall_48 : decode cX5_functionCall 48 = .ok (.aload_n 0, 1) := by decide +kernel
theorem dX5_functionCall_49 : decode cX5_functionCall 49 = .ok (.getfield 93, 3) := by decide +kernel
theorem dX5_functionCall_52 : decode cX5_functionCall 52 = .ok (.getfield 176, 3) := by decide +kernel
theorem dX5_functionCall_55 : decode cX5_functionCall 55 = .ok (.iload_n 1, 1) := by decide +kernel
theorem dX5_functionCall_56 : decode cX5_functionCall 56 = .ok (.iaload, 1) := by decide +kernel
theorem dX5_functionCall_57 : decode cX5_functionCall 57 = .ok (.if_icmp .eq 16, 3) := by decide +kernel
theorem dX5_functionCall_60 : decode cX5_functionCall 60 = .ok (.aload_n 0, 1) := by decide +kernel
theorem dX5_functionCall_61 : decode cX5_functionCall 61 = .ok (.bipush 6, 2) := by decide +kernel
theorem dX5_functionCall_63 : decode cX5_functionCall 63 = .ok (.aload_n 0, 1) := by decide +kernel
theorem dX5_functionCall_64 : decode cX5_functionCall 64 = .ok (.getfield 18, 3) := by decide +kernel
theorem dX5_functionCall_67 : decode cX5_functionCall 67 = .ok (.getfield 78, 3) := by decide +kernel
theorem dX5_functionCall_70 : decode cX5_functionCall 70 = .ok (.invokevirtual 125, 3) := by decide +kernel
theorem dX5_functionCall_73 : decode cX5_functionCall 73 = .ok (.aload_n 0, 1) := by decide +kernel
theorem dX5_functionCall_74 : decode cX5_functionCall 74 = .ok (.bipush 11, 2) := by decide +kernel
theorem dX5_functionCall_76 : decode cX5_functionCall 76 = .ok (.invokevirtual 186, 3) := by decide +kernel
theorem dX5_functionCall_79 : decode cX5_functionCall 79 = .ok (.aload_n 0, 1) := by decide +kernel
theorem dX5_functionCall_80 : decode cX5_functionCall 80 = .ok (.getfield 93, 3) := by decide +kernel
theorem dX5_functionCall_83 : decode cX5_functionCall 83 = .ok (.bipush 17, 2) := by decide +kernel
theorem dX5_functionCall_85 : decode cX5_functionCall 85 = .ok (.iload_n 1, 1) := by decide +kernel
theorem dX5_functionCall_86 : decode cX5_functionCall 86 = .ok (.invokevirtual 66, 3) := by decide +kernel
theorem dX5_functionCall_89 : decode cX5_functionCall 89 = .ok (.pop, 1) := by decide +kernel
theorem dX5_functionCall_90 : decode cX5_functionCall 90 = .ok (.aload_n 0, 1) := by decide +kernel
theorem dX5_functionCall_91 : decode cX5_functionCall 91 = .ok (.getfield 93, 3) := by decide +kernel
theorem dX5_functionCall_94 : decode cX5_functionCall 94 = .ok (.iload_n 2, 1) := by decide +kernel
theorem dX5_functionCall_95 : decode cX5_functionCall 95 = .ok (.aload_n 0, 1) := by decide +kernel
theorem dX5_functionCall_96 : decode cX5_functionCall 96 = .ok (.getfield 93, 3) := by decide +kernel
theorem dX5_functionCall_99 : decode cX5_functionCall 99 = .ok (.getfield 408, 3) := by decide +kernel
theorem dX5_functionCall_102 : decode cX5_functionCall 102 = .ok (.bipush 8, 2) := by decide +kernel
theorem dX5_functionCall_104 : decode cX5_functionCall 104 = .ok (.ishl, 1) := by decide +kernel
theorem dX5_functionCall_105 : decode cX5_functionCall 105 = .ok (.ior, 1) := by decide +kernel
theorem dX5_functionCall_106 : decode cX5_functionCall 106 = .ok (.invokevirtual 243, 3) := by decide +kernel
theorem dX5_functionCall_109 : decode cX5_functionCall 109 = .ok (.pop, 1) := by decide +kernel
theorem dX5_functionCall_110 : decode cX5_functionCall 110 = .ok (.return_, 1) := by decide +kernel
theorem dX5_holesStatement_0 : decode cX5_holesStatement 0 = .ok (.aload_n 0, 1) := by decide +kernel
theorem dX5_holesStatement_1 : decode cX5_holesStatement 1 = .ok (.getfield 112, 3) := by decide +kernel
theorem dX5_holesStatement_4 : decode cX5_holesStatement 4 = .ok (.istore_n 1, 1) := by decide +kernel
theorem dX5_holesStatement_5 : decode cX5_holesStatement 5 = .ok (.iconst 0, 1) := by decide +kernel
theorem dX5_holesStatement_6 : decode cX5_holesStatement 6 = .ok (.istore_n 2, 1) := by decide +kernel
theorem dX5_holesStatement_7 : decode cX5_holesStatement 7 = .ok (.iconst 0, 1) := by decide +kernel
theorem dX5_holesStatement_8 : decode cX5_holesStatement 8 = .ok (.istore_n 3, 1) := by decide +kernel
theorem dX5_holesStatement_9 : decode cX5_holesStatement 9 = .ok (.iconst 1, 1) := by decide +kernel
theorem dX5_holesStatement_10 : decode cX5_holesStatement 10 = .ok (.istore 4, 2) := by decide +kernel
theorem dX5_holesStatement_12 : decode cX5_holesStatement 12 = .ok (.aload_n 0, 1) := by decide +kernel
theorem dX5_holesStatement_13 : decode cX5_holesStatement 13 = .ok (.invokevirtual 173, 3) := by decide +kernel
theorem dX5_holesStatement_16 : decode cX5_holesStatement 16 = .ok (.iconst 0, 1) := by decide +kernel
theorem dX5_holesStatement_17 : decode cX5_holesStatement 17 = .ok (.istore 5, 2) := by decide +kernel
theorem dX5_holesStatement_19 : decode cX5_holesStatement 19 = .ok (.iload 5, 2) := by decide +kernel
theorem dX5_holesStatement_21 : decode cX5_holesStatement 21 = .ok (.ldc 35, 2) := by decide +kernel
theorem dX5_holesStatement_23 : decode cX5_holesStatement 23 = .ok (.if_icmp .gt 93, 3) := by decide +kernel
theorem dX5_holesStatement_26 : decode cX5_holesStatement 26 = .ok (.iload 4, 2) := by decide +kernel
theorem dX5_holesStatement_28 : decode cX5_holesStatement 28 = .ok (.ifCond .eq 88, 3) := by decide +kernel
theorem dX5_holesStatement_31 : decode cX5_holesStatement 31 = .ok (.aload_n 0, 1) := by decide +kernel
theorem dX5_holesStatement_32 : decode cX5_holesStatement 32 = .ok (.getfield 18, 3) := by decide +kernel
theorem dX5_holesStatement_35 : decode cX5_holesStatement 35 = .ok (.getfield 36, 3) := by decide +kernel
theorem dX5_holesStatement_38 : decode cX5_holesStatement 38 = .ok (.bipush 7, 2) := by decide +kernel
theorem dX5_holesStatement_40 : decode cX5_holesStatement 40 = .ok (.if_icmp .ne 17, 3) := by decide +kernel
theorem dX5_holesStatement_43 : decode cX5_holesStatement 43 = .ok (.aload_n 0, 1) := by decide +kernel
theorem dX5_holesStatement_44 : decode cX5_holesStatement 44 = .ok (.getfield 18, 3) := by decide +kernel
theorem dX5_holesStatement_47 : decode cX5_holesStatement 47 = .ok (.invokevirtual 30, 3) := by decide +kernel
theorem dX5_holesStatement_50 : decode cX5_holesStatement 50 = .ok (.aload_n 0, 1) := by decide +kernel
theorem dX5_holesStatement_51 : decode cX5_holesStatement 51 = .ok (.invokevirtual 319, 3) := by decide +kernel
theorem dX5_holesStatement_54 : decode cX5_holesStatement 54 = .ok (.goto 22, 3) := by decide +kernel
theorem dX5_holesStatement_57 : decode cX5_holesStatement 57 = .ok (.aload_n 0, 1) := by decide +kernel
theorem dX5_holesStatement_58 : decode cX5_holesStatement 58 = .ok (.iconst (-1), 1) := by decide +kernel
theorem dX5_holesStatement_59 : decode cX5_holesStatement 59 = .ok (.invokevirtual 280, 3) := by decide +kernel
theorem dX5_holesStatement_62 : decode cX5_holesStatement 62 = .ok (.istore 6, 2) := by decide +kernel
theorem dX5_holesStatement_64 : decode cX5_holesStatement 64 = .ok (.iload_n 3, 1) := by decide +kernel
theorem dX5_holesStatement_65 : decode cX5_holesStatement 65 = .ok (.aload_n 0, 1) := by decide +kernel
theorem dX5_holesStatement_66 : decode cX5_holesStatement 66 = .ok (.getfield 9, 3) := by decide +kernel
theorem dX5_holesStatement_69 : decode cX5_holesStatement 69 = .ok (.iload 6, 2) := by decide +kernel
theorem dX5_holesStatement_71 : decode cX5_holesStatement 71 = .ok (.iconst 2, 1) := by decide +kernel
theorem dX5_holesStatement_72 : decode cX5_holesStatement 72 = .ok (.iadd, 1) := by decide +kernel
theorem dX5_holesStatement_73 : decode cX5_holesStatement 73 = .ok (.iaload, 1) := by decide +kernel
theorem dX5_holesStatement_74 : decode cX5_holesStatement 74 = .ok (.iadd, 1) := by decide +kernel
theorem dX5_holesStatement_75 : decode cX5_holesStatement 75 = .ok (.istore_n 3, 1) := by decide +kernel
theorem dX5_holesStatement_76 : decode cX5_holesStatement 76 = .ok (.iinc 2 1, 3) := by decide +kernel
theorem dX5_holesStatement_79 : decode cX5_holesStatement 79 = .ok (.aload_n 0, 1) := by decide +kernel
theorem dX5_holesStatement_80 : decode cX5_holesStatement 80 = .ok (.getfield 18, 3) := by decide +kernel
theorem dX5_holesStatement_83 : decode cX5_holesStatement 83 = .ok (.getfield 36, 3) := by decide +kernel
theorem dX5_holesStatement_86 : decode cX5_holesStatement 86 = .ok (.bipush 16, 2) := by decide +kernel
theorem dX5_holesStatement_88 : decode cX5_holesStatement 88 = .ok (.if_icmp .ne 7, 3) := by decide +kernel
theorem dX5_holesStatement_91 : decode cX5_holesStatement 91 = .ok (.iconst 1, 1) := by decide +kernel
theorem dX5_holesStatement_92 : decode cX5_holesStatement 92 = .ok (.goto 4, 3) := by decide +kernel
theorem dX5_holesStatement_95 : decode cX5_holesStatement 95 = .ok (.iconst 0, 1) := by decide +kernel
theorem dX5_holesStatement_96 : decode cX5_holesStatement 96 = .ok (.istore 4, 2) := by decide +kernel
theorem dX5_holesStatement_98 : decode cX5_holesStatement 98 = .ok (.iload 4, 2) := by decide +kernel
theorem dX5_holesStatement_100 : decode cX5_holesStatement 100 = .ok (.ifCond .eq 10, 3) := by decide +kernel
theorem dX5_holesStatement_103 : decode cX5_holesStatement 103 = .ok (.aload_n 0, 1) := by decide +kernel
theorem dX5_holesStatement_104 : decode cX5_holesStatement 104 = .ok (.getfield 18, 3) := by decide +kernel
theorem dX5_holesStatement_107 : decode cX5_holesStatement 107 = .ok (.invokevirtual 30, 3) := by decide +kernel
theorem dX5_holesStatement_110 : decode cX5_holesStatement 110 = .ok (.iinc 5 1, 3) := by decide +kernel
theorem dX5_holesStatement_113 : decode cX5_holesStatement 113 = .ok (.goto (-94), 3) := by decide +kernel
theorem dX5_holesStatement_116 : decode cX5_holesStatement 116 = .ok (.aload_n 0, 1) := by decide +kernel
theorem dX5_holesStatement_117 : decode cX5_holesStatement 117 = .ok (.bipush 15, 2) := by decide +kernel
theorem dX5_holesStatement_119 : decode cX5_holesStatement 119 = .ok (.invokevirtual 186, 3) := by decide +kernel
theorem dX5_holesStatement_122 : decode cX5_holesStatement 122 = .ok (.aload_n 0, 1) := by decide +kernel
theorem dX5_holesStatement_123 : decode cX5_holesStatement 123 = .ok (.iconst 5, 1) := by decide +kernel
theorem dX5_holesStatement_124 : decode cX5_holesStatement 124 = .ok (.invokevirtual 141, 3) := by decide +kernel
theorem dX5_holesStatement_127 : decode cX5_holesStatement 127 = .ok (.aload_n 0, 1) := by decide +kernel
theorem dX5_holesStatement_128 : decode cX5_holesStatement 128 = .ok (.iconst 0, 1) := by decide +kernel
theorem dX5_holesStatement_129 : decode cX5_holesStatement 129 = .ok (.invokevirtual 90, 3) := by decide +kernel
theorem dX5_holesStatement_132 : decode cX5_holesStatement 132 = .ok (.aload_n 0, 1) := by decide +kernel
theorem dX5_holesStatement_133 : decode cX5_holesStatement 133 = .ok (.iload_n 1, 1) := by decide +kernel
theorem dX5_holesStatement_134 : decode cX5_holesStatement 134 = .ok (.iload_n 2, 1) := by decide +kernel
theorem dX5_holesStatement_135 : decode cX5_holesStatement 135 = .ok (.iload_n 3, 1) := by decide +kernel
theorem dX5_holesStatement_136 : decode cX5_holesStatement 136 = .ok (.invokevirtual 322, 3) := by decide +kernel
theorem dX5_holesStatement_139 : decode cX5_holesStatement 139 = .ok (.aload_n 0, 1) := by decide +kernel
theorem dX5_holesStatement_140 : decode cX5_holesStatement 140 = .ok (.iload_n 1, 1) := by decide +kernel
theorem dX5_holesStatement_141 : decode cX5_holesStatement 141 = .ok (.putfield 112, 3) := by decide +kernel
theorem dX5_holesStatement_144 : decode cX5_holesStatement 144 = .ok (.return_, 1) := by decide +kernel
theorem dX5_ifStatement_0 : decode cX5_ifStatement 0 = .ok (.aload_n 0, 1) := by decide +kernel
theorem dX5_ifStatement_1 : decode cX5_ifStatement 1 = .ok (.invokevirtual 173, 3) := by decide +kernel
theorem dX5_ifStatement_4 : decode cX5_ifStatement 4 = .ok (.aload_n 0, 1) := by decide +kernel
theorem dX5_ifStatement_5 : decode cX5_ifStatement 5 = .ok (.getfield 18, 3) := by decide +kernel
theorem dX5_ifStatement_8 : decode cX5_ifStatement 8 = .ok (.getfield 36, 3) := by decide +kernel
theorem dX5_ifStatement_11 : decode cX5_ifStatement 11 = .ok (.bipush 63, 2) := by decide +kernel
theorem dX5_ifStatement_13 : decode cX5_ifStatement 13 = .ok (.if_icmp .ne 24, 3) := by decide +kernel
theorem dX5_ifStatement_16 : decode cX5_ifStatement 16 = .ok (.aload_n 0, 1) := by decide +kernel
theorem dX5_ifStatement_17 : decode cX5_ifStatement 17 = .ok (.getfield 18, 3) := by decide +kernel
theorem dX5_ifStatement_20 : decode cX5_ifStatement 20 = .ok (.invokevirtual 30, 3) := by decide +kernel
theorem dX5_ifStatement_23 : decode cX5_ifStatement 23 = .ok (.aload_n 0, 1) := by decide +kernel
theorem dX5_ifStatement_24 : decode cX5_ifStatement 24 = .ok (.getfield 93, 3) := by decide +kernel
theorem dX5_ifStatement_27 : decode cX5_ifStatement 27 = .ok (.bipush 21, 2) := by decide +kernel
theorem dX5_ifStatement_29 : decode cX5_ifStatement 29 = .ok (.iconst 0, 1) := by decide +kernel
theorem dX5_ifStatement_30 : decode cX5_ifStatement 30 = .ok (.invokevirtual 66, 3) := by decide +kernel
theorem dX5_ifStatement_33 : decode cX5_ifStatement 33 = .ok (.pop, 1) := by decide +kernel
theorem dX5_ifStatement_34 : decode cX5_ifStatement 34 = .ok (.goto 8, 3) := by decide +kernel
theorem dX5_ifStatement_37 : decode cX5_ifStatement 37 = .ok (.aload_n 0, 1) := by decide +kernel
theorem dX5_ifStatement_38 : decode cX5_ifStatement 38 = .ok (.iconst 0, 1) := by decide +kernel
theorem dX5_ifStatement_39 : decode cX5_ifStatement 39 = .ok (.invokevirtual 90, 3) := by decide +kernel
theorem dX5_ifStatement_42 : decode cX5_ifStatement 42 = .ok (.iconst 0, 1) := by decide +kernel
theorem dX5_ifStatement_43 : decode cX5_ifStatement 43 = .ok (.istore_n 1, 1) := by decide +kernel
theorem dX5_ifStatement_44 : decode cX5_ifStatement 44 = .ok (.aload_n 0, 1) := by decide +kernel
theorem dX5_ifStatement_45 : decode cX5_ifStatement 45 = .ok (.bipush 40, 2) := by decide +kernel
theorem dX5_ifStatement_47 : decode cX5_ifStatement 47 = .ok (.invokevirtual 141, 3) := by decide +kernel
theorem dX5_ifStatement_50 : decode cX5_ifStatement 50 = .ok (.aload_n 0, 1) := by decide +kernel
theorem dX5_ifStatement_51 : decode cX5_ifStatement 51 = .ok (.getfield 93, 3) := by decide +kernel
theorem dX5_ifStatement_54 : decode cX5_ifStatement 54 = .ok (.iconst 4, 1) := by decide +kernel
theorem dX5_ifStatement_55 : decode cX5_ifStatement 55 = .ok (.iconst 0, 1) := by decide +kernel
theorem dX5_ifStatement_56 : decode cX5_ifStatement 56 = .ok (.invokevirtual 66, 3) := by decide +kernel
theorem dX5_ifStatement_59 : decode cX5_ifStatement 59 = .ok (.istore_n 2, 1) := by decide +kernel
theorem dX5_ifStatement_60 : decode cX5_ifStatement 60 = .ok (.aload_n 0, 1) := by decide +kernel
theorem dX5_ifStatement_61 : decode cX5_ifStatement 61 = .ok (.invokevirtual 58, 3) := by decide +kernel
theorem dX5_ifStatement_64 : decode cX5_ifStatement 64 = .ok (.iconst 0, 1) := by decide +kernel
theorem dX5_ifStatement_65 : decode cX5_ifStatement 65 = .ok (.istore_n 3, 1) := by decide +kernel
theorem dX5_ifStatement_66 : decode cX5_ifStatement 66 = .ok (.iload_n 3, 1) := by decide +kernel
theorem dX5_ifStatement_67 : decode cX5_ifStatement 67 = .ok (.ldc 35, 2) := by decide +kernel
theorem dX5_ifStatement_69 : decode cX5_ifStatement 69 = .ok (.if_icmp .gt 78, 3) := by decide +kernel
theorem dX5_ifStatement_72 : decode cX5_ifStatement 72 = .ok (.aload_n 0, 1) := by decide +kernel
theorem dX5_ifStatement_73 : decode cX5_ifStatement 73 = .ok (.getfield 18, 3) := by decide +kernel
theorem dX5_ifStatement_76 : decode cX5_ifStatement 76 = .ok (.getfield 36, 3) := by decide +kernel
theorem dX5_ifStatement_79 : decode cX5_ifStatement 79 = .ok (.bipush 41, 2) := by decide +kernel
theorem dX5_ifStatement_81 : decode cX5_ifStatement 81 = .ok (.if_icmp .ne 66, 3) := by decide +kernel
theorem dX5_ifStatement_84 : decode cX5_ifStatement 84 = .ok (.aload_n 0, 1) := by decide +kernel
theorem dX5_ifStatement_85 : decode cX5_ifStatement 85 = .ok (.getfield 93, 3) := by decide +kernel
theorem dX5_ifStatement_88 : decode cX5_ifStatement 88 = .ok (.iconst 3, 1) := by decide +kernel
theorem dX5_ifStatement_89 : decode cX5_ifStatement 89 = .ok (.iload_n 1, 1) := by decide +kernel
theorem dX5_ifStatement_90 : decode cX5_ifStatement 90 = .ok (.invokevirtual 66, 3) := by decide +kernel
theorem dX5_ifStatement_93 : decode cX5_ifStatement 93 = .ok (.istore_n 1, 1) := by decide +kernel
theorem dX5_ifStatement_94 : decode cX5_ifStatement 94 = .ok (.aload_n 0, 1) := by decide +kernel
theorem dX5_ifStatement_95 : decode cX5_ifStatement 95 = .ok (.getfield 93, 3) := by decide +kernel
theorem dX5_ifStatement_98 : decode cX5_ifStatement 98 = .ok (.iload_n 2, 1) := by decide +kernel
theorem dX5_ifStatement_99 : decode cX5_ifStatement 99 = .ok (.aload_n 0, 1) := by decide +kernel
theorem dX5_ifStatement_100 : decode cX5_ifStatement 100 = .ok (.getfield 93, 3) := by decide +kernel
theorem dX5_ifStatement_103 : decode cX5_ifStatement 103 = .ok (.getfield 50, 3) := by decide +kernel
theorem dX5_ifStatement_106 : decode cX5_ifStatement 106 = .ok (.invokevirtual 240, 3) := by decide +kernel
theorem dX5_ifStatement_109 : decode cX5_ifStatement 109 = .ok (.aload_n 0, 1) := by decide +kernel
theorem dX5_ifStatement_110 : decode cX5_ifStatement 110 = .ok (.getfield 18, 3) := by decide +kernel
theorem dX5_ifStatement_113 : decode cX5_ifStatement 113 = .ok (.invokevirtual 30, 3) := by decide +kernel
theorem dX5_ifStatement_116 : decode cX5_ifStatement 116 = .ok (.aload_n 0, 1) := by decide +kernel
theorem dX5_ifStatement_117 : decode cX5_ifStatement 117 = .ok (.iconst 0, 1) := by decide +kernel
theorem dX5_ifStatement_118 : decode cX5_ifStatement 118 = .ok (.invokevirtual 90, 3) := by decide +kernel
theorem dX5_ifStatement_121 : decode cX5_ifStatement 121 = .ok (.aload_n 0, 1) := by decide +kernel
theorem dX5_ifStatement_122 : decode cX5_ifStatement 122 = .ok (.bipush 40, 2) := by decide +kernel
theorem dX5_ifStatement_124 : decode cX5_ifStatement 124 = .ok (.invokevirtual 141, 3) := by decide +kernel
theorem dX5_ifStatement_127 : decode cX5_ifStatement 127 = .ok (.aload_n 0, 1) := by decide +kernel
theorem dX5_ifStatement_128 : decode cX5_ifStatement 128 = .ok (.getfield 93, 3) := by decide +kernel
theorem dX5_ifStatement_131 : decode cX5_ifStatement 131 = .ok (.iconst 4, 1) := by decide +kernel
theorem dX5_ifStatement_132 : decode cX5_ifStatement 132 = .ok (.iconst 0, 1) := by decide +kernel
theorem dX5_ifStatement_133 : decode cX5_ifStatement 133 = .ok (.invokevirtual 66, 3) := by decide +kernel
theorem dX5_ifStatement_136 : decode cX5_ifStatement 136 = .ok (.istore_n 2, 1) := by decide +kernel
theorem dX5_ifStatement_137 : decode cX5_ifStatement 137 = .ok (.aload_n 0, 1) := by decide +kernel
theorem dX5_ifStatement_138 : decode cX5_ifStatement 138 = .ok (.invokevirtual 58, 3) := by decide +kernel
theorem dX5_ifStatement_141 : decode cX5_ifStatement 141 = .ok (.iinc 3 1, 3) := by decide +kernel
theorem dX5_ifStatement_144 : decode cX5_ifStatement 144 = .ok (.goto (-78), 3) := by decide +kernel
theorem dX5_ifStatement_147 : decode cX5_ifStatement 147 = .ok (.aload_n 0, 1) := by decide +kernel
theorem dX5_ifStatement_148 : decode cX5_ifStatement 148 = .ok (.getfield 18, 3) := by decide +kernel
theorem dX5_ifStatement_151 : decode cX5_ifStatement 151 = .ok (.getfield 36, 3) := by decide +kernel
theorem dX5_ifStatement_154 : decode cX5_ifStatement 154 = .ok (.bipush 42, 2) := by decide +kernel
theorem dX5_ifStatement_156 : decode cX5_ifStatement 156 = .ok (.if_icmp .ne 41, 3) := by decide +kernel
theorem dX5_ifStatement_159 : decode cX5_ifStatement 159 = .ok (.aload_n 0, 1) := by decide +kernel
theorem dX5_ifStatement_160 : decode cX5_ifStatement 160 = .ok (.getfield 93, 3) := by decide +kernel
theorem dX5_ifStatement_163 : decode cX5_ifStatement 163 = .ok (.iconst 3, 1) := by decide +kernel
theorem dX5_ifStatement_164 : decode cX5_ifStatement 164 = .ok (.iload_n 1, 1) := by decide +kernel
theorem dX5_ifStatement_165 : decode cX5_ifStatement 165 = .ok (.invokevirtual 66, 3) := by decide +kernel
theorem dX5_ifStatement_168 : decode cX5_ifStatement 168 = .ok (.istore_n 1, 1) := by decide +kernel
theorem dX5_ifStatement_169 : decode cX5_ifStatement 169 = .ok (.aload_n 0, 1) := by decide +kernel
theorem dX5_ifStatement_170 : decode cX5_ifStatement 170 = .ok (.getfield 93, 3) := by decide +kernel
theorem dX5_ifStatement_173 : decode cX5_ifStatement 173 = .ok (.iload_n 2, 1) := by decide +kernel
theorem dX5_ifStatement_174 : decode cX5_ifStatement 174 = .ok (.aload_n 0, 1) := by decide +kernel
theorem dX5_ifStatement_175 : decode cX5_ifStatement 175 = .ok (.getfield 93, 3) := by decide +kernel
theorem dX5_ifStatement_178 : decode cX5_ifStatement 178 = .ok (.getfield 50, 3) := by decide +kernel
theorem dX5_ifStatement_181 : decode cX5_ifStatement 181 = .ok (.invokevirtual 240, 3) := by decide +kernel
theorem dX5_ifStatement_184 : decode cX5_ifStatement 184 = .ok (.iconst (-1), 1) := by decide +kernel
theorem dX5_ifStatement_185 : decode cX5_ifStatement 185 = .ok (.istore_n 2, 1) := by decide +kernel
theorem dX5_ifStatement_186 : decode cX5_ifStatement 186 = .ok (.aload_n 0, 1) := by decide +kernel
theorem dX5_ifStatement_187 : decode cX5_ifStatement 187 = .ok (.getfield 18, 3) := by decide +kernel
theorem dX5_ifStatement_190 : decode cX5_ifStatement 190 = .ok (.invokevirtual 30, 3) := by decide +kernel
theorem dX5_ifStatement_193 : decode cX5_ifStatement 193 = .ok (.aload_n 0, 1) := by decide +kernel
theorem dX5_ifStatement_194 : decode cX5_ifStatement 194 = .ok (.invokevirtual 58, 3) := by decide +kernel
theorem dX5_ifStatement_197 : decode cX5_ifStatement 197 = .ok (.aload_n 0, 1) := by decide +kernel
theorem dX5_ifStatement_198 : decode cX5_ifStatement 198 = .ok (.bipush 38, 2) := by decide +kernel
theorem dX5_ifStatement_200 : decode cX5_ifStatement 200 = .ok (.invokevirtual 186, 3) := by decide +kernel
theorem dX5_ifStatement_203 : decode cX5_ifStatement 203 = .ok (.iload_n 2, 1) := by decide +kernel
theorem dX5_ifStatement_204 : decode cX5_ifStatement 204 = .ok (.iconst (-1), 1) := by decide +kernel
theorem dX5_ifStatement_205 : decode cX5_ifStatement 205 = .ok (.if_icmp .eq 18, 3) := by decide +kernel
theorem dX5_ifStatement_208 : decode cX5_ifStatement 208 = .ok (.aload_n 0, 1) := by decide +kernel
theorem dX5_ifStatement_209 : decode cX5_ifStatement 209 = .ok (.getfield 93, 3) := by decide +kernel
theorem dX5_ifStatement_212 : decode cX5_ifStatement 212 = .ok (.iload_n 2, 1) := by decide +kernel
theorem dX5_ifStatement_213 : decode cX5_ifStatement 213 = .ok (.aload_n 0, 1) := by decide +kernel
theorem dX5_ifStatement_214 : decode cX5_ifStatement 214 = .ok (.getfield 93, 3) := by decide +kernel
theorem dX5_ifStatement_217 : decode cX5_ifStatement 217 = .ok (.getfield 50, 3) := by decide +kernel
theorem dX5_ifStatement_220 : decode cX5_ifStatement 220 = .ok (.invokevirtual 240, 3) := by decide +kernel
theorem dX5_ifStatement_223 : decode cX5_ifStatement 223 = .ok (.aload_n 0, 1) := by decide +kernel
theorem dX5_ifStatement_224 : decode cX5_ifStatement 224 = .ok (.iload_n 1, 1) := by decide +kernel
theorem dX5_ifStatement_225 : decode cX5_ifStatement 225 = .ok (.invokevirtual 249, 3) := by decide +kernel
theorem dX5_ifStatement_228 : decode cX5_ifStatement 228 = .ok (.return_, 1) := by decide +kernel
theorem dX5_iterNames_0 : decode cX5_iterNames 0 = .ok (.iload_n 2, 1) := by decide +kernel
theorem dX5_iterNames_1 : decode cX5_iterNames 1 = .ok (.ifCond .eq 7, 3) := by decide +kernel
theorem dX5_iterNames_4 : decode cX5_iterNames 4 = .ok (.aload_n 0, 1) := by decide +kernel
theorem dX5_iterNames_5 : decode cX5_iterNames 5 = .ok (.invokevirtual 173, 3) := by decide +kernel
theorem dX5_iterNames_8 : decode cX5_iterNames 8 = .ok (.iconst 1, 1) := by decide +kernel
theorem dX5_iterNames_9 : decode cX5_iterNames 9 = .ok (.istore 4, 2) := by decide +kernel
theorem dX5_iterNames_11 : decode cX5_iterNames 11 = .ok (.iconst 0, 1) := by decide +kernel
theorem dX5_iterNames_12 : decode cX5_iterNames 12 = .ok (.istore 5, 2) := by decide +kernel
theorem dX5_iterNames_14 : decode cX5_iterNames 14 = .ok (.iload 5, 2) := by decide +kernel
theorem dX5_iterNames_16 : decode cX5_iterNames 16 = .ok (.bipush 60, 2) := by decide +kernel
theorem dX5_iterNames_18 : decode cX5_iterNames 18 = .ok (.if_icmp .gt 168, 3) := by decide +kernel
theorem dX5_iterNames_21 : decode cX5_iterNames 21 = .ok (.iload 4, 2) := by decide +kernel
theorem dX5_iterNames_23 : decode cX5_iterNames 23 = .ok (.ifCond .eq 163, 3) := by decide +kernel
theorem dX5_iterNames_26 : decode cX5_iterNames 26 = .ok (.aload_n 0, 1) := by decide +kernel
theorem dX5_iterNames_27 : decode cX5_iterNames 27 = .ok (.iload_n 1, 1) := by decide +kernel
theorem dX5_iterNames_28 : decode cX5_iterNames 28 = .ok (.invokevirtual 144, 3) := by decide +kernel
theorem dX5_iterNames_31 : decode cX5_iterNames 31 = .ok (.aload_n 0, 1) := by decide +kernel
theorem dX5_iterNames_32 : decode cX5_iterNames 32 = .ok (.getfield 93, 3) := by decide +kernel
theorem dX5_iterNames_35 : decode cX5_iterNames 35 = .ok (.getfield 147, 3) := by decide +kernel
theorem dX5_iterNames_38 : decode cX5_iterNames 38 = .ok (.aload_n 0, 1) := by decide +kernel
theorem dX5_iterNames_39 : decode cX5_iterNames 39 = .ok (.getfield 97, 3) := by decide +kernel
theorem dX5_iterNames_42 : decode cX5_iterNames 42 = .ok (.dup2, 1) := by decide +kernel
theorem dX5_iterNames_43 : decode cX5_iterNames 43 = .ok (.iaload, 1) := by decide +kernel
theorem dX5_iterNames_44 : decode cX5_iterNames 44 = .ok (.iload_n 3, 1) := by decide +kernel
theorem dX5_iterNames_45 : decode cX5_iterNames 45 = .ok (.ifCond .eq 7, 3) := by decide +kernel
theorem dX5_iterNames_48 : decode cX5_iterNames 48 = .ok (.iconst 1, 1) := by decide +kernel
theorem dX5_iterNames_49 : decode cX5_iterNames 49 = .ok (.goto 4, 3) := by decide +kernel
theorem dX5_iterNames_52 : decode cX5_iterNames 52 = .ok (.iconst 0, 1) := by decide +kernel
theorem dX5_iterNames_53 : decode cX5_iterNames 53 = .ok (.iadd, 1) := by decide +kernel
theorem dX5_iterNames_54 : decode cX5_iterNames 54 = .ok (.iastore, 1) := by decide +kernel
theorem dX5_iterNames_55 : decode cX5_iterNames 55 = .ok (.iload_n 3, 1) := by decide +kernel
theorem dX5_iterNames_56 : decode cX5_iterNames 56 = .ok (.ifCond .eq 18, 3) := by decide +kernel
theorem dX5_iterNames_59 : decode cX5_iterNames 59 = .ok (.aload_n 0, 1) := by decide +kernel
theorem dX5_iterNames_60 : decode cX5_iterNames 60 = .ok (.getfield 93, 3) := by decide +kernel
theorem dX5_iterNames_63 : decode cX5_iterNames 63 = .ok (.aload_n 0, 1) := by decide +kernel
theorem dX5_iterNames_64 : decode cX5_iterNames 64 = .ok (.getfield 97, 3) := by decide +kernel
theorem dX5_iterNames_67 : decode cX5_iterNames 67 = .ok (.iconst 1, 1) := by decide +kernel
theorem dX5_iterNames_68 : decode cX5_iterNames 68 = .ok (.invokevirtual 157, 3) := by decide +kernel
theorem dX5_iterNames_71 : decode cX5_iterNames 71 = .ok (.goto 11, 3) := by decide +kernel
theorem dX5_iterNames_74 : decode cX5_iterNames 74 = .ok (.aload_n 0, 1) := by decide +kernel
theorem dX5_iterNames_75 : decode cX5_iterNames 75 = .ok (.getfield 93, 3) := by decide +kernel
theorem dX5_iterNames_78 : decode cX5_iterNames 78 = .ok (.iconst 1, 1) := by decide +kernel
theorem dX5_iterNames_79 : decode cX5_iterNames 79 = .ok (.invokevirtual 454, 3) := by decide +kernel
theorem dX5_iterNames_82 : decode cX5_iterNames 82 = .ok (.istore 6, 2) := by decide +kernel
theorem dX5_iterNames_84 : decode cX5_iterNames 84 = .ok (.aload_n 0, 1) := by decide +kernel
theorem dX5_iterNames_85 : decode cX5_iterNames 85 = .ok (.getfield 93, 3) := by decide +kernel
theorem dX5_iterNames_88 : decode cX5_iterNames 88 = .ok (.aload_n 0, 1) := by decide +kernel
theorem dX5_iterNames_89 : decode cX5_iterNames 89 = .ok (.getfield 18, 3) := by decide +kernel
theorem dX5_iterNames_92 : decode cX5_iterNames 92 = .ok (.getfield 150, 3) := by decide +kernel
theorem dX5_iterNames_95 : decode cX5_iterNames 95 = .ok (.aload_n 0, 1) := by decide +kernel
theorem dX5_iterNames_96 : decode cX5_iterNames 96 = .ok (.getfield 18, 3) := by decide +kernel
theorem dX5_iterNames_99 : decode cX5_iterNames 99 = .ok (.getfield 154, 3) := by decide +kernel
theorem dX5_iterNames_102 : decode cX5_iterNames 102 = .ok (.iload_n 3, 1) := by decide +kernel
theorem dX5_iterNames_103 : decode cX5_iterNames 103 = .ok (.ifCond .eq 7, 3) := by decide +kernel
theorem dX5_iterNames_106 : decode cX5_iterNames 106 = .ok (.iconst 0, 1) := by decide +kernel
theorem dX5_iterNames_107 : decode cX5_iterNames 107 = .ok (.goto 4, 3) := by decide +kernel
theorem dX5_iterNames_110 : decode cX5_iterNames 110 = .ok (.iconst 3, 1) := by decide +kernel
theorem dX5_iterNames_111 : decode cX5_iterNames 111 = .ok (.aload_n 0, 1) := by decide +kernel
theorem dX5_iterNames_112 : decode cX5_iterNames 112 = .ok (.getfield 97, 3) := by decide +kernel
theorem dX5_iterNames_115 : decode cX5_iterNames 115 = .ok (.iload 6, 2) := by decide +kernel
theorem dX5_iterNames_117 : decode cX5_iterNames 117 = .ok (.invokevirtual 160, 3) := by decide +kernel
theorem dX5_iterNames_120 : decode cX5_iterNames 120 = .ok (.aload_n 0, 1) := by decide +kernel
theorem dX5_iterNames_121 : decode cX5_iterNames 121 = .ok (.getfield 93, 3) := by decide +kernel
theorem dX5_iterNames_124 : decode cX5_iterNames 124 = .ok (.getfield 461, 3) := by decide +kernel
theorem dX5_iterNames_127 : decode cX5_iterNames 127 = .ok (.aload_n 0, 1) := by decide +kernel
theorem dX5_iterNames_128 : decode cX5_iterNames 128 = .ok (.getfield 93, 3) := by decide +kernel
theorem dX5_iterNames_131 : decode cX5_iterNames 131 = .ok (.getfield 84, 3) := by decide +kernel
theorem dX5_iterNames_134 : decode cX5_iterNames 134 = .ok (.iconst 1, 1) := by decide +kernel
theorem dX5_iterNames_135 : decode cX5_iterNames 135 = .ok (.isub, 1) := by decide +kernel
theorem dX5_iterNames_136 : decode cX5_iterNames 136 = .ok (.iconst 1, 1) := by decide +kernel
theorem dX5_iterNames_137 : decode cX5_iterNames 137 = .ok (.bastore, 1) := by decide +kernel
theorem dX5_iterNames_138 : decode cX5_iterNames 138 = .ok (.aload_n 0, 1) := by decide +kernel
theorem dX5_iterNames_139 : decode cX5_iterNames 139 = .ok (.getfield 18, 3) := by decide +kernel
theorem dX5_iterNames_142 : decode cX5_iterNames 142 = .ok (.invokevirtual 30, 3) := by decide +kernel
theorem dX5_iterNames_145 : decode cX5_iterNames 145 = .ok (.iload_n 2, 1) := by decide +kernel
theorem dX5_iterNames_146 : decode cX5_iterNames 146 = .ok (.ifCond .eq 19, 3) := by decide +kernel
theorem dX5_iterNames_149 : decode cX5_iterNames 149 = .ok (.aload_n 0, 1) := by decide +kernel
theorem dX5_iterNames_150 : decode cX5_iterNames 150 = .ok (.getfield 18, 3) := by decide +kernel
theorem dX5_iterNames_153 : decode cX5_iterNames 153 = .ok (.getfield 36, 3) := by decide +kernel
theorem dX5_iterNames_156 : decode cX5_iterNames 156 = .ok (.bipush 16, 2) := by decide +kernel
theorem dX5_iterNames_158 : decode cX5_iterNames 158 = .ok (.if_icmp .ne 7, 3) := by decide +kernel
theorem dX5_iterNames_161 : decode cX5_iterNames 161 = .ok (.iconst 1, 1) := by decide +kernel
theorem dX5_iterNames_162 : decode cX5_iterNames 162 = .ok (.goto 4, 3) := by decide +kernel
theorem dX5_iterNames_165 : decode cX5_iterNames 165 = .ok (.iconst 0, 1) := by decide +kernel
theorem dX5_iterNames_166 : decode cX5_iterNames 166 = .ok (.istore 4, 2) := by decide +kernel
theorem dX5_iterNames_168 : decode cX5_iterNames 168 = .ok (.iload 4, 2) := by decide +kernel
theorem dX5_iterNames_170 : decode cX5_iterNames 170 = .ok (.ifCond .eq 10, 3) := by decide +kernel
theorem dX5_iterNames_173 : decode cX5_iterNames 173 = .ok (.aload_n 0, 1) := by decide +kernel
theorem dX5_iterNames_174 : decode cX5_iterNames 174 = .ok (.getfield 18, 3) := by decide +kernel
theorem dX5_iterNames_177 : decode cX5_iterNames 177 = .ok (.invokevirtual 30, 3) := by decide +kernel
theorem dX5_iterNames_180 : decode cX5_iterNames 180 = .ok (.iinc 5 1, 3) := by decide +kernel
theorem dX5_iterNames_183 : decode cX5_iterNames 183 = .ok (.goto (-169), 3) := by decide +kernel
theorem dX5_iterNames_186 : decode cX5_iterNames 186 = .ok (.iload_n 2, 1) := by decide +kernel
theorem dX5_iterNames_187 : decode cX5_iterNames 187 = .ok (.ifCond .eq 9, 3) := by decide +kernel
theorem dX5_iterNames_190 : decode cX5_iterNames 190 = .ok (.aload_n 0, 1) := by decide +kernel
theorem dX5_iterNames_191 : decode cX5_iterNames 191 = .ok (.bipush 15, 2) := by decide +kernel
theorem dX5_iterNames_193 : decode cX5_iterNames 193 = .ok (.invokevirtual 186, 3) := by decide +kernel
theorem dX5_iterNames_196 : decode cX5_iterNames 196 = .ok (.return_, 1) := by decide +kernel
theorem dX5_iterStore_0 : decode cX5_iterStore 0 = .ok (.iload_n 2, 1) := by decide +kernel
theorem dX5_iterStore_1 : decode cX5_iterStore 1 = .ok (.ifCond .ne 26, 3) := by decide +kernel
theorem dX5_iterStore_4 : decode cX5_iterStore 4 = .ok (.aload_n 0, 1) := by decide +kernel
theorem dX5_iterStore_5 : decode cX5_iterStore 5 = .ok (.getfield 93, 3) := by decide +kernel
theorem dX5_iterStore_8 : decode cX5_iterStore 8 = .ok (.iload_n 3, 1) := by decide +kernel
theorem dX5_iterStore_9 : decode cX5_iterStore 9 = .ok (.ifCond .eq 8, 3) := by decide +kernel
theorem dX5_iterStore_12 : decode cX5_iterStore 12 = .ok (.bipush 71, 2) := by decide +kernel
theorem dX5_iterStore_14 : decode cX5_iterStore 14 = .ok (.goto 5, 3) := by decide +kernel
theorem dX5_iterStore_17 : decode cX5_iterStore 17 = .ok (.bipush 66, 2) := by decide +kernel
theorem dX5_iterStore_19 : decode cX5_iterStore 19 = .ok (.iload_n 1, 1) := by decide +kernel
theorem dX5_iterStore_20 : decode cX5_iterStore 20 = .ok (.invokevirtual 66, 3) := by decide +kernel
theorem dX5_iterStore_23 : decode cX5_iterStore 23 = .ok (.pop, 1) := by decide +kernel
theorem dX5_iterStore_24 : decode cX5_iterStore 24 = .ok (.goto 32, 3) := by decide +kernel
theorem dX5_iterStore_27 : decode cX5_iterStore 27 = .ok (.aload_n 0, 1) := by decide +kernel
theorem dX5_iterStore_28 : decode cX5_iterStore 28 = .ok (.getfield 93, 3) := by decide +kernel
theorem dX5_iterStore_31 : decode cX5_iterStore 31 = .ok (.iload_n 3, 1) := by decide +kernel
theorem dX5_iterStore_32 : decode cX5_iterStore 32 = .ok (.ifCond .eq 8, 3) := by decide +kernel
theorem dX5_iterStore_35 : decode cX5_iterStore 35 = .ok (.bipush 72, 2) := by decide +kernel
theorem dX5_iterStore_37 : decode cX5_iterStore 37 = .ok (.goto 5, 3) := by decide +kernel
theorem dX5_iterStore_40 : decode cX5_iterStore 40 = .ok (.bipush 67, 2) := by decide +kernel
theorem dX5_iterStore_42 : decode cX5_iterStore 42 = .ok (.iload_n 1, 1) := by decide +kernel
theorem dX5_iterStore_43 : decode cX5_iterStore 43 = .ok (.invokevirtual 66, 3) := by decide +kernel
theorem dX5_iterStore_46 : decode cX5_iterStore 46 = .ok (.pop, 1) := by decide +kernel
theorem dX5_iterStore_47 : decode cX5_iterStore 47 = .ok (.aload_n 0, 1) := by decide +kernel
theorem dX5_iterStore_48 : decode cX5_iterStore 48 = .ok (.getfield 93, 3) := by decide +kernel
theorem dX5_iterStore_51 : decode cX5_iterStore 51 = .ok (.iload_n 2, 1) := by decide +kernel
theorem dX5_iterStore_52 : decode cX5_iterStore 52 = .ok (.invokevirtual 243, 3) := by decide +kernel
theorem dX5_iterStore_55 : decode cX5_iterStore 55 = .ok (.pop, 1) := by decide +kernel
theorem dX5_iterStore_56 : decode cX5_iterStore 56 = .ok (.return_, 1) := by decide +kernel
theorem dX5_iters_0 : decode cX5_iters 0 = .ok (.aload_n 0, 1) := by decide +kernel
theorem dX5_iters_1 : decode cX5_iters 1 = .ok (.getfield 93, 3) := by decide +kernel
theorem dX5_iters_4 : decode cX5_iters 4 = .ok (.getfield 84, 3) := by decide +kernel
theorem dX5_iters_7 : decode cX5_iters 7 = .ok (.istore_n 2, 1) := by decide +kernel
theorem dX5_iters_8 : decode cX5_iters 8 = .ok (.iconst (-1), 1) := by decide +kernel
theorem dX5_iters_9 : decode cX5_iters 9 = .ok (.istore_n 3, 1) := by decide +kernel
theorem dX5_iters_10 : decode cX5_iters 10 = .ok (.iconst (-1), 1) := by decide +kernel
theorem dX5_iters_11 : decode cX5_iters 11 = .ok (.istore 4, 2) := by decide +kernel
theorem dX5_iters_13 : decode cX5_iters 13 = .ok (.iconst 1, 1) := by decide +kernel
theorem dX5_iters_14 : decode cX5_iters 14 = .ok (.istore 5, 2) := by decide +kernel
theorem dX5_iters_16 : decode cX5_iters 16 = .ok (.iconst 0, 1) := by decide +kernel
theorem dX5_iters_17 : decode cX5_iters 17 = .ok (.istore 6, 2) := by decide +kernel
theorem dX5_iters_19 : decode cX5_iters 19 = .ok (.iload 6, 2) := by decide +kernel
theorem dX5_iters_21 : decode cX5_iters 21 = .ok (.ldc 35, 2) := by decide +kernel
theorem dX5_iters_23 : decode cX5_iters 23 = .ok (.if_icmp .gt 309, 3) := by decide +kernel
theorem dX5_iters_26 : decode cX5_iters 26 = .ok (.iload 5, 2) := by decide +kernel
theorem dX5_iters_28 : decode cX5_iters 28 = .ok (.ifCond .eq 304, 3) := by decide +kernel
theorem dX5_iters_31 : decode cX5_iters 31 = .ok (.aload_n 0, 1) := by decide +kernel
theorem dX5_iters_32 : decode cX5_iters 32 = .ok (.getfield 93, 3) := by decide +kernel
theorem dX5_iters_35 : decode cX5_iters 35 = .ok (.getfield 84, 3) := by decide +kernel
theorem dX5_iters_38 : decode cX5_iters 38 = .ok (.istore 7, 2) := by decide +kernel
theorem dX5_iters_40 : decode cX5_iters 40 = .ok (.iload_n 1, 1) := by decide +kernel
theorem dX5_iters_41 : decode cX5_iters 41 = .ok (.ifCond .eq 18, 3) := by decide +kernel
theorem dX5_iters_44 : decode cX5_iters 44 = .ok (.aload_n 0, 1) := by decide +kernel
theorem dX5_iters_45 : decode cX5_iters 45 = .ok (.getfield 93, 3) := by decide +kernel
theorem dX5_iters_48 : decode cX5_iters 48 = .ok (.getfield 255, 3) := by decide +kernel
theorem dX5_iters_51 : decode cX5_iters 51 = .ok (.aload_n 0, 1) := by decide +kernel
theorem dX5_iters_52 : decode cX5_iters 52 = .ok (.getfield 97, 3) := by decide +kernel
theorem dX5_iters_55 : decode cX5_iters 55 = .ok (.iaload, 1) := by decide +kernel
theorem dX5_iters_56 : decode cX5_iters 56 = .ok (.goto 10, 3) := by decide +kernel
theorem dX5_iters_59 : decode cX5_iters 59 = .ok (.aload_n 0, 1) := by decide +kernel
theorem dX5_iters_60 : decode cX5_iters 60 = .ok (.getfield 93, 3) := by decide +kernel
theorem dX5_iters_63 : decode cX5_iters 63 = .ok (.getfield 408, 3) := by decide +kernel
theorem dX5_iters_66 : decode cX5_iters 66 = .ok (.istore 8, 2) := by decide +kernel
theorem dX5_iters_68 : decode cX5_iters 68 = .ok (.aload_n 0, 1) := by decide +kernel
theorem dX5_iters_69 : decode cX5_iters 69 = .ok (.getfield 18, 3) := by decide +kernel
theorem dX5_iters_72 : decode cX5_iters 72 = .ok (.getfield 36, 3) := by decide +kernel
theorem dX5_iters_75 : decode cX5_iters 75 = .ok (.bipush 14, 2) := by decide +kernel
theorem dX5_iters_77 : decode cX5_iters 77 = .ok (.if_icmp .ne 7, 3) := by decide +kernel
theorem dX5_iters_80 : decode cX5_iters 80 = .ok (.iconst 1, 1) := by decide +kernel
theorem dX5_iters_81 : decode cX5_iters 81 = .ok (.goto 4, 3) := by decide +kernel
theorem dX5_iters_84 : decode cX5_iters 84 = .ok (.iconst 0, 1) := by decide +kernel
theorem dX5_iters_85 : decode cX5_iters 85 = .ok (.istore 9, 2) := by decide +kernel
theorem dX5_iters_87 : decode cX5_iters 87 = .ok (.aload_n 0, 1) := by decide +kernel
theorem dX5_iters_88 : decode cX5_iters 88 = .ok (.iload_n 2, 1) := by decide +kernel
theorem dX5_iters_89 : decode cX5_iters 89 = .ok (.iload 9, 2) := by decide +kernel
theorem dX5_iters_91 : decode cX5_iters 91 = .ok (.iload_n 1, 1) := by decide +kernel
theorem dX5_iters_92 : decode cX5_iters 92 = .ok (.invokevirtual 450, 3) := by decide +kernel
theorem dX5_iters_95 : decode cX5_iters 95 = .ok (.aload_n 0, 1) := by decide +kernel
theorem dX5_iters_96 : decode cX5_iters 96 = .ok (.getfield 93, 3) := by decide +kernel
theorem dX5_iters_99 : decode cX5_iters 99 = .ok (.getfield 84, 3) := by decide +kernel
theorem dX5_iters_102 : decode cX5_iters 102 = .ok (.iload 7, 2) := by decide +kernel
theorem dX5_iters_104 : decode cX5_iters 104 = .ok (.isub, 1) := by decide +kernel
theorem dX5_iters_105 : decode cX5_iters 105 = .ok (.istore 10, 2) := by decide +kernel
theorem dX5_iters_107 : decode cX5_iters 107 = .ok (.aload_n 0, 1) := by decide +kernel
theorem dX5_iters_108 : decode cX5_iters 108 = .ok (.bipush 46, 2) := by decide +kernel
theorem dX5_iters_110 : decode cX5_iters 110 = .ok (.invokevirtual 141, 3) := by decide +kernel
theorem dX5_iters_113 : decode cX5_iters 113 = .ok (.aload_n 0, 1) := by decide +kernel
theorem dX5_iters_114 : decode cX5_iters 114 = .ok (.iconst 4, 1) := by decide +kernel
theorem dX5_iters_115 : decode cX5_iters 115 = .ok (.invokevirtual 90, 3) := by decide +kernel
theorem dX5_iters_118 : decode cX5_iters 118 = .ok (.iload_n 1, 1) := by decide +kernel
theorem dX5_iters_119 : decode cX5_iters 119 = .ok (.ifCond .eq 18, 3) := by decide +kernel
theorem dX5_iters_122 : decode cX5_iters 122 = .ok (.aload_n 0, 1) := by decide +kernel
theorem dX5_iters_123 : decode cX5_iters 123 = .ok (.getfield 93, 3) := by decide +kernel
theorem dX5_iters_126 : decode cX5_iters 126 = .ok (.aload_n 0, 1) := by decide +kernel
theorem dX5_iters_127 : decode cX5_iters 127 = .ok (.getfield 97, 3) := by decide +kernel
theorem dX5_iters_130 : decode cX5_iters 130 = .ok (.iconst 2, 1) := by decide +kernel
theorem dX5_iters_131 : decode cX5_iters 131 = .ok (.invokevirtual 157, 3) := by decide +kernel
theorem dX5_iters_134 : decode cX5_iters 134 = .ok (.goto 11, 3) := by decide +kernel
theorem dX5_iters_137 : decode cX5_iters 137 = .ok (.aload_n 0, 1) := by decide +kernel
theorem dX5_iters_138 : decode cX5_iters 138 = .ok (.getfield 93, 3) := by decide +kernel
theorem dX5_iters_141 : decode cX5_iters 141 = .ok (.iconst 2, 1) := by decide +kernel
theorem dX5_iters_142 : decode cX5_iters 142 = .ok (.invokevirtual 454, 3) := by decide +kernel
theorem dX5_iters_145 : decode cX5_iters 145 = .ok (.istore 11, 2) := by decide +kernel
theorem dX5_iters_147 : decode cX5_iters 147 = .ok (.aload_n 0, 1) := by decide +kernel
theorem dX5_iters_148 : decode cX5_iters 148 = .ok (.getfield 93, 3) := by decide +kernel
theorem dX5_iters_151 : decode cX5_iters 151 = .ok (.iload_n 1, 1) := by decide +kernel
theorem dX5_iters_152 : decode cX5_iters 152 = .ok (.ifCond .eq 8, 3) := by decide +kernel
theorem dX5_iters_155 : decode cX5_iters 155 = .ok (.bipush 69, 2) := by decide +kernel
theorem dX5_iters_157 : decode cX5_iters 157 = .ok (.goto 5, 3) := by decide +kernel
theorem dX5_iters_160 : decode cX5_iters 160 = .ok (.bipush 64, 2) := by decide +kernel
theorem dX5_iters_162 : decode cX5_iters 162 = .ok (.iload 11, 2) := by decide +kernel
theorem dX5_iters_164 : decode cX5_iters 164 = .ok (.invokevirtual 66, 3) := by decide +kernel
theorem dX5_iters_167 : decode cX5_iters 167 = .ok (.pop, 1) := by decide +kernel
theorem dX5_iters_168 : decode cX5_iters 168 = .ok (.aload_n 0, 1) := by decide +kernel
theorem dX5_iters_169 : decode cX5_iters 169 = .ok (.getfield 93, 3) := by decide +kernel
theorem dX5_iters_172 : decode cX5_iters 172 = .ok (.iload_n 1, 1) := by decide +kernel
theorem dX5_iters_173 : decode cX5_iters 173 = .ok (.ifCond .eq 8, 3) := by decide +kernel
theorem dX5_iters_176 : decode cX5_iters 176 = .ok (.bipush 70, 2) := by decide +kernel
theorem dX5_iters_178 : decode cX5_iters 178 = .ok (.goto 5, 3) := by decide +kernel
theorem dX5_iters_181 : decode cX5_iters 181 = .ok (.bipush 65, 2) := by decide +kernel
theorem dX5_iters_183 : decode cX5_iters 183 = .ok (.iload 11, 2) := by decide +kernel
theorem dX5_iters_185 : decode cX5_iters 185 = .ok (.invokevirtual 66, 3) := by decide +kernel
theorem dX5_iters_188 : decode cX5_iters 188 = .ok (.istore 12, 2) := by decide +kernel
theorem dX5_iters_190 : decode cX5_iters 190 = .ok (.aload_n 0, 1) := by decide +kernel
theorem dX5_iters_191 : decode cX5_iters 191 = .ok (.getfield 93, 3) := by decide +kernel
theorem dX5_iters_194 : decode cX5_iters 194 = .ok (.iload 4, 2) := by decide +kernel
theorem dX5_iters_196 : decode cX5_iters 196 = .ok (.iload 12, 2) := by decide +kernel
theorem dX5_iters_198 : decode cX5_iters 198 = .ok (.isub, 1) := by decide +kernel
theorem dX5_iters_199 : decode cX5_iters 199 = .ok (.invokevirtual 243, 3) := by decide +kernel
theorem dX5_iters_202 : decode cX5_iters 202 = .ok (.pop, 1) := by decide +kernel
theorem dX5_iters_203 : decode cX5_iters 203 = .ok (.iload_n 3, 1) := by decide +kernel
theorem dX5_iters_204 : decode cX5_iters 204 = .ok (.iconst (-1), 1) := by decide +kernel
theorem dX5_iters_205 : decode cX5_iters 205 = .ok (.if_icmp .ne 8, 3) := by decide +kernel
theorem dX5_iters_208 : decode cX5_iters 208 = .ok (.iload 12, 2) := by decide +kernel
theorem dX5_iters_210 : decode cX5_iters 210 = .ok (.goto 4, 3) := by decide +kernel
theorem dX5_iters_213 : decode cX5_iters 213 = .ok (.iload_n 3, 1) := by decide +kernel
theorem dX5_iters_214 : decode cX5_iters 214 = .ok (.istore_n 3, 1) := by decide +kernel
theorem dX5_iters_215 : decode cX5_iters 215 = .ok (.iload 12, 2) := by decide +kernel
theorem dX5_iters_217 : decode cX5_iters 217 = .ok (.istore 4, 2) := by decide +kernel
theorem dX5_iters_219 : decode cX5_iters 219 = .ok (.aload_n 0, 1) := by decide +kernel
theorem dX5_iters_220 : decode cX5_iters 220 = .ok (.iload 8, 2) := by decide +kernel
theorem dX5_iters_222 : decode cX5_iters 222 = .ok (.iload 9, 2) := by decide +kernel
theorem dX5_iters_224 : decode cX5_iters 224 = .ok (.ifCond .eq 8, 3) := by decide +kernel
theorem dX5_iters_227 : decode cX5_iters 227 = .ok (.iload 10, 2) := by decide +kernel
theorem dX5_iters_229 : decode cX5_iters 229 = .ok (.goto 4, 3) := by decide +kernel
theorem dX5_iters_232 : decode cX5_iters 232 = .ok (.iconst 0, 1) := by decide +kernel
theorem dX5_iters_233 : decode cX5_iters 233 = .ok (.iload_n 1, 1) := by decide +kernel
theorem dX5_iters_234 : decode cX5_iters 234 = .ok (.invokevirtual 457, 3) := by decide +kernel
theorem dX5_iters_237 : decode cX5_iters 237 = .ok (.iload 7, 2) := by decide +kernel
theorem dX5_iters_239 : decode cX5_iters 239 = .ok (.istore 13, 2) := by decide +kernel
theorem dX5_iters_241 : decode cX5_iters 241 = .ok (.iload 13, 2) := by decide +kernel
theorem dX5_iters_243 : decode cX5_iters 243 = .ok (.aload_n 0, 1) := by decide +kernel
theorem dX5_iters_244 : decode cX5_iters 244 = .ok (.getfield 93, 3) := by decide +kernel
theorem dX5_iters_247 : decode cX5_iters 247 = .ok (.getfield 84, 3) := by decide +kernel
theorem dX5_iters_250 : decode cX5_iters 250 = .ok (.if_icmp .ge 20, 3) := by decide +kernel
theorem dX5_iters_253 : decode cX5_iters 253 = .ok (.aload_n 0, 1) := by decide +kernel
theorem dX5_iters_254 : decode cX5_iters 254 = .ok (.getfield 93, 3) := by decide +kernel
theorem dX5_iters_257 : decode cX5_iters 257 = .ok (.getfield 461, 3) := by decide +kernel
theorem dX5_iters_260 : decode cX5_iters 260 = .ok (.iload 13, 2) := by decide +kernel
theorem dX5_iters_262 : decode cX5_iters 262 = .ok (.iconst 0, 1) := by decide +kernel
theorem dX5_iters_263 : decode cX5_iters 263 = .ok (.bastore, 1) := by decide +kernel
theorem dX5_iters_264 : decode cX5_iters 264 = .ok (.iinc 13 1, 3) := by decide +kernel
theorem dX5_iters_267 : decode cX5_iters 267 = .ok (.goto (-26), 3) := by decide +kernel
theorem dX5_iters_270 : decode cX5_iters 270 = .ok (.iload_n 1, 1) := by decide +kernel
theorem dX5_iters_271 : decode cX5_iters 271 = .ok (.ifCond .eq 24, 3) := by decide +kernel
theorem dX5_iters_274 : decode cX5_iters 274 = .ok (.aload_n 0, 1) := by decide +kernel
theorem dX5_iters_275 : decode cX5_iters 275 = .ok (.iload 11, 2) := by decide +kernel
theorem dX5_iters_277 : decode cX5_iters 277 = .ok (.invokevirtual 303, 3) := by decide +kernel
theorem dX5_iters_280 : decode cX5_iters 280 = .ok (.pop, 1) := by decide +kernel
theorem dX5_iters_281 : decode cX5_iters 281 = .ok (.aload_n 0, 1) := by decide +kernel
theorem dX5_iters_282 : decode cX5_iters 282 = .ok (.iload 8, 2) := by decide +kernel
theorem dX5_iters_284 : decode cX5_iters 284 = .ok (.invokevirtual 303, 3) := by decide +kernel
theorem dX5_iters_287 : decode cX5_iters 287 = .ok (.pop, 1) := by decide +kernel
theorem dX5_iters_288 : decode cX5_iters 288 = .ok (.aload_n 0, 1) := by decide +kernel
theorem dX5_iters_289 : decode cX5_iters 289 = .ok (.iload 10, 2) := by decide +kernel
theorem dX5_iters_291 : decode cX5_iters 291 = .ok (.invokevirtual 303, 3) := by decide +kernel
theorem dX5_iters_294 : decode cX5_iters 294 = .ok (.pop, 1) := by decide +kernel
theorem dX5_iters_295 : decode cX5_iters 295 = .ok (.aload_n 0, 1) := by decide +kernel
theorem dX5_iters_296 : decode cX5_iters 296 = .ok (.getfield 18, 3) := by decide +kernel
theorem dX5_iters_299 : decode cX5_iters 299 = .ok (.getfield 36, 3) := by decide +kernel
theorem dX5_iters_302 : decode cX5_iters 302 = .ok (.bipush 16, 2) := by decide +kernel
theorem dX5_iters_304 : decode cX5_iters 304 = .ok (.if_icmp .ne 7, 3) := by decide +kernel
theorem dX5_iters_307 : decode cX5_iters 307 = .ok (.iconst 1, 1) := by decide +kernel
theorem dX5_iters_308 : decode cX5_iters 308 = .ok (.goto 4, 3) := by decide +kernel
theorem dX5_iters_311 : decode cX5_iters 311 = .ok (.iconst 0, 1) := by decide +kernel
theorem dX5_iters_312 : decode cX5_iters 312 = .ok (.istore 5, 2) := by decide +kernel
theorem dX5_iters_314 : decode cX5_iters 314 = .ok (.iload 5, 2) := by decide +kernel
theorem dX5_iters_316 : decode cX5_iters 316 = .ok (.ifCond .eq 10, 3) := by decide +kernel
theorem dX5_iters_319 : decode cX5_iters 319 = .ok (.aload_n 0, 1) := by decide +kernel
theorem dX5_iters_320 : decode cX5_iters 320 = .ok (.getfield 18, 3) := by decide +kernel
theorem dX5_iters_323 : decode cX5_iters 323 = .ok (.invokevirtual 30, 3) := by decide +kernel
theorem dX5_iters_326 : decode cX5_iters 326 = .ok (.iinc 6 1, 3) := by decide +kernel
theorem dX5_iters_329 : decode cX5_iters 329 = .ok (.goto (-310), 3) := by decide +kernel
theorem dX5_iters_332 : decode cX5_iters 332 = .ok (.aload_n 0, 1) := by decide +kernel
theorem dX5_iters_333 : decode cX5_iters 333 = .ok (.iload_n 3, 1) := by decide +kernel
theorem dX5_iters_334 : decode cX5_iters 334 = .ok (.putfield 262, 3) := by decide +kernel
theorem dX5_iters_337 : decode cX5_iters 337 = .ok (.aload_n 0, 1) := by decide +kernel
theorem dX5_iters_338 : decode cX5_iters 338 = .ok (.iload 4, 2) := by decide +kernel
theorem dX5_iters_340 : decode cX5_iters 340 = .ok (.putfield 265, 3) := by decide +kernel
theorem dX5_iters_343 : decode cX5_iters 343 = .ok (.return_, 1) := by decide +kernel
theorem dX5_keep_0 : decode cX5_keep 0 = .ok (.aload_n 0, 1) := by decide +kernel
theorem dX5_keep_1 : decode cX5_keep 1 = .ok (.aload_n 0, 1) := by decide +kernel
theorem dX5_keep_2 : decode cX5_keep 2 = .ok (.getfield 15, 3) := by decide +kernel
theorem dX5_keep_5 : decode cX5_keep 5 = .ok (.aload_n 0, 1) := by decide +kernel
theorem dX5_keep_6 : decode cX5_keep 6 = .ok (.getfield 115, 3) := by decide +kernel
theorem dX5_keep_9 : decode cX5_keep 9 = .ok (.iload_n 3, 1) := by decide +kernel
theorem dX5_keep_10 : decode cX5_keep 10 = .ok (.iadd, 1) := by decide +kernel
theorem dX5_keep_11 : decode cX5_keep 11 = .ok (.sipush 16384, 3) := by decide +kernel
theorem dX5_keep_14 : decode cX5_keep 14 = .ok (.invokestatic 325, 3) := by decide +kernel
theorem dX5_keep_17 : decode cX5_keep 17 = .ok (.putfield 15, 3) := by decide +kernel
theorem dX5_keep_20 : decode cX5_keep 20 = .ok (.aload_n 0, 1) := by decide +kernel
theorem dX5_keep_21 : decode cX5_keep 21 = .ok (.getfield 115, 3) := by decide +kernel
theorem dX5_keep_24 : decode cX5_keep 24 = .ok (.iload_n 3, 1) := by decide +kernel
theorem dX5_keep_25 : decode cX5_keep 25 = .ok (.iadd, 1) := by decide +kernel
theorem dX5_keep_26 : decode cX5_keep 26 = .ok (.aload_n 0, 1) := by decide +kernel
theorem dX5_keep_27 : decode cX5_keep 27 = .ok (.getfield 15, 3) := by decide +kernel
theorem dX5_keep_30 : decode cX5_keep 30 = .ok (.arraylength, 1) := by decide +kernel
theorem dX5_keep_31 : decode cX5_keep 31 = .ok (.if_icmp .le 11, 3) := by decide +kernel
theorem dX5_keep_34 : decode cX5_keep 34 = .ok (.new 70, 3) := by decide +kernel
theorem dX5_keep_37 : decode cX5_keep 37 = .ok (.dup, 1) := by decide +kernel
theorem dX5_keep_38 : decode cX5_keep 38 = .ok (.invokespecial 124, 3) := by decide +kernel
theorem dX5_keep_41 : decode cX5_keep 41 = .ok (.athrow, 1) := by decide +kernel
theorem dX5_keep_42 : decode cX5_keep 42 = .ok (.aload_n 1, 1) := by decide +kernel
theorem dX5_keep_43 : decode cX5_keep 43 = .ok (.iload_n 2, 1) := by decide +kernel
theorem dX5_keep_44 : decode cX5_keep 44 = .ok (.aload_n 0, 1) := by decide +kernel
theorem dX5_keep_45 : decode cX5_keep 45 = .ok (.getfield 15, 3) := by decide +kernel
theorem dX5_keep_48 : decode cX5_keep 48 = .ok (.aload_n 0, 1) := by decide +kernel
theorem dX5_keep_49 : decode cX5_keep 49 = .ok (.getfield 115, 3) := by decide +kernel
theorem dX5_keep_52 : decode cX5_keep 52 = .ok (.iload_n 3, 1) := by decide +kernel
theorem dX5_keep_53 : decode cX5_keep 53 = .ok (.invokestatic 329, 3) := by decide +kernel
theorem dX5_keep_56 : decode cX5_keep 56 = .ok (.aload_n 0, 1) := by decide +kernel
theorem dX5_keep_57 : decode cX5_keep 57 = .ok (.aload_n 0, 1) := by decide +kernel
theorem dX5_keep_58 : decode cX5_keep 58 = .ok (.getfield 115, 3) := by decide +kernel
theorem dX5_keep_61 : decode cX5_keep 61 = .ok (.iload_n 3, 1) := by decide +kernel
theorem dX5_keep_62 : decode cX5_keep 62 = .ok (.iadd, 1) := by decide +kernel
theorem dX5_keep_63 : decode cX5_keep 63 = .ok (.putfield 115, 3) := by decide +kernel
theorem dX5_keep_66 : decode cX5_keep 66 = .ok (.return_, 1) := by decide +kernel
theorem dX5_keepTarget_0 : decode cX5_keepTarget 0 = .ok (.aload_n 0, 1) := by decide +kernel
theorem dX5_keepTarget_1 : decode cX5_keepTarget 1 = .ok (.getfield 93, 3) := by decide +kernel
theorem dX5_keepTarget_4 : decode cX5_keepTarget 4 = .ok (.getfield 50, 3) := by decide +kernel
theorem dX5_keepTarget_7 : decode cX5_keepTarget 7 = .ok (.istore_n 2, 1) := by decide +kernel
theorem dX5_keepTarget_8 : decode cX5_keepTarget 8 = .ok (.iconst 0, 1) := by decide +kernel
theorem dX5_keepTarget_9 : decode cX5_keepTarget 9 = .ok (.istore_n 3, 1) := by decide +kernel
theorem dX5_keepTarget_10 : decode cX5_keepTarget 10 = .ok (.iconst 0, 1) := by decide +kernel
theorem dX5_keepTarget_11 : decode cX5_keepTarget 11 = .ok (.istore 4, 2) := by decide +kernel
theorem dX5_keepTarget_13 : decode cX5_keepTarget 13 = .ok (.iload 4, 2) := by decide +kernel
theorem dX5_keepTarget_15 : decode cX5_keepTarget 15 = .ok (.aload_n 0, 1) := by decide +kernel
theorem dX5_keepTarget_16 : decode cX5_keepTarget 16 = .ok (.getfield 347, 3) := by decide +kernel
theorem dX5_keepTarget_19 : decode cX5_keepTarget 19 = .ok (.if_icmp .ge 80, 3) := by decide +kernel
theorem dX5_keepTarget_22 : decode cX5_keepTarget 22 = .ok (.aload_n 0, 1) := by decide +kernel
theorem dX5_keepTarget_23 : decode cX5_keepTarget 23 = .ok (.getfield 350, 3) := by decide +kernel
theorem dX5_keepTarget_26 : decode cX5_keepTarget 26 = .ok (.iconst 3, 1) := by decide +kernel
theorem dX5_keepTarget_27 : decode cX5_keepTarget 27 = .ok (.iload 4, 2) := by decide +kernel
theorem dX5_keepTarget_29 : decode cX5_keepTarget 29 = .ok (.imul, 1) := by decide +kernel
theorem dX5_keepTarget_30 : decode cX5_keepTarget 30 = .ok (.iadd, 1) := by decide +kernel
theorem dX5_keepTarget_31 : decode cX5_keepTarget 31 = .ok (.istore 5, 2) := by decide +kernel
theorem dX5_keepTarget_33 : decode cX5_keepTarget 33 = .ok (.aload_n 0, 1) := by decide +kernel
theorem dX5_keepTarget_34 : decode cX5_keepTarget 34 = .ok (.getfield 93, 3) := by decide +kernel
theorem dX5_keepTarget_37 : decode cX5_keepTarget 37 = .ok (.aload_n 0, 1) := by decide +kernel
theorem dX5_keepTarget_38 : decode cX5_keepTarget 38 = .ok (.getfield 93, 3) := by decide +kernel
theorem dX5_keepTarget_41 : decode cX5_keepTarget 41 = .ok (.getfield 246, 3) := by decide +kernel
theorem dX5_keepTarget_44 : decode cX5_keepTarget 44 = .ok (.aload_n 0, 1) := by decide +kernel
theorem dX5_keepTarget_45 : decode cX5_keepTarget 45 = .ok (.getfield 9, 3) := by decide +kernel
theorem dX5_keepTarget_48 : decode cX5_keepTarget 48 = .ok (.iload 5, 2) := by decide +kernel
theorem dX5_keepTarget_50 : decode cX5_keepTarget 50 = .ok (.iaload, 1) := by decide +kernel
theorem dX5_keepTarget_51 : decode cX5_keepTarget 51 = .ok (.aload_n 0, 1) := by decide +kernel
theorem dX5_keepTarget_52 : decode cX5_keepTarget 52 = .ok (.getfield 9, 3) := by decide +kernel
theorem dX5_keepTarget_55 : decode cX5_keepTarget 55 = .ok (.iload 5, 2) := by decide +kernel
theorem dX5_keepTarget_57 : decode cX5_keepTarget 57 = .ok (.iconst 1, 1) := by decide +kernel
theorem dX5_keepTarget_58 : decode cX5_keepTarget 58 = .ok (.iadd, 1) := by decide +kernel
theorem dX5_keepTarget_59 : decode cX5_keepTarget 59 = .ok (.iaload, 1) := by decide +kernel
theorem dX5_keepTarget_60 : decode cX5_keepTarget 60 = .ok (.aload_n 0, 1) := by decide +kernel
theorem dX5_keepTarget_61 : decode cX5_keepTarget 61 = .ok (.getfield 9, 3) := by decide +kernel
theorem dX5_keepTarget_64 : decode cX5_keepTarget 64 = .ok (.iload 5, 2) := by decide +kernel
theorem dX5_keepTarget_66 : decode cX5_keepTarget 66 = .ok (.iaload, 1) := by decide +kernel
theorem dX5_keepTarget_67 : decode cX5_keepTarget 67 = .ok (.isub, 1) := by decide +kernel
theorem dX5_keepTarget_68 : decode cX5_keepTarget 68 = .ok (.invokevirtual 312, 3) := by decide +kernel
theorem dX5_keepTarget_71 : decode cX5_keepTarget 71 = .ok (.iload_n 3, 1) := by decide +kernel
theorem dX5_keepTarget_72 : decode cX5_keepTarget 72 = .ok (.aload_n 0, 1) := by decide +kernel
theorem dX5_keepTarget_73 : decode cX5_keepTarget 73 = .ok (.getfield 9, 3) := by decide +kernel
theorem dX5_keepTarget_76 : decode cX5_keepTarget 76 = .ok (.iload 5, 2) := by decide +kernel
theorem dX5_keepTarget_78 : decode cX5_keepTarget 78 = .ok (.iconst 2, 1) := by decide +kernel
theorem dX5_keepTarget_79 : decode cX5_keepTarget 79 = .ok (.iadd, 1) := by decide +kernel
theorem dX5_keepTarget_80 : decode cX5_keepTarget 80 = .ok (.iaload, 1) := by decide +kernel
theorem dX5_keepTarget_81 : decode cX5_keepTarget 81 = .ok (.bipush 97, 2) := by decide +kernel
theorem dX5_keepTarget_83 : decode cX5_keepTarget 83 = .ok (.if_icmp .ne 7, 3) := by decide +kernel
theorem dX5_keepTarget_86 : decode cX5_keepTarget 86 = .ok (.iconst 2, 1) := by decide +kernel
theorem dX5_keepTarget_87 : decode cX5_keepTarget 87 = .ok (.goto 4, 3) := by decide +kernel
theorem dX5_keepTarget_90 : decode cX5_keepTarget 90 = .ok (.iconst 1, 1) := by decide +kernel
theorem dX5_keepTarget_91 : decode cX5_keepTarget 91 = .ok (.iadd, 1) := by decide +kernel
theorem dX5_keepTarget_92 : decode cX5_keepTarget 92 = .ok (.istore_n 3, 1) := by decide +kernel
theorem dX5_keepTarget_93 : decode cX5_keepTarget 93 = .ok (.iinc 4 1, 3) := by decide +kernel
theorem dX5_keepTarget_96 : decode cX5_keepTarget 96 = .ok (.goto (-83), 3) := by decide +kernel
theorem dX5_keepTarget_99 : decode cX5_keepTarget 99 = .ok (.aload_n 0, 1) := by decide +kernel
theorem dX5_keepTarget_100 : decode cX5_keepTarget 100 = .ok (.getfield 93, 3) := by decide +kernel
theorem dX5_keepTarget_103 : decode cX5_keepTarget 103 = .ok (.bipush 38, 2) := by decide +kernel
theorem dX5_keepTarget_105 : decode cX5_keepTarget 105 = .ok (.iload_n 3, 1) := by decide +kernel
theorem dX5_keepTarget_106 : decode cX5_keepTarget 106 = .ok (.iload_n 1, 1) := by decide +kernel
theorem dX5_keepTarget_107 : decode cX5_keepTarget 107 = .ok (.iadd, 1) := by decide +kernel
theorem dX5_keepTarget_108 : decode cX5_keepTarget 108 = .ok (.invokevirtual 66, 3) := by decide +kernel
theorem dX5_keepTarget_111 : decode cX5_keepTarget 111 = .ok (.pop, 1) := by decide +kernel
theorem dX5_keepTarget_112 : decode cX5_keepTarget 112 = .ok (.aload_n 0, 1) := by decide +kernel
theorem dX5_keepTarget_113 : decode cX5_keepTarget 113 = .ok (.getfield 93, 3) := by decide +kernel
theorem dX5_keepTarget_116 : decode cX5_keepTarget 116 = .ok (.sipush 192, 3) := by decide +kernel
theorem dX5_keepTarget_119 : decode cX5_keepTarget 119 = .ok (.aload_n 0, 1) := by decide +kernel
theorem dX5_keepTarget_120 : decode cX5_keepTarget 120 = .ok (.getfield 93, 3) := by decide +kernel
theorem dX5_keepTarget_123 : decode cX5_keepTarget 123 = .ok (.getfield 306, 3) := by decide +kernel
theorem dX5_keepTarget_126 : decode cX5_keepTarget 126 = .ok (.aload_n 0, 1) := by decide +kernel
theorem dX5_keepTarget_127 : decode cX5_keepTarget 127 = .ok (.getfield 353, 3) := by decide +kernel
theorem dX5_keepTarget_130 : decode cX5_keepTarget 130 = .ok (.iaload, 1) := by decide +kernel
theorem dX5_keepTarget_131 : decode cX5_keepTarget 131 = .ok (.aload_n 0, 1) := by decide +kernel
theorem dX5_keepTarget_132 : decode cX5_keepTarget 132 = .ok (.getfield 97, 3) := by decide +kernel
theorem dX5_keepTarget_135 : decode cX5_keepTarget 135 = .ok (.if_icmp .ne 7, 3) := by decide +kernel
theorem dX5_keepTarget_138 : decode cX5_keepTarget 138 = .ok (.iconst 0, 1) := by decide +kernel
theorem dX5_keepTarget_139 : decode cX5_keepTarget 139 = .ok (.goto 4, 3) := by decide +kernel
theorem dX5_keepTarget_142 : decode cX5_keepTarget 142 = .ok (.iconst 1, 1) := by decide +kernel
theorem dX5_keepTarget_143 : decode cX5_keepTarget 143 = .ok (.iadd, 1) := by decide +kernel
theorem dX5_keepTarget_144 : decode cX5_keepTarget 144 = .ok (.aload_n 0, 1) := by decide +kernel
theorem dX5_keepTarget_145 : decode cX5_keepTarget 145 = .ok (.getfield 93, 3) := by decide +kernel
theorem dX5_keepTarget_148 : decode cX5_keepTarget 148 = .ok (.getfield 274, 3) := by decide +kernel
theorem dX5_keepTarget_151 : decode cX5_keepTarget 151 = .ok (.aload_n 0, 1) := by decide +kernel
theorem dX5_keepTarget_152 : decode cX5_keepTarget 152 = .ok (.getfield 353, 3) := by decide +kernel
theorem dX5_keepTarget_155 : decode cX5_keepTarget 155 = .ok (.iaload, 1) := by decide +kernel
theorem dX5_keepTarget_156 : decode cX5_keepTarget 156 = .ok (.invokevirtual 66, 3) := by decide +kernel
theorem dX5_keepTarget_159 : decode cX5_keepTarget 159 = .ok (.pop, 1) := by decide +kernel
theorem dX5_keepTarget_160 : decode cX5_keepTarget 160 = .ok (.aload_n 0, 1) := by decide +kernel
theorem dX5_keepTarget_161 : decode cX5_keepTarget 161 = .ok (.getfield 93, 3) := by decide +kernel
theorem dX5_keepTarget_164 : decode cX5_keepTarget 164 = .ok (.iload_n 3, 1) := by decide +kernel
theorem dX5_keepTarget_165 : decode cX5_keepTarget 165 = .ok (.iconst 1, 1) := by decide +kernel
theorem dX5_keepTarget_166 : decode cX5_keepTarget 166 = .ok (.iadd, 1) := by decide +kernel
theorem dX5_keepTarget_167 : decode cX5_keepTarget 167 = .ok (.invokevirtual 243, 3) := by decide +kernel
theorem dX5_keepTarget_170 : decode cX5_keepTarget 170 = .ok (.pop, 1) := by decide +kernel
theorem dX5_keepTarget_171 : decode cX5_keepTarget 171 = .ok (.aload_n 0, 1) := by decide +kernel
theorem dX5_keepTarget_172 : decode cX5_keepTarget 172 = .ok (.getfield 93, 3) := by decide +kernel
theorem dX5_keepTarget_175 : decode cX5_keepTarget 175 = .ok (.aload_n 0, 1) := by decide +kernel
theorem dX5_keepTarget_176 : decode cX5_keepTarget 176 = .ok (.getfield 347, 3) := by decide +kernel
theorem dX5_keepTarget_179 : decode cX5_keepTarget 179 = .ok (.invokevirtual 243, 3) := by decide +kernel
theorem dX5_keepTarget_182 : decode cX5_keepTarget 182 = .ok (.pop, 1) := by decide +kernel
theorem dX5_keepTarget_183 : decode cX5_keepTarget 183 = .ok (.iconst 0, 1) := by decide +kernel
theorem dX5_keepTarget_184 : decode cX5_keepTarget 184 = .ok (.istore 4, 2) := by decide +kernel
theorem dX5_keepTarget_186 : decode cX5_keepTarget 186 = .ok (.iload 4, 2) := by decide +kernel
theorem dX5_keepTarget_188 : decode cX5_keepTarget 188 = .ok (.aload_n 0, 1) := by decide +kernel
theorem dX5_keepTarget_189 : decode cX5_keepTarget 189 = .ok (.getfield 347, 3) := by decide +kernel
theorem dX5_keepTarget_192 : decode cX5_keepTarget 192 = .ok (.if_icmp .ge 33, 3) := by decide +kernel
theorem dX5_keepTarget_195 : decode cX5_keepTarget 195 = .ok (.aload_n 0, 1) := by decide +kernel
theorem dX5_keepTarget_196 : decode cX5_keepTarget 196 = .ok (.getfield 93, 3) := by decide +kernel
theorem dX5_keepTarget_199 : decode cX5_keepTarget 199 = .ok (.aload_n 0, 1) := by decide +kernel
theorem dX5_keepTarget_200 : decode cX5_keepTarget 200 = .ok (.getfield 9, 3) := by decide +kernel
theorem dX5_keepTarget_203 : decode cX5_keepTarget 203 = .ok (.aload_n 0, 1) := by decide +kernel
theorem dX5_keepTarget_204 : decode cX5_keepTarget 204 = .ok (.getfield 350, 3) := by decide +kernel
theorem dX5_keepTarget_207 : decode cX5_keepTarget 207 = .ok (.iconst 3, 1) := by decide +kernel
theorem dX5_keepTarget_208 : decode cX5_keepTarget 208 = .ok (.iload 4, 2) := by decide +kernel
theorem dX5_keepTarget_210 : decode cX5_keepTarget 210 = .ok (.imul, 1) := by decide +kernel
theorem dX5_keepTarget_211 : decode cX5_keepTarget 211 = .ok (.iadd, 1) := by decide +kernel
theorem dX5_keepTarget_212 : decode cX5_keepTarget 212 = .ok (.iconst 2, 1) := by decide +kernel
theorem dX5_keepTarget_213 : decode cX5_keepTarget 213 = .ok (.iadd, 1) := by decide +kernel
theorem dX5_keepTarget_214 : decode cX5_keepTarget 214 = .ok (.iaload, 1) := by decide +kernel
theorem dX5_keepTarget_215 : decode cX5_keepTarget 215 = .ok (.invokevirtual 243, 3) := by decide +kernel
theorem dX5_keepTarget_218 : decode cX5_keepTarget 218 = .ok (.pop, 1) := by decide +kernel
theorem dX5_keepTarget_219 : decode cX5_keepTarget 219 = .ok (.iinc 4 1, 3) := by decide +kernel
theorem dX5_keepTarget_222 : decode cX5_keepTarget 222 = .ok (.goto (-36), 3) := by decide +kernel
theorem dX5_keepTarget_225 : decode cX5_keepTarget 225 = .ok (.aload_n 0, 1) := by decide +kernel
theorem dX5_keepTarget_226 : decode cX5_keepTarget 226 = .ok (.getfield 93, 3) := by decide +kernel
theorem dX5_keepTarget_229 : decode cX5_keepTarget 229 = .ok (.bipush 37, 2) := by decide +kernel
theorem dX5_keepTarget_231 : decode cX5_keepTarget 231 = .ok (.iload_n 3, 1) := by decide +kernel
theorem dX5_keepTarget_232 : decode cX5_keepTarget 232 = .ok (.iconst 1, 1) := by decide +kernel
theorem dX5_keepTarget_233 : decode cX5_keepTarget 233 = .ok (.iadd, 1) := by decide +kernel
theorem dX5_keepTarget_234 : decode cX5_keepTarget 234 = .ok (.invokevirtual 66, 3) := by decide +kernel
theorem dX5_keepTarget_237 : decode cX5_keepTarget 237 = .ok (.pop, 1) := by decide +kernel
theorem dX5_keepTarget_238 : decode cX5_keepTarget 238 = .ok (.aload_n 0, 1) := by decide +kernel
theorem dX5_keepTarget_239 : decode cX5_keepTarget 239 = .ok (.aload_n 0, 1) := by decide +kernel
theorem dX5_keepTarget_240 : decode cX5_keepTarget 240 = .ok (.getfield 93, 3) := by decide +kernel
theorem dX5_keepTarget_243 : decode cX5_keepTarget 243 = .ok (.getfield 246, 3) := by decide +kernel
theorem dX5_keepTarget_246 : decode cX5_keepTarget 246 = .ok (.iload_n 2, 1) := by decide +kernel
theorem dX5_keepTarget_247 : decode cX5_keepTarget 247 = .ok (.aload_n 0, 1) := by decide +kernel
theorem dX5_keepTarget_248 : decode cX5_keepTarget 248 = .ok (.getfield 93, 3) := by decide +kernel
theorem dX5_keepTarget_251 : decode cX5_keepTarget 251 = .ok (.getfield 50, 3) := by decide +kernel
theorem dX5_keepTarget_254 : decode cX5_keepTarget 254 = .ok (.iload_n 2, 1) := by decide +kernel
theorem dX5_keepTarget_255 : decode cX5_keepTarget 255 = .ok (.isub, 1) := by decide +kernel
theorem dX5_keepTarget_256 : decode cX5_keepTarget 256 = .ok (.invokevirtual 335, 3) := by decide +kernel
theorem dX5_keepTarget_259 : decode cX5_keepTarget 259 = .ok (.aload_n 0, 1) := by decide +kernel
theorem dX5_keepTarget_260 : decode cX5_keepTarget 260 = .ok (.getfield 93, 3) := by decide +kernel
theorem dX5_keepTarget_263 : decode cX5_keepTarget 263 = .ok (.iload_n 2, 1) := by decide +kernel
theorem dX5_keepTarget_264 : decode cX5_keepTarget 264 = .ok (.putfield 50, 3) := by decide +kernel
theorem dX5_keepTarget_267 : decode cX5_keepTarget 267 = .ok (.return_, 1) := by decide +kernel
theorem dX5_loopBody_0 : decode cX5_loopBody 0 = .ok (.aload_n 0, 1) := by decide +kernel
theorem dX5_loopBody_1 : decode cX5_loopBody 1 = .ok (.getfield 106, 3) := by decide +kernel
theorem dX5_loopBody_4 : decode cX5_loopBody 4 = .ok (.istore_n 2, 1) := by decide +kernel
theorem dX5_loopBody_5 : decode cX5_loopBody 5 = .ok (.aload_n 0, 1) := by decide +kernel
theorem dX5_loopBody_6 : decode cX5_loopBody 6 = .ok (.getfield 109, 3) := by decide +kernel
theorem dX5_loopBody_9 : decode cX5_loopBody 9 = .ok (.istore_n 3, 1) := by decide +kernel
theorem dX5_loopBody_10 : decode cX5_loopBody 10 = .ok (.aload_n 0, 1) := by decide +kernel
theorem dX5_loopBody_11 : decode cX5_loopBody 11 = .ok (.iload_n 1, 1) := by decide +kernel
theorem dX5_loopBody_12 : decode cX5_loopBody 12 = .ok (.putfield 106, 3) := by decide +kernel
theorem dX5_loopBody_15 : decode cX5_loopBody 15 = .ok (.aload_n 0, 1) := by decide +kernel
theorem dX5_loopBody_16 : decode cX5_loopBody 16 = .ok (.iconst 0, 1) := by decide +kernel
theorem dX5_loopBody_17 : decode cX5_loopBody 17 = .ok (.putfield 109, 3) := by decide +kernel
theorem dX5_loopBody_20 : decode cX5_loopBody 20 = .ok (.aload_n 0, 1) := by decide +kernel
theorem dX5_loopBody_21 : decode cX5_loopBody 21 = .ok (.invokevirtual 58, 3) := by decide +kernel
theorem dX5_loopBody_24 : decode cX5_loopBody 24 = .ok (.aload_n 0, 1) := by decide +kernel
theorem dX5_loopBody_25 : decode cX5_loopBody 25 = .ok (.bipush 38, 2) := by decide +kernel
theorem dX5_loopBody_27 : decode cX5_loopBody 27 = .ok (.invokevirtual 186, 3) := by decide +kernel
theorem dX5_loopBody_30 : decode cX5_loopBody 30 = .ok (.aload_n 0, 1) := by decide +kernel
theorem dX5_loopBody_31 : decode cX5_loopBody 31 = .ok (.getfield 93, 3) := by decide +kernel
theorem dX5_loopBody_34 : decode cX5_loopBody 34 = .ok (.aload_n 0, 1) := by decide +kernel
theorem dX5_loopBody_35 : decode cX5_loopBody 35 = .ok (.getfield 93, 3) := by decide +kernel
theorem dX5_loopBody_38 : decode cX5_loopBody 38 = .ok (.iconst 3, 1) := by decide +kernel
theorem dX5_loopBody_39 : decode cX5_loopBody 39 = .ok (.iconst 0, 1) := by decide +kernel
theorem dX5_loopBody_40 : decode cX5_loopBody 40 = .ok (.invokevirtual 66, 3) := by decide +kernel
theorem dX5_loopBody_43 : decode cX5_loopBody 43 = .ok (.iload_n 1, 1) := by decide +kernel
theorem dX5_loopBody_44 : decode cX5_loopBody 44 = .ok (.invokevirtual 240, 3) := by decide +kernel
theorem dX5_loopBody_47 : decode cX5_loopBody 47 = .ok (.aload_n 0, 1) := by decide +kernel
theorem dX5_loopBody_48 : decode cX5_loopBody 48 = .ok (.aload_n 0, 1) := by decide +kernel
theorem dX5_loopBody_49 : decode cX5_loopBody 49 = .ok (.getfield 109, 3) := by decide +kernel
theorem dX5_loopBody_52 : decode cX5_loopBody 52 = .ok (.invokevirtual 249, 3) := by decide +kernel
theorem dX5_loopBody_55 : decode cX5_loopBody 55 = .ok (.aload_n 0, 1) := by decide +kernel
theorem dX5_loopBody_56 : decode cX5_loopBody 56 = .ok (.iload_n 2, 1) := by decide +kernel
theorem dX5_loopBody_57 : decode cX5_loopBody 57 = .ok (.putfield 106, 3) := by decide +kernel
theorem dX5_loopBody_60 : decode cX5_loopBody 60 = .ok (.aload_n 0, 1) := by decide +kernel
theorem dX5_loopBody_61 : decode cX5_loopBody 61 = .ok (.iload_n 3, 1) := by decide +kernel
theorem dX5_loopBody_62 : decode cX5_loopBody 62 = .ok (.putfield 109, 3) := by decide +kernel
theorem dX5_loopBody_65 : decode cX5_loopBody 65 = .ok (.return_, 1) := by decide +kernel
theorem dX5_mark_0 : decode cX5_mark 0 = .ok (.aload_n 0, 1) := by decide +kernel
theorem dX5_mark_1 : decode cX5_mark 1 = .ok (.iconst 1, 1) := by decide +kernel
theorem dX5_mark_2 : decode cX5_mark 2 = .ok (.invokevirtual 129, 3) := by decide +kernel
theorem dX5_mark_5 : decode cX5_mark 5 = .ok (.aload_n 0, 1) := by decide +kernel
theorem dX5_mark_6 : decode cX5_mark 6 = .ok (.getfield 9, 3) := by decide +kernel
theorem dX5_mark_9 : decode cX5_mark 9 = .ok (.aload_n 0, 1) := by decide +kernel
theorem dX5_mark_10 : decode cX5_mark 10 = .ok (.getfield 112, 3) := by decide +kernel
theorem dX5_mark_13 : decode cX5_mark 13 = .ok (.iload_n 1, 1) := by decide +kernel
theorem dX5_mark_14 : decode cX5_mark 14 = .ok (.iastore, 1) := by decide +kernel
theorem dX5_mark_15 : decode cX5_mark 15 = .ok (.aload_n 0, 1) := by decide +kernel
theorem dX5_mark_16 : decode cX5_mark 16 = .ok (.dup, 1) := by decide +kernel
theorem dX5_mark_17 : decode cX5_mark 17 = .ok (.getfield 112, 3) := by decide +kernel
theorem dX5_mark_20 : decode cX5_mark 20 = .ok (.iconst 1, 1) := by decide +kernel
theorem dX5_mark_21 : decode cX5_mark 21 = .ok (.iadd, 1) := by decide +kernel
theorem dX5_mark_22 : decode cX5_mark 22 = .ok (.putfield 112, 3) := by decide +kernel
theorem dX5_mark_25 : decode cX5_mark 25 = .ok (.aload_n 0, 1) := by decide +kernel
theorem dX5_mark_26 : decode cX5_mark 26 = .ok (.getfield 112, 3) := by decide +kernel
theorem dX5_mark_29 : decode cX5_mark 29 = .ok (.iconst 1, 1) := by decide +kernel
theorem dX5_mark_30 : decode cX5_mark 30 = .ok (.isub, 1) := by decide +kernel
theorem dX5_mark_31 : decode cX5_mark 31 = .ok (.ireturn, 1) := by decide +kernel
theorem dX5_markNoTarget_0 : decode cX5_markNoTarget 0 = .ok (.aload_n 0, 1) := by decide +kernel
theorem dX5_markNoTarget_1 : decode cX5_markNoTarget 1 = .ok (.iconst (-1), 1) := by decide +kernel
theorem dX5_markNoTarget_2 : decode cX5_markNoTarget 2 = .ok (.invokevirtual 303, 3) := by decide +kernel
theorem dX5_markNoTarget_5 : decode cX5_markNoTarget 5 = .ok (.pop, 1) := by decide +kernel
theorem dX5_markNoTarget_6 : decode cX5_markNoTarget 6 = .ok (.aload_n 0, 1) := by decide +kernel
theorem dX5_markNoTarget_7 : decode cX5_markNoTarget 7 = .ok (.iconst 0, 1) := by decide +kernel
theorem dX5_markNoTarget_8 : decode cX5_markNoTarget 8 = .ok (.invokevirtual 303, 3) := by decide +kernel
theorem dX5_markNoTarget_11 : decode cX5_markNoTarget 11 = .ok (.pop, 1) := by decide +kernel
theorem dX5_markNoTarget_12 : decode cX5_markNoTarget 12 = .ok (.aload_n 0, 1) := by decide +kernel
theorem dX5_markNoTarget_13 : decode cX5_markNoTarget 13 = .ok (.iconst 0, 1) := by decide +kernel
theorem dX5_markNoTarget_14 : decode cX5_markNoTarget 14 = .ok (.invokevirtual 303, 3) := by decide +kernel
theorem dX5_markNoTarget_17 : decode cX5_markNoTarget 17 = .ok (.pop, 1) := by decide +kernel
theorem dX5_markNoTarget_18 : decode cX5_markNoTarget 18 = .ok (.aload_n 0, 1) := by decide +kernel
theorem dX5_markNoTarget_19 : decode cX5_markNoTarget 19 = .ok (.iconst 0, 1) := by decide +kernel
theorem dX5_markNoTarget_20 : decode cX5_markNoTarget 20 = .ok (.invokevirtual 303, 3) := by decide +kernel
theorem dX5_markNoTarget_23 : decode cX5_markNoTarget 23 = .ok (.pop, 1) := by decide +kernel
theorem dX5_markNoTarget_24 : decode cX5_markNoTarget 24 = .ok (.return_, 1) := by decide +kernel
theorem dX5_members_0 : decode cX5_members 0 = .ok (.iconst 1, 1) := by decide +kernel
theorem dX5_members_1 : decode cX5_members 1 = .ok (.istore_n 2, 1) := by decide +kernel
theorem dX5_members_2 : decode cX5_members 2 = .ok (.iconst 0, 1) := by decide +kernel
theorem dX5_members_3 : decode cX5_members 3 = .ok (.istore_n 3, 1) := by decide +kernel
theorem dX5_members_4 : decode cX5_members 4 = .ok (.iload_n 3, 1) := by decide +kernel
theorem dX5_members_5 : decode cX5_members 5 = .ok (.ldc 35, 2) := by decide +kernel
theorem dX5_members_7 : decode cX5_members 7 = .ok (.if_icmp .gt 119, 3) := by decide +kernel
theorem dX5_members_10 : decode cX5_members 10 = .ok (.aload_n 0, 1) := by decide +kernel
theorem dX5_members_11 : decode cX5_members 11 = .ok (.getfield 18, 3) := by decide +kernel
theorem dX5_members_14 : decode cX5_members 14 = .ok (.getfield 36, 3) := by decide +kernel
theorem dX5_members_17 : decode cX5_members 17 = .ok (.bipush 16, 2) := by decide +kernel
theorem dX5_members_19 : decode cX5_members 19 = .ok (.if_icmp .ne 107, 3) := by decide +kernel
theorem dX5_members_22 : decode cX5_members 22 = .ok (.aload_n 0, 1) := by decide +kernel
theorem dX5_members_23 : decode cX5_members 23 = .ok (.getfield 18, 3) := by decide +kernel
theorem dX5_members_26 : decode cX5_members 26 = .ok (.invokevirtual 30, 3) := by decide +kernel
theorem dX5_members_29 : decode cX5_members 29 = .ok (.iload_n 2, 1) := by decide +kernel
theorem dX5_members_30 : decode cX5_members 30 = .ok (.sipush 1000, 3) := by decide +kernel
theorem dX5_members_33 : decode cX5_members 33 = .ok (.if_icmp .ne 16, 3) := by decide +kernel
theorem dX5_members_36 : decode cX5_members 36 = .ok (.aload_n 0, 1) := by decide +kernel
theorem dX5_members_37 : decode cX5_members 37 = .ok (.getfield 93, 3) := by decide +kernel
theorem dX5_members_40 : decode cX5_members 40 = .ok (.bipush 85, 2) := by decide +kernel
theorem dX5_members_42 : decode cX5_members 42 = .ok (.iload_n 1, 1) := by decide +kernel
theorem dX5_members_43 : decode cX5_members 43 = .ok (.iadd, 1) := by decide +kernel
theorem dX5_members_44 : decode cX5_members 44 = .ok (.iload_n 2, 1) := by decide +kernel
theorem dX5_members_45 : decode cX5_members 45 = .ok (.invokevirtual 66, 3) := by decide +kernel
theorem dX5_members_48 : decode cX5_members 48 = .ok (.pop, 1) := by decide +kernel
theorem dX5_members_49 : decode cX5_members 49 = .ok (.aload_n 0, 1) := by decide +kernel
theorem dX5_members_50 : decode cX5_members 50 = .ok (.iconst 0, 1) := by decide +kernel
theorem dX5_members_51 : decode cX5_members 51 = .ok (.invokevirtual 90, 3) := by decide +kernel
theorem dX5_members_54 : decode cX5_members 54 = .ok (.iinc 2 1, 3) := by decide +kernel
theorem dX5_members_57 : decode cX5_members 57 = .ok (.iload_n 2, 1) := by decide +kernel
theorem dX5_members_58 : decode cX5_members 58 = .ok (.sipush 1000, 3) := by decide +kernel
theorem dX5_members_61 : decode cX5_members 61 = .ok (.if_icmp .le 16, 3) := by decide +kernel
theorem dX5_members_64 : decode cX5_members 64 = .ok (.aload_n 0, 1) := by decide +kernel
theorem dX5_members_65 : decode cX5_members 65 = .ok (.getfield 93, 3) := by decide +kernel
theorem dX5_members_68 : decode cX5_members 68 = .ok (.bipush 81, 2) := by decide +kernel
theorem dX5_members_70 : decode cX5_members 70 = .ok (.iload_n 1, 1) := by decide +kernel
theorem dX5_members_71 : decode cX5_members 71 = .ok (.iadd, 1) := by decide +kernel
theorem dX5_members_72 : decode cX5_members 72 = .ok (.iconst 1, 1) := by decide +kernel
theorem dX5_members_73 : decode cX5_members 73 = .ok (.invokevirtual 66, 3) := by decide +kernel
theorem dX5_members_76 : decode cX5_members 76 = .ok (.pop, 1) := by decide +kernel
theorem dX5_members_77 : decode cX5_members 77 = .ok (.iload_n 2, 1) := by decide +kernel
theorem dX5_members_78 : decode cX5_members 78 = .ok (.iconst 2, 1) := by decide +kernel
theorem dX5_members_79 : decode cX5_members 79 = .ok (.if_icmp .ne 41, 3) := by decide +kernel
theorem dX5_members_82 : decode cX5_members 82 = .ok (.aload_n 0, 1) := by decide +kernel
theorem dX5_members_83 : decode cX5_members 83 = .ok (.getfield 18, 3) := by decide +kernel
theorem dX5_members_86 : decode cX5_members 86 = .ok (.getfield 36, 3) := by decide +kernel
theorem dX5_members_89 : decode cX5_members 89 = .ok (.bipush 28, 2) := by decide +kernel
theorem dX5_members_91 : decode cX5_members 91 = .ok (.if_icmp .ne 29, 3) := by decide +kernel
theorem dX5_members_94 : decode cX5_members 94 = .ok (.aload_n 0, 1) := by decide +kernel
theorem dX5_members_95 : decode cX5_members 95 = .ok (.getfield 18, 3) := by decide +kernel
theorem dX5_members_98 : decode cX5_members 98 = .ok (.invokevirtual 30, 3) := by decide +kernel
theorem dX5_members_101 : decode cX5_members 101 = .ok (.aload_n 0, 1) := by decide +kernel
theorem dX5_members_102 : decode cX5_members 102 = .ok (.iconst 0, 1) := by decide +kernel
theorem dX5_members_103 : decode cX5_members 103 = .ok (.invokevirtual 90, 3) := by decide +kernel
theorem dX5_members_106 : decode cX5_members 106 = .ok (.aload_n 0, 1) := by decide +kernel
theorem dX5_members_107 : decode cX5_members 107 = .ok (.getfield 93, 3) := by decide +kernel
theorem dX5_members_110 : decode cX5_members 110 = .ok (.bipush 52, 2) := by decide +kernel
theorem dX5_members_112 : decode cX5_members 112 = .ok (.iload_n 1, 1) := by decide +kernel
theorem dX5_members_113 : decode cX5_members 113 = .ok (.iadd, 1) := by decide +kernel
theorem dX5_members_114 : decode cX5_members 114 = .ok (.iconst 0, 1) := by decide +kernel
theorem dX5_members_115 : decode cX5_members 115 = .ok (.invokevirtual 66, 3) := by decide +kernel
theorem dX5_members_118 : decode cX5_members 118 = .ok (.pop, 1) := by decide +kernel
theorem dX5_members_119 : decode cX5_members 119 = .ok (.return_, 1) := by decide +kernel
theorem dX5_members_120 : decode cX5_members 120 = .ok (.iinc 3 1, 3) := by decide +kernel
theorem dX5_members_123 : decode cX5_members 123 = .ok (.goto (-119), 3) := by decide +kernel
theorem dX5_members_126 : decode cX5_members 126 = .ok (.aload_n 0, 1) := by decide +kernel
theorem dX5_members_127 : decode cX5_members 127 = .ok (.getfield 93, 3) := by decide +kernel
theorem dX5_members_130 : decode cX5_members 130 = .ok (.iload_n 2, 1) := by decide +kernel
theorem dX5_members_131 : decode cX5_members 131 = .ok (.sipush 1000, 3) := by decide +kernel
theorem dX5_members_134 : decode cX5_members 134 = .ok (.if_icmp .le 10, 3) := by decide +kernel
theorem dX5_members_137 : decode cX5_members 137 = .ok (.bipush 83, 2) := by decide +kernel
theorem dX5_members_139 : decode cX5_members 139 = .ok (.iload_n 1, 1) := by decide +kernel
theorem dX5_members_140 : decode cX5_members 140 = .ok (.iadd, 1) := by decide +kernel
theorem dX5_members_141 : decode cX5_members 141 = .ok (.goto 7, 3) := by decide +kernel
theorem dX5_members_144 : decode cX5_members 144 = .ok (.bipush 48, 2) := by decide +kernel
theorem dX5_members_146 : decode cX5_members 146 = .ok (.iload_n 1, 1) := by decide +kernel
theorem dX5_members_147 : decode cX5_members 147 = .ok (.iadd, 1) := by decide +kernel
theorem dX5_members_148 : decode cX5_members 148 = .ok (.iload_n 2, 1) := by decide +kernel
theorem dX5_members_149 : decode cX5_members 149 = .ok (.invokevirtual 66, 3) := by decide +kernel
theorem dX5_members_152 : decode cX5_members 152 = .ok (.pop, 1) := by decide +kernel
theorem dX5_members_153 : decode cX5_members 153 = .ok (.return_, 1) := by decide +kernel
theorem dX5_modeAndParameter_0 : decode cX5_modeAndParameter 0 = .ok (.iconst 0, 1) := by decide +kernel
theorem dX5_modeAndParameter_1 : decode cX5_modeAndParameter 1 = .ok (.istore_n 2, 1) := by decide +kernel
theorem dX5_modeAndParameter_2 : decode cX5_modeAndParameter 2 = .ok (.aload_n 0, 1) := by decide +kernel
theorem dX5_modeAndParameter_3 : decode cX5_modeAndParameter 3 = .ok (.getfield 18, 3) := by decide +kernel
theorem dX5_modeAndParameter_6 : decode cX5_modeAndParameter 6 = .ok (.getfield 36, 3) := by decide +kernel
theorem dX5_modeAndParameter_9 : decode cX5_modeAndParameter 9 = .ok (.bipush 35, 2) := by decide +kernel
theorem dX5_modeAndParameter_11 : decode cX5_modeAndParameter 11 = .ok (.if_icmp .eq 27, 3) := by decide +kernel
theorem dX5_modeAndParameter_14 : decode cX5_modeAndParameter 14 = .ok (.aload_n 0, 1) := by decide +kernel
theorem dX5_modeAndParameter_15 : decode cX5_modeAndParameter 15 = .ok (.getfield 18, 3) := by decide +kernel
theorem dX5_modeAndParameter_18 : decode cX5_modeAndParameter 18 = .ok (.getfield 36, 3) := by decide +kernel
theorem dX5_modeAndParameter_21 : decode cX5_modeAndParameter 21 = .ok (.bipush 36, 2) := by decide +kernel
theorem dX5_modeAndParameter_23 : decode cX5_modeAndParameter 23 = .ok (.if_icmp .eq 15, 3) := by decide +kernel
theorem dX5_modeAndParameter_26 : decode cX5_modeAndParameter 26 = .ok (.aload_n 0, 1) := by decide +kernel
theorem dX5_modeAndParameter_27 : decode cX5_modeAndParameter 27 = .ok (.getfield 18, 3) := by decide +kernel
theorem dX5_modeAndParameter_30 : decode cX5_modeAndParameter 30 = .ok (.getfield 36, 3) := by decide +kernel
theorem dX5_modeAndParameter_33 : decode cX5_modeAndParameter 33 = .ok (.bipush 37, 2) := by decide +kernel
theorem dX5_modeAndParameter_35 : decode cX5_modeAndParameter 35 = .ok (.if_icmp .ne 21, 3) := by decide +kernel
theorem dX5_modeAndParameter_38 : decode cX5_modeAndParameter 38 = .ok (.aload_n 0, 1) := by decide +kernel
theorem dX5_modeAndParameter_39 : decode cX5_modeAndParameter 39 = .ok (.getfield 18, 3) := by decide +kernel
theorem dX5_modeAndParameter_42 : decode cX5_modeAndParameter 42 = .ok (.getfield 36, 3) := by decide +kernel
theorem dX5_modeAndParameter_45 : decode cX5_modeAndParameter 45 = .ok (.bipush 35, 2) := by decide +kernel
theorem dX5_modeAndParameter_47 : decode cX5_modeAndParameter 47 = .ok (.isub, 1) := by decide +kernel
theorem dX5_modeAndParameter_48 : decode cX5_modeAndParameter 48 = .ok (.istore_n 2, 1) := by decide +kernel
theorem dX5_modeAndParameter_49 : decode cX5_modeAndParameter 49 = .ok (.aload_n 0, 1) := by decide +kernel
theorem dX5_modeAndParameter_50 : decode cX5_modeAndParameter 50 = .ok (.getfield 18, 3) := by decide +kernel
theorem dX5_modeAndParameter_53 : decode cX5_modeAndParameter 53 = .ok (.invokevirtual 30, 3) := by decide +kernel
theorem dX5_modeAndParameter_56 : decode cX5_modeAndParameter 56 = .ok (.aload_n 0, 1) := by decide +kernel
theorem dX5_modeAndParameter_57 : decode cX5_modeAndParameter 57 = .ok (.getfield 93, 3) := by decide +kernel
theorem dX5_modeAndParameter_60 : decode cX5_modeAndParameter 60 = .ok (.getfield 176, 3) := by decide +kernel
theorem dX5_modeAndParameter_63 : decode cX5_modeAndParameter 63 = .ok (.aload_n 0, 1) := by decide +kernel
theorem dX5_modeAndParameter_64 : decode cX5_modeAndParameter 64 = .ok (.getfield 97, 3) := by decide +kernel
theorem dX5_modeAndParameter_67 : decode cX5_modeAndParameter 67 = .ok (.iaload, 1) := by decide +kernel
theorem dX5_modeAndParameter_68 : decode cX5_modeAndParameter 68 = .ok (.istore_n 3, 1) := by decide +kernel
theorem dX5_modeAndParameter_69 : decode cX5_modeAndParameter 69 = .ok (.aload_n 0, 1) := by decide +kernel
theorem dX5_modeAndParameter_70 : decode cX5_modeAndParameter 70 = .ok (.iload_n 1, 1) := by decide +kernel
theorem dX5_modeAndParameter_71 : decode cX5_modeAndParameter 71 = .ok (.invokevirtual 183, 3) := by decide +kernel
theorem dX5_modeAndParameter_74 : decode cX5_modeAndParameter 74 = .ok (.aload_n 0, 1) := by decide +kernel
theorem dX5_modeAndParameter_75 : decode cX5_modeAndParameter 75 = .ok (.getfield 93, 3) := by decide +kernel
theorem dX5_modeAndParameter_78 : decode cX5_modeAndParameter 78 = .ok (.getfield 202, 3) := by decide +kernel
theorem dX5_modeAndParameter_81 : decode cX5_modeAndParameter 81 = .ok (.aload_n 0, 1) := by decide +kernel
theorem dX5_modeAndParameter_82 : decode cX5_modeAndParameter 82 = .ok (.getfield 97, 3) := by decide +kernel
theorem dX5_modeAndParameter_85 : decode cX5_modeAndParameter 85 = .ok (.aload_n 0, 1) := by decide +kernel
theorem dX5_modeAndParameter_86 : decode cX5_modeAndParameter 86 = .ok (.getfield 93, 3) := by decide +kernel
theorem dX5_modeAndParameter_89 : decode cX5_modeAndParameter 89 = .ok (.getfield 202, 3) := by decide +kernel
theorem dX5_modeAndParameter_92 : decode cX5_modeAndParameter 92 = .ok (.aload_n 0, 1) := by decide +kernel
theorem dX5_modeAndParameter_93 : decode cX5_modeAndParameter 93 = .ok (.getfield 97, 3) := by decide +kernel
theorem dX5_modeAndParameter_96 : decode cX5_modeAndParameter 96 = .ok (.iaload, 1) := by decide +kernel
theorem dX5_modeAndParameter_97 : decode cX5_modeAndParameter 97 = .ok (.iload_n 2, 1) := by decide +kernel
theorem dX5_modeAndParameter_98 : decode cX5_modeAndParameter 98 = .ok (.iconst 2, 1) := by decide +kernel
theorem dX5_modeAndParameter_99 : decode cX5_modeAndParameter 99 = .ok (.iload_n 3, 1) := by decide +kernel
theorem dX5_modeAndParameter_100 : decode cX5_modeAndParameter 100 = .ok (.imul, 1) := by decide +kernel
theorem dX5_modeAndParameter_101 : decode cX5_modeAndParameter 101 = .ok (.ishl, 1) := by decide +kernel
theorem dX5_modeAndParameter_102 : decode cX5_modeAndParameter 102 = .ok (.ior, 1) := by decide +kernel
theorem dX5_modeAndParameter_103 : decode cX5_modeAndParameter 103 = .ok (.iastore, 1) := by decide +kernel
theorem dX5_modeAndParameter_104 : decode cX5_modeAndParameter 104 = .ok (.return_, 1) := by decide +kernel
theorem dX5_nameStatement_0 : decode cX5_nameStatement 0 = .ok (.aload_n 0, 1) := by decide +kernel
theorem dX5_nameStatement_1 : decode cX5_nameStatement 1 = .ok (.getfield 18, 3) := by decide +kernel
theorem dX5_nameStatement_4 : decode cX5_nameStatement 4 = .ok (.getfield 78, 3) := by decide +kernel
theorem dX5_nameStatement_7 : decode cX5_nameStatement 7 = .ok (.istore_n 1, 1) := by decide +kernel
theorem dX5_nameStatement_8 : decode cX5_nameStatement 8 = .ok (.aload_n 0, 1) := by decide +kernel
theorem dX5_nameStatement_9 : decode cX5_nameStatement 9 = .ok (.invokevirtual 268, 3) := by decide +kernel
theorem dX5_nameStatement_12 : decode cX5_nameStatement 12 = .ok (.istore_n 2, 1) := by decide +kernel
theorem dX5_nameStatement_13 : decode cX5_nameStatement 13 = .ok (.iload_n 2, 1) := by decide +kernel
theorem dX5_nameStatement_14 : decode cX5_nameStatement 14 = .ok (.iconst (-1), 1) := by decide +kernel
theorem dX5_nameStatement_15 : decode cX5_nameStatement 15 = .ok (.if_icmp .ne 7, 3) := by decide +kernel
theorem dX5_nameStatement_18 : decode cX5_nameStatement 18 = .ok (.iconst 1, 1) := by decide +kernel
theorem dX5_nameStatement_19 : decode cX5_nameStatement 19 = .ok (.goto 12, 3) := by decide +kernel
theorem dX5_nameStatement_22 : decode cX5_nameStatement 22 = .ok (.aload_n 0, 1) := by decide +kernel
theorem dX5_nameStatement_23 : decode cX5_nameStatement 23 = .ok (.getfield 93, 3) := by decide +kernel
theorem dX5_nameStatement_26 : decode cX5_nameStatement 26 = .ok (.getfield 271, 3) := by decide +kernel
theorem dX5_nameStatement_29 : decode cX5_nameStatement 29 = .ok (.iload_n 2, 1) := by decide +kernel
theorem dX5_nameStatement_30 : decode cX5_nameStatement 30 = .ok (.iaload, 1) := by decide +kernel
theorem dX5_nameStatement_31 : decode cX5_nameStatement 31 = .ok (.istore_n 3, 1) := by decide +kernel
theorem dX5_nameStatement_32 : decode cX5_nameStatement 32 = .ok (.iload_n 3, 1) := by decide +kernel
theorem dX5_nameStatement_33 : decode cX5_nameStatement 33 = .ok (.iconst 1, 1) := by decide +kernel
theorem dX5_nameStatement_34 : decode cX5_nameStatement 34 = .ok (.if_icmp .eq 20, 3) := by decide +kernel
theorem dX5_nameStatement_37 : decode cX5_nameStatement 37 = .ok (.iload_n 3, 1) := by decide +kernel
theorem dX5_nameStatement_38 : decode cX5_nameStatement 38 = .ok (.iconst 2, 1) := by decide +kernel
theorem dX5_nameStatement_39 : decode cX5_nameStatement 39 = .ok (.if_icmp .ne 21, 3) := by decide +kernel
theorem dX5_nameStatement_42 : decode cX5_nameStatement 42 = .ok (.aload_n 0, 1) := by decide +kernel
theorem dX5_nameStatement_43 : decode cX5_nameStatement 43 = .ok (.getfield 18, 3) := by decide +kernel
theorem dX5_nameStatement_46 : decode cX5_nameStatement 46 = .ok (.getfield 36, 3) := by decide +kernel
theorem dX5_nameStatement_49 : decode cX5_nameStatement 49 = .ok (.bipush 10, 2) := by decide +kernel
theorem dX5_nameStatement_51 : decode cX5_nameStatement 51 = .ok (.if_icmp .eq 9, 3) := by decide +kernel
theorem dX5_nameStatement_54 : decode cX5_nameStatement 54 = .ok (.aload_n 0, 1) := by decide +kernel
theorem dX5_nameStatement_55 : decode cX5_nameStatement 55 = .ok (.iconst 5, 1) := by decide +kernel
theorem dX5_nameStatement_56 : decode cX5_nameStatement 56 = .ok (.iload_n 1, 1) := by decide +kernel
theorem dX5_nameStatement_57 : decode cX5_nameStatement 57 = .ok (.invokevirtual 125, 3) := by decide +kernel
theorem dX5_nameStatement_60 : decode cX5_nameStatement 60 = .ok (.iload_n 3, 1) := by decide +kernel
theorem dX5_nameStatement_61 : decode cX5_nameStatement 61 = .ok (.iconst 2, 1) := by decide +kernel
theorem dX5_nameStatement_62 : decode cX5_nameStatement 62 = .ok (.if_icmp .ne 52, 3) := by decide +kernel
theorem dX5_nameStatement_65 : decode cX5_nameStatement 65 = .ok (.aload_n 0, 1) := by decide +kernel
theorem dX5_nameStatement_66 : decode cX5_nameStatement 66 = .ok (.iconst 0, 1) := by decide +kernel
theorem dX5_nameStatement_67 : decode cX5_nameStatement 67 = .ok (.putfield 115, 3) := by decide +kernel
theorem dX5_nameStatement_70 : decode cX5_nameStatement 70 = .ok (.aload_n 0, 1) := by decide +kernel
theorem dX5_nameStatement_71 : decode cX5_nameStatement 71 = .ok (.aload_n 0, 1) := by decide +kernel
theorem dX5_nameStatement_72 : decode cX5_nameStatement 72 = .ok (.getfield 93, 3) := by decide +kernel
theorem dX5_nameStatement_75 : decode cX5_nameStatement 75 = .ok (.getfield 274, 3) := by decide +kernel
theorem dX5_nameStatement_78 : decode cX5_nameStatement 78 = .ok (.iload_n 2, 1) := by decide +kernel
theorem dX5_nameStatement_79 : decode cX5_nameStatement 79 = .ok (.iaload, 1) := by decide +kernel
theorem dX5_nameStatement_80 : decode cX5_nameStatement 80 = .ok (.iconst 0, 1) := by decide +kernel
theorem dX5_nameStatement_81 : decode cX5_nameStatement 81 = .ok (.invokevirtual 277, 3) := by decide +kernel
theorem dX5_nameStatement_84 : decode cX5_nameStatement 84 = .ok (.aload_n 0, 1) := by decide +kernel
theorem dX5_nameStatement_85 : decode cX5_nameStatement 85 = .ok (.getfield 93, 3) := by decide +kernel
theorem dX5_nameStatement_88 : decode cX5_nameStatement 88 = .ok (.bipush 37, 2) := by decide +kernel
theorem dX5_nameStatement_90 : decode cX5_nameStatement 90 = .ok (.iconst 1, 1) := by decide +kernel
theorem dX5_nameStatement_91 : decode cX5_nameStatement 91 = .ok (.aload_n 0, 1) := by decide +kernel
theorem dX5_nameStatement_92 : decode cX5_nameStatement 92 = .ok (.getfield 93, 3) := by decide +kernel
theorem dX5_nameStatement_95 : decode cX5_nameStatement 95 = .ok (.getfield 176, 3) := by decide +kernel
theorem dX5_nameStatement_98 : decode cX5_nameStatement 98 = .ok (.aload_n 0, 1) := by decide +kernel
theorem dX5_nameStatement_99 : decode cX5_nameStatement 99 = .ok (.getfield 93, 3) := by decide +kernel
theorem dX5_nameStatement_102 : decode cX5_nameStatement 102 = .ok (.getfield 274, 3) := by decide +kernel
theorem dX5_nameStatement_105 : decode cX5_nameStatement 105 = .ok (.iload_n 2, 1) := by decide +kernel
theorem dX5_nameStatement_106 : decode cX5_nameStatement 106 = .ok (.iaload, 1) := by decide +kernel
theorem dX5_nameStatement_107 : decode cX5_nameStatement 107 = .ok (.iaload, 1) := by decide +kernel
theorem dX5_nameStatement_108 : decode cX5_nameStatement 108 = .ok (.iadd, 1) := by decide +kernel
theorem dX5_nameStatement_109 : decode cX5_nameStatement 109 = .ok (.invokevirtual 66, 3) := by decide +kernel
theorem dX5_nameStatement_112 : decode cX5_nameStatement 112 = .ok (.pop, 1) := by decide +kernel
theorem dX5_nameStatement_113 : decode cX5_nameStatement 113 = .ok (.return_, 1) := by decide +kernel
theorem dX5_nameStatement_114 : decode cX5_nameStatement 114 = .ok (.aload_n 0, 1) := by decide +kernel
theorem dX5_nameStatement_115 : decode cX5_nameStatement 115 = .ok (.getfield 93, 3) := by decide +kernel
theorem dX5_nameStatement_118 : decode cX5_nameStatement 118 = .ok (.getfield 50, 3) := by decide +kernel
theorem dX5_nameStatement_121 : decode cX5_nameStatement 121 = .ok (.istore 4, 2) := by decide +kernel
theorem dX5_nameStatement_123 : decode cX5_nameStatement 123 = .ok (.aload_n 0, 1) := by decide +kernel
theorem dX5_nameStatement_124 : decode cX5_nameStatement 124 = .ok (.iload_n 2, 1) := by decide +kernel
theorem dX5_nameStatement_125 : decode cX5_nameStatement 125 = .ok (.invokevirtual 280, 3) := by decide +kernel
theorem dX5_nameStatement_128 : decode cX5_nameStatement 128 = .ok (.istore 5, 2) := by decide +kernel
theorem dX5_nameStatement_130 : decode cX5_nameStatement 130 = .ok (.aload_n 0, 1) := by decide +kernel
theorem dX5_nameStatement_131 : decode cX5_nameStatement 131 = .ok (.getfield 18, 3) := by decide +kernel
theorem dX5_nameStatement_134 : decode cX5_nameStatement 134 = .ok (.getfield 36, 3) := by decide +kernel
theorem dX5_nameStatement_137 : decode cX5_nameStatement 137 = .ok (.lookupswitch 230 #[(5, 67), (6, 179), (7, 179), (8, 179), (57, 195), (58, 195), (59, 195)], 67) := by decide +kernel
theorem dX5_nameStatement_204 : decode cX5_nameStatement 204 = .ok (.aload_n 0, 1) := by decide +kernel
theorem dX5_nameStatement_205 : decode cX5_nameStatement 205 = .ok (.getfield 18, 3) := by decide +kernel
theorem dX5_nameStatement_208 : decode cX5_nameStatement 208 = .ok (.invokevirtual 30, 3) := by decide +kernel
theorem dX5_nameStatement_211 : decode cX5_nameStatement 211 = .ok (.aload_n 0, 1) := by decide +kernel
theorem dX5_nameStatement_212 : decode cX5_nameStatement 212 = .ok (.getfield 18, 3) := by decide +kernel
theorem dX5_nameStatement_215 : decode cX5_nameStatement 215 = .ok (.getfield 36, 3) := by decide +kernel
theorem dX5_nameStatement_218 : decode cX5_nameStatement 218 = .ok (.iconst 2, 1) := by decide +kernel
theorem dX5_nameStatement_219 : decode cX5_nameStatement 219 = .ok (.if_icmp .ne 27, 3) := by decide +kernel
theorem dX5_nameStatement_222 : decode cX5_nameStatement 222 = .ok (.aload_n 0, 1) := by decide +kernel
theorem dX5_nameStatement_223 : decode cX5_nameStatement 223 = .ok (.getfield 93, 3) := by decide +kernel
theorem dX5_nameStatement_226 : decode cX5_nameStatement 226 = .ok (.aload_n 0, 1) := by decide +kernel
theorem dX5_nameStatement_227 : decode cX5_nameStatement 227 = .ok (.getfield 18, 3) := by decide +kernel
theorem dX5_nameStatement_230 : decode cX5_nameStatement 230 = .ok (.getfield 150, 3) := by decide +kernel
theorem dX5_nameStatement_233 : decode cX5_nameStatement 233 = .ok (.aload_n 0, 1) := by decide +kernel
theorem dX5_nameStatement_234 : decode cX5_nameStatement 234 = .ok (.getfield 18, 3) := by decide +kernel
theorem dX5_nameStatement_237 : decode cX5_nameStatement 237 = .ok (.getfield 154, 3) := by decide +kernel
theorem dX5_nameStatement_240 : decode cX5_nameStatement 240 = .ok (.invokevirtual 283, 3) := by decide +kernel
theorem dX5_nameStatement_243 : decode cX5_nameStatement 243 = .ok (.goto 4, 3) := by decide +kernel
theorem dX5_nameStatement_246 : decode cX5_nameStatement 246 = .ok (.iconst (-1), 1) := by decide +kernel
theorem dX5_nameStatement_247 : decode cX5_nameStatement 247 = .ok (.istore_n 2, 1) := by decide +kernel
theorem dX5_nameStatement_248 : decode cX5_nameStatement 248 = .ok (.iload_n 2, 1) := by decide +kernel
theorem dX5_nameStatement_249 : decode cX5_nameStatement 249 = .ok (.iconst (-1), 1) := by decide +kernel
theorem dX5_nameStatement_250 : decode cX5_nameStatement 250 = .ok (.if_icmp .eq 57, 3) := by decide +kernel
theorem dX5_nameStatement_253 : decode cX5_nameStatement 253 = .ok (.aload_n 0, 1) := by decide +kernel
theorem dX5_nameStatement_254 : decode cX5_nameStatement 254 = .ok (.getfield 93, 3) := by decide +kernel
theorem dX5_nameStatement_257 : decode cX5_nameStatement 257 = .ok (.getfield 271, 3) := by decide +kernel
theorem dX5_nameStatement_260 : decode cX5_nameStatement 260 = .ok (.iload_n 2, 1) := by decide +kernel
theorem dX5_nameStatement_261 : decode cX5_nameStatement 261 = .ok (.iaload, 1) := by decide +kernel
theorem dX5_nameStatement_262 : decode cX5_nameStatement 262 = .ok (.iconst 2, 1) := by decide +kernel
theorem dX5_nameStatement_263 : decode cX5_nameStatement 263 = .ok (.if_icmp .ne 44, 3) := by decide +kernel
theorem dX5_nameStatement_266 : decode cX5_nameStatement 266 = .ok (.aload_n 0, 1) := by decide +kernel
theorem dX5_nameStatement_267 : decode cX5_nameStatement 267 = .ok (.iload 4, 2) := by decide +kernel
theorem dX5_nameStatement_269 : decode cX5_nameStatement 269 = .ok (.invokevirtual 287, 3) := by decide +kernel
theorem dX5_nameStatement_272 : decode cX5_nameStatement 272 = .ok (.aload_n 0, 1) := by decide +kernel
theorem dX5_nameStatement_273 : decode cX5_nameStatement 273 = .ok (.aload_n 0, 1) := by decide +kernel
theorem dX5_nameStatement_274 : decode cX5_nameStatement 274 = .ok (.getfield 93, 3) := by decide +kernel
theorem dX5_nameStatement_277 : decode cX5_nameStatement 277 = .ok (.getfield 274, 3) := by decide +kernel
theorem dX5_nameStatement_280 : decode cX5_nameStatement 280 = .ok (.iload_n 2, 1) := by decide +kernel
theorem dX5_nameStatement_281 : decode cX5_nameStatement 281 = .ok (.iaload, 1) := by decide +kernel
theorem dX5_nameStatement_282 : decode cX5_nameStatement 282 = .ok (.aload_n 0, 1) := by decide +kernel
theorem dX5_nameStatement_283 : decode cX5_nameStatement 283 = .ok (.getfield 115, 3) := by decide +kernel
theorem dX5_nameStatement_286 : decode cX5_nameStatement 286 = .ok (.invokevirtual 277, 3) := by decide +kernel
theorem dX5_nameStatement_289 : decode cX5_nameStatement 289 = .ok (.aload_n 0, 1) := by decide +kernel
theorem dX5_nameStatement_290 : decode cX5_nameStatement 290 = .ok (.iload 5, 2) := by decide +kernel
theorem dX5_nameStatement_292 : decode cX5_nameStatement 292 = .ok (.aload_n 0, 1) := by decide +kernel
theorem dX5_nameStatement_293 : decode cX5_nameStatement 293 = .ok (.getfield 93, 3) := by decide +kernel
theorem dX5_nameStatement_296 : decode cX5_nameStatement 296 = .ok (.getfield 274, 3) := by decide +kernel
theorem dX5_nameStatement_299 : decode cX5_nameStatement 299 = .ok (.iload_n 2, 1) := by decide +kernel
theorem dX5_nameStatement_300 : decode cX5_nameStatement 300 = .ok (.iaload, 1) := by decide +kernel
theorem dX5_nameStatement_301 : decode cX5_nameStatement 301 = .ok (.invokevirtual 290, 3) := by decide +kernel
theorem dX5_nameStatement_304 : decode cX5_nameStatement 304 = .ok (.goto 75, 3) := by decide +kernel
theorem dX5_nameStatement_307 : decode cX5_nameStatement 307 = .ok (.aload_n 0, 1) := by decide +kernel
theorem dX5_nameStatement_308 : decode cX5_nameStatement 308 = .ok (.iload 5, 2) := by decide +kernel
theorem dX5_nameStatement_310 : decode cX5_nameStatement 310 = .ok (.invokevirtual 293, 3) := by decide +kernel
theorem dX5_nameStatement_313 : decode cX5_nameStatement 313 = .ok (.goto 66, 3) := by decide +kernel
theorem dX5_nameStatement_316 : decode cX5_nameStatement 316 = .ok (.aload_n 0, 1) := by decide +kernel
theorem dX5_nameStatement_317 : decode cX5_nameStatement 317 = .ok (.iload 5, 2) := by decide +kernel
theorem dX5_nameStatement_319 : decode cX5_nameStatement 319 = .ok (.aload_n 0, 1) := by decide +kernel
theorem dX5_nameStatement_320 : decode cX5_nameStatement 320 = .ok (.getfield 18, 3) := by decide +kernel
theorem dX5_nameStatement_323 : decode cX5_nameStatement 323 = .ok (.getfield 36, 3) := by decide +kernel
theorem dX5_nameStatement_326 : decode cX5_nameStatement 326 = .ok (.invokevirtual 296, 3) := by decide +kernel
theorem dX5_nameStatement_329 : decode cX5_nameStatement 329 = .ok (.goto 50, 3) := by decide +kernel
theorem dX5_nameStatement_332 : decode cX5_nameStatement 332 = .ok (.aload_n 0, 1) := by decide +kernel
theorem dX5_nameStatement_333 : decode cX5_nameStatement 333 = .ok (.getfield 18, 3) := by decide +kernel
theorem dX5_nameStatement_336 : decode cX5_nameStatement 336 = .ok (.getfield 36, 3) := by decide +kernel
theorem dX5_nameStatement_339 : decode cX5_nameStatement 339 = .ok (.bipush 57, 2) := by decide +kernel
theorem dX5_nameStatement_341 : decode cX5_nameStatement 341 = .ok (.isub, 1) := by decide +kernel
theorem dX5_nameStatement_342 : decode cX5_nameStatement 342 = .ok (.istore 6, 2) := by decide +kernel
theorem dX5_nameStatement_344 : decode cX5_nameStatement 344 = .ok (.aload_n 0, 1) := by decide +kernel
theorem dX5_nameStatement_345 : decode cX5_nameStatement 345 = .ok (.getfield 18, 3) := by decide +kernel
theorem dX5_nameStatement_348 : decode cX5_nameStatement 348 = .ok (.invokevirtual 30, 3) := by decide +kernel
theorem dX5_nameStatement_351 : decode cX5_nameStatement 351 = .ok (.aload_n 0, 1) := by decide +kernel
theorem dX5_nameStatement_352 : decode cX5_nameStatement 352 = .ok (.iload 5, 2) := by decide +kernel
theorem dX5_nameStatement_354 : decode cX5_nameStatement 354 = .ok (.aload_n 0, 1) := by decide +kernel
theorem dX5_nameStatement_355 : decode cX5_nameStatement 355 = .ok (.iconst (-1), 1) := by decide +kernel
theorem dX5_nameStatement_356 : decode cX5_nameStatement 356 = .ok (.invokevirtual 280, 3) := by decide +kernel
theorem dX5_nameStatement_359 : decode cX5_nameStatement 359 = .ok (.iload 6, 2) := by decide +kernel
theorem dX5_nameStatement_361 : decode cX5_nameStatement 361 = .ok (.invokevirtual 299, 3) := by decide +kernel
theorem dX5_nameStatement_364 : decode cX5_nameStatement 364 = .ok (.goto 15, 3) := by decide +kernel
theorem dX5_nameStatement_367 : decode cX5_nameStatement 367 = .ok (.aload_n 0, 1) := by decide +kernel
theorem dX5_nameStatement_368 : decode cX5_nameStatement 368 = .ok (.iconst 2, 1) := by decide +kernel
theorem dX5_nameStatement_369 : decode cX5_nameStatement 369 = .ok (.aload_n 0, 1) := by decide +kernel
theorem dX5_nameStatement_370 : decode cX5_nameStatement 370 = .ok (.getfield 18, 3) := by decide +kernel
theorem dX5_nameStatement_373 : decode cX5_nameStatement 373 = .ok (.getfield 78, 3) := by decide +kernel
theorem dX5_nameStatement_376 : decode cX5_nameStatement 376 = .ok (.invokevirtual 125, 3) := by decide +kernel
theorem dX5_nameStatement_379 : decode cX5_nameStatement 379 = .ok (.aload_n 0, 1) := by decide +kernel
theorem dX5_nameStatement_380 : decode cX5_nameStatement 380 = .ok (.iload 5, 2) := by decide +kernel
theorem dX5_nameStatement_382 : decode cX5_nameStatement 382 = .ok (.putfield 112, 3) := by decide +kernel
theorem dX5_nameStatement_385 : decode cX5_nameStatement 385 = .ok (.return_, 1) := by decide +kernel
theorem dX5_named_0 : decode cX5_named 0 = .ok (.aload_n 0, 1) := by decide +kernel
theorem dX5_named_1 : decode cX5_named 1 = .ok (.getfield 18, 3) := by decide +kernel
theorem dX5_named_4 : decode cX5_named 4 = .ok (.getfield 78, 3) := by decide +kernel
theorem dX5_named_7 : decode cX5_named 7 = .ok (.istore_n 1, 1) := by decide +kernel
theorem dX5_named_8 : decode cX5_named 8 = .ok (.aload_n 0, 1) := by decide +kernel
theorem dX5_named_9 : decode cX5_named 9 = .ok (.invokevirtual 268, 3) := by decide +kernel
theorem dX5_named_12 : decode cX5_named 12 = .ok (.istore_n 2, 1) := by decide +kernel
theorem dX5_named_13 : decode cX5_named 13 = .ok (.iload_n 2, 1) := by decide +kernel
theorem dX5_named_14 : decode cX5_named 14 = .ok (.iconst (-1), 1) := by decide +kernel
theorem dX5_named_15 : decode cX5_named 15 = .ok (.if_icmp .ne 7, 3) := by decide +kernel
theorem dX5_named_18 : decode cX5_named 18 = .ok (.iconst 2, 1) := by decide +kernel
theorem dX5_named_19 : decode cX5_named 19 = .ok (.goto 12, 3) := by decide +kernel
theorem dX5_named_22 : decode cX5_named 22 = .ok (.aload_n 0, 1) := by decide +kernel
theorem dX5_named_23 : decode cX5_named 23 = .ok (.getfield 93, 3) := by decide +kernel
theorem dX5_named_26 : decode cX5_named 26 = .ok (.getfield 271, 3) := by decide +kernel
theorem dX5_named_29 : decode cX5_named 29 = .ok (.iload_n 2, 1) := by decide +kernel
theorem dX5_named_30 : decode cX5_named 30 = .ok (.iaload, 1) := by decide +kernel
theorem dX5_named_31 : decode cX5_named 31 = .ok (.istore_n 3, 1) := by decide +kernel
theorem dX5_named_32 : decode cX5_named 32 = .ok (.iload_n 3, 1) := by decide +kernel
theorem dX5_named_33 : decode cX5_named 33 = .ok (.iconst 2, 1) := by decide +kernel
theorem dX5_named_34 : decode cX5_named 34 = .ok (.if_icmp .eq 20, 3) := by decide +kernel
theorem dX5_named_37 : decode cX5_named 37 = .ok (.iload_n 3, 1) := by decide +kernel
theorem dX5_named_38 : decode cX5_named 38 = .ok (.iconst 1, 1) := by decide +kernel
theorem dX5_named_39 : decode cX5_named 39 = .ok (.if_icmp .ne 21, 3) := by decide +kernel
theorem dX5_named_42 : decode cX5_named 42 = .ok (.aload_n 0, 1) := by decide +kernel
theorem dX5_named_43 : decode cX5_named 43 = .ok (.getfield 18, 3) := by decide +kernel
theorem dX5_named_46 : decode cX5_named 46 = .ok (.getfield 36, 3) := by decide +kernel
theorem dX5_named_49 : decode cX5_named 49 = .ok (.bipush 10, 2) := by decide +kernel
theorem dX5_named_51 : decode cX5_named 51 = .ok (.if_icmp .eq 9, 3) := by decide +kernel
theorem dX5_named_54 : decode cX5_named 54 = .ok (.aload_n 0, 1) := by decide +kernel
theorem dX5_named_55 : decode cX5_named 55 = .ok (.iconst 5, 1) := by decide +kernel
theorem dX5_named_56 : decode cX5_named 56 = .ok (.iload_n 1, 1) := by decide +kernel
theorem dX5_named_57 : decode cX5_named 57 = .ok (.invokevirtual 125, 3) := by decide +kernel
theorem dX5_named_60 : decode cX5_named 60 = .ok (.iload_n 3, 1) := by decide +kernel
theorem dX5_named_61 : decode cX5_named 61 = .ok (.iconst 1, 1) := by decide +kernel
theorem dX5_named_62 : decode cX5_named 62 = .ok (.if_icmp .ne 18, 3) := by decide +kernel
theorem dX5_named_65 : decode cX5_named 65 = .ok (.aload_n 0, 1) := by decide +kernel
theorem dX5_named_66 : decode cX5_named 66 = .ok (.aload_n 0, 1) := by decide +kernel
theorem dX5_named_67 : decode cX5_named 67 = .ok (.getfield 93, 3) := by decide +kernel
theorem dX5_named_70 : decode cX5_named 70 = .ok (.getfield 274, 3) := by decide +kernel
theorem dX5_named_73 : decode cX5_named 73 = .ok (.iload_n 2, 1) := by decide +kernel
theorem dX5_named_74 : decode cX5_named 74 = .ok (.iaload, 1) := by decide +kernel
theorem dX5_named_75 : decode cX5_named 75 = .ok (.invokevirtual 405, 3) := by decide +kernel
theorem dX5_named_78 : decode cX5_named 78 = .ok (.iconst (-1), 1) := by decide +kernel
theorem dX5_named_79 : decode cX5_named 79 = .ok (.ireturn, 1) := by decide +kernel
theorem dX5_named_80 : decode cX5_named 80 = .ok (.iload_n 3, 1) := by decide +kernel
theorem dX5_named_81 : decode cX5_named 81 = .ok (.iconst 3, 1) := by decide +kernel
theorem dX5_named_82 : decode cX5_named 82 = .ok (.if_icmp .ne 8, 3) := by decide +kernel
theorem dX5_named_85 : decode cX5_named 85 = .ok (.bipush 41, 2) := by decide +kernel
theorem dX5_named_87 : decode cX5_named 87 = .ok (.goto 5, 3) := by decide +kernel
theorem dX5_named_90 : decode cX5_named 90 = .ok (.bipush 35, 2) := by decide +kernel
theorem dX5_named_92 : decode cX5_named 92 = .ok (.istore 4, 2) := by decide +kernel
theorem dX5_named_94 : decode cX5_named 94 = .ok (.aload_n 0, 1) := by decide +kernel
theorem dX5_named_95 : decode cX5_named 95 = .ok (.getfield 93, 3) := by decide +kernel
theorem dX5_named_98 : decode cX5_named 98 = .ok (.aload_n 0, 1) := by decide +kernel
theorem dX5_named_99 : decode cX5_named 99 = .ok (.getfield 93, 3) := by decide +kernel
theorem dX5_named_102 : decode cX5_named 102 = .ok (.getfield 306, 3) := by decide +kernel
theorem dX5_named_105 : decode cX5_named 105 = .ok (.iload_n 2, 1) := by decide +kernel
theorem dX5_named_106 : decode cX5_named 106 = .ok (.iaload, 1) := by decide +kernel
theorem dX5_named_107 : decode cX5_named 107 = .ok (.aload_n 0, 1) := by decide +kernel
theorem dX5_named_108 : decode cX5_named 108 = .ok (.getfield 97, 3) := by decide +kernel
theorem dX5_named_111 : decode cX5_named 111 = .ok (.if_icmp .ne 8, 3) := by decide +kernel
theorem dX5_named_114 : decode cX5_named 114 = .ok (.iload 4, 2) := by decide +kernel
theorem dX5_named_116 : decode cX5_named 116 = .ok (.goto 5, 3) := by decide +kernel
theorem dX5_named_119 : decode cX5_named 119 = .ok (.bipush 36, 2) := by decide +kernel
theorem dX5_named_121 : decode cX5_named 121 = .ok (.aload_n 0, 1) := by decide +kernel
theorem dX5_named_122 : decode cX5_named 122 = .ok (.getfield 93, 3) := by decide +kernel
theorem dX5_named_125 : decode cX5_named 125 = .ok (.getfield 274, 3) := by decide +kernel
theorem dX5_named_128 : decode cX5_named 128 = .ok (.iload_n 2, 1) := by decide +kernel
theorem dX5_named_129 : decode cX5_named 129 = .ok (.iaload, 1) := by decide +kernel
theorem dX5_named_130 : decode cX5_named 130 = .ok (.invokevirtual 66, 3) := by decide +kernel
theorem dX5_named_133 : decode cX5_named 133 = .ok (.pop, 1) := by decide +kernel
theorem dX5_named_134 : decode cX5_named 134 = .ok (.iload_n 2, 1) := by decide +kernel
theorem dX5_named_135 : decode cX5_named 135 = .ok (.ireturn, 1) := by decide +kernel
theorem dX5_number_0 : decode cX5_number 0 = .ok (.aload_n 0, 1) := by decide +kernel
theorem dX5_number_1 : decode cX5_number 1 = .ok (.getfield 22, 3) := by decide +kernel
theorem dX5_number_4 : decode cX5_number 4 = .ok (.aload_n 0, 1) := by decide +kernel
theorem dX5_number_5 : decode cX5_number 5 = .ok (.getfield 18, 3) := by decide +kernel
theorem dX5_number_8 : decode cX5_number 8 = .ok (.getfield 411, 3) := by decide +kernel
theorem dX5_number_11 : decode cX5_number 11 = .ok (.aload_n 0, 1) := by decide +kernel
theorem dX5_number_12 : decode cX5_number 12 = .ok (.getfield 18, 3) := by decide +kernel
theorem dX5_number_15 : decode cX5_number 15 = .ok (.getfield 78, 3) := by decide +kernel
theorem dX5_number_18 : decode cX5_number 18 = .ok (.aload_n 0, 1) := by decide +kernel
theorem dX5_number_19 : decode cX5_number 19 = .ok (.getfield 18, 3) := by decide +kernel
theorem dX5_number_22 : decode cX5_number 22 = .ok (.getfield 415, 3) := by decide +kernel
theorem dX5_number_25 : decode cX5_number 25 = .ok (.invokevirtual 418, 3) := by decide +kernel
theorem dX5_number_28 : decode cX5_number 28 = .ok (.istore_n 1, 1) := by decide +kernel
theorem dX5_number_29 : decode cX5_number 29 = .ok (.aload_n 0, 1) := by decide +kernel
theorem dX5_number_30 : decode cX5_number 30 = .ok (.getfield 22, 3) := by decide +kernel
theorem dX5_number_33 : decode cX5_number 33 = .ok (.iconst 0, 1) := by decide +kernel
theorem dX5_number_34 : decode cX5_number 34 = .ok (.invokevirtual 424, 3) := by decide +kernel
theorem dX5_number_37 : decode cX5_number 37 = .ok (.istore_n 2, 1) := by decide +kernel
theorem dX5_number_38 : decode cX5_number 38 = .ok (.iload_n 1, 1) := by decide +kernel
theorem dX5_number_39 : decode cX5_number 39 = .ok (.ifCond .eq 19, 3) := by decide +kernel
theorem dX5_number_42 : decode cX5_number 42 = .ok (.iload_n 1, 1) := by decide +kernel
theorem dX5_number_43 : decode cX5_number 43 = .ok (.iconst 1, 1) := by decide +kernel
theorem dX5_number_44 : decode cX5_number 44 = .ok (.if_icmp .ne 40, 3) := by decide +kernel
theorem dX5_number_47 : decode cX5_number 47 = .ok (.iload_n 2, 1) := by decide +kernel
theorem dX5_number_48 : decode cX5_number 48 = .ok (.ifCond .lt 36, 3) := by decide +kernel
theorem dX5_number_51 : decode cX5_number 51 = .ok (.iload_n 2, 1) := by decide +kernel
theorem dX5_number_52 : decode cX5_number 52 = .ok (.ldc_w 427, 3) := by decide +kernel
theorem dX5_number_55 : decode cX5_number 55 = .ok (.if_icmp .ge 29, 3) := by decide +kernel
theorem dX5_number_58 : decode cX5_number 58 = .ok (.aload_n 0, 1) := by decide +kernel
theorem dX5_number_59 : decode cX5_number 59 = .ok (.getfield 93, 3) := by decide +kernel
theorem dX5_number_62 : decode cX5_number 62 = .ok (.bipush 33, 2) := by decide +kernel
theorem dX5_number_64 : decode cX5_number 64 = .ok (.iconst 0, 1) := by decide +kernel
theorem dX5_number_65 : decode cX5_number 65 = .ok (.invokevirtual 66, 3) := by decide +kernel
theorem dX5_number_68 : decode cX5_number 68 = .ok (.pop, 1) := by decide +kernel
theorem dX5_number_69 : decode cX5_number 69 = .ok (.aload_n 0, 1) := by decide +kernel
theorem dX5_number_70 : decode cX5_number 70 = .ok (.getfield 93, 3) := by decide +kernel
theorem dX5_number_73 : decode cX5_number 73 = .ok (.iload_n 2, 1) := by decide +kernel
theorem dX5_number_74 : decode cX5_number 74 = .ok (.invokestatic 428, 3) := by decide +kernel
theorem dX5_number_77 : decode cX5_number 77 = .ok (.invokevirtual 243, 3) := by decide +kernel
theorem dX5_number_80 : decode cX5_number 80 = .ok (.pop, 1) := by decide +kernel
theorem dX5_number_81 : decode cX5_number 81 = .ok (.goto 63, 3) := by decide +kernel
theorem dX5_number_84 : decode cX5_number 84 = .ok (.aload_n 0, 1) := by decide +kernel
theorem dX5_number_85 : decode cX5_number 85 = .ok (.getfield 93, 3) := by decide +kernel
theorem dX5_number_88 : decode cX5_number 88 = .ok (.bipush 34, 2) := by decide +kernel
theorem dX5_number_90 : decode cX5_number 90 = .ok (.iload_n 1, 1) := by decide +kernel
theorem dX5_number_91 : decode cX5_number 91 = .ok (.iconst 1, 1) := by decide +kernel
theorem dX5_number_92 : decode cX5_number 92 = .ok (.iadd, 1) := by decide +kernel
theorem dX5_number_93 : decode cX5_number 93 = .ok (.invokevirtual 66, 3) := by decide +kernel
theorem dX5_number_96 : decode cX5_number 96 = .ok (.pop, 1) := by decide +kernel
theorem dX5_number_97 : decode cX5_number 97 = .ok (.aload_n 0, 1) := by decide +kernel
theorem dX5_number_98 : decode cX5_number 98 = .ok (.getfield 93, 3) := by decide +kernel
theorem dX5_number_101 : decode cX5_number 101 = .ok (.iconst 2, 1) := by decide +kernel
theorem dX5_number_102 : decode cX5_number 102 = .ok (.iconst 0, 1) := by decide +kernel
theorem dX5_number_103 : decode cX5_number 103 = .ok (.iload_n 1, 1) := by decide +kernel
theorem dX5_number_104 : decode cX5_number 104 = .ok (.iconst 1, 1) := by decide +kernel
theorem dX5_number_105 : decode cX5_number 105 = .ok (.iload_n 1, 1) := by decide +kernel
theorem dX5_number_106 : decode cX5_number 106 = .ok (.iadd, 1) := by decide +kernel
theorem dX5_number_107 : decode cX5_number 107 = .ok (.iconst 0, 1) := by decide +kernel
theorem dX5_number_108 : decode cX5_number 108 = .ok (.invokestatic 431, 3) := by decide +kernel
theorem dX5_number_111 : decode cX5_number 111 = .ok (.invokevirtual 243, 3) := by decide +kernel
theorem dX5_number_114 : decode cX5_number 114 = .ok (.pop, 1) := by decide +kernel
theorem dX5_number_115 : decode cX5_number 115 = .ok (.iconst 0, 1) := by decide +kernel
theorem dX5_number_116 : decode cX5_number 116 = .ok (.istore_n 3, 1) := by decide +kernel
theorem dX5_number_117 : decode cX5_number 117 = .ok (.iload_n 3, 1) := by decide +kernel
theorem dX5_number_118 : decode cX5_number 118 = .ok (.iload_n 1, 1) := by decide +kernel
theorem dX5_number_119 : decode cX5_number 119 = .ok (.if_icmp .ge 25, 3) := by decide +kernel
theorem dX5_number_122 : decode cX5_number 122 = .ok (.aload_n 0, 1) := by decide +kernel
theorem dX5_number_123 : decode cX5_number 123 = .ok (.getfield 93, 3) := by decide +kernel
theorem dX5_number_126 : decode cX5_number 126 = .ok (.aload_n 0, 1) := by decide +kernel
theorem dX5_number_127 : decode cX5_number 127 = .ok (.getfield 22, 3) := by decide +kernel
theorem dX5_number_130 : decode cX5_number 130 = .ok (.iload_n 3, 1) := by decide +kernel
theorem dX5_number_131 : decode cX5_number 131 = .ok (.invokevirtual 424, 3) := by decide +kernel
theorem dX5_number_134 : decode cX5_number 134 = .ok (.invokevirtual 243, 3) := by decide +kernel
theorem dX5_number_137 : decode cX5_number 137 = .ok (.pop, 1) := by decide +kernel
theorem dX5_number_138 : decode cX5_number 138 = .ok (.iinc 3 1, 3) := by decide +kernel
theorem dX5_number_141 : decode cX5_number 141 = .ok (.goto (-24), 3) := by decide +kernel
theorem dX5_number_144 : decode cX5_number 144 = .ok (.aload_n 0, 1) := by decide +kernel
theorem dX5_number_145 : decode cX5_number 145 = .ok (.getfield 18, 3) := by decide +kernel
theorem dX5_number_148 : decode cX5_number 148 = .ok (.invokevirtual 30, 3) := by decide +kernel
theorem dX5_number_151 : decode cX5_number 151 = .ok (.return_, 1) := by decide +kernel
theorem dX5_opens_0 : decode cX5_opens 0 = .ok (.aload_n 0, 1) := by decide +kernel
theorem dX5_opens_1 : decode cX5_opens 1 = .ok (.getfield 103, 3) := by decide +kernel
theorem dX5_opens_4 : decode cX5_opens 4 = .ok (.bipush 20, 2) := by decide +kernel
theorem dX5_opens_6 : decode cX5_opens 6 = .ok (.if_icmp .lt 15, 3) := by decide +kernel
theorem dX5_opens_9 : decode cX5_opens 9 = .ok (.aload_n 0, 1) := by decide +kernel
theorem dX5_opens_10 : decode cX5_opens 10 = .ok (.iconst 3, 1) := by decide +kernel
theorem dX5_opens_11 : decode cX5_opens 11 = .ok (.aload_n 0, 1) := by decide +kernel
theorem dX5_opens_12 : decode cX5_opens 12 = .ok (.getfield 18, 3) := by decide +kernel
theorem dX5_opens_15 : decode cX5_opens 15 = .ok (.getfield 78, 3) := by decide +kernel
theorem dX5_opens_18 : decode cX5_opens 18 = .ok (.invokevirtual 125, 3) := by decide +kernel
theorem dX5_opens_21 : decode cX5_opens 21 = .ok (.aload_n 0, 1) := by decide +kernel
theorem dX5_opens_22 : decode cX5_opens 22 = .ok (.dup, 1) := by decide +kernel
theorem dX5_opens_23 : decode cX5_opens 23 = .ok (.getfield 103, 3) := by decide +kernel
theorem dX5_opens_26 : decode cX5_opens 26 = .ok (.iconst 1, 1) := by decide +kernel
theorem dX5_opens_27 : decode cX5_opens 27 = .ok (.iadd, 1) := by decide +kernel
theorem dX5_opens_28 : decode cX5_opens 28 = .ok (.putfield 103, 3) := by decide +kernel
theorem dX5_opens_31 : decode cX5_opens 31 = .ok (.aload_n 0, 1) := by decide +kernel
theorem dX5_opens_32 : decode cX5_opens 32 = .ok (.getfield 18, 3) := by decide +kernel
theorem dX5_opens_35 : decode cX5_opens 35 = .ok (.invokevirtual 30, 3) := by decide +kernel
theorem dX5_opens_38 : decode cX5_opens 38 = .ok (.return_, 1) := by decide +kernel
theorem dX5_operand_0 : decode cX5_operand 0 = .ok (.aload_n 0, 1) := by decide +kernel
theorem dX5_operand_1 : decode cX5_operand 1 = .ok (.getfield 18, 3) := by decide +kernel
theorem dX5_operand_4 : decode cX5_operand 4 = .ok (.getfield 78, 3) := by decide +kernel
theorem dX5_operand_7 : decode cX5_operand 7 = .ok (.istore_n 1, 1) := by decide +kernel
theorem dX5_operand_8 : decode cX5_operand 8 = .ok (.aload_n 0, 1) := by decide +kernel
theorem dX5_operand_9 : decode cX5_operand 9 = .ok (.getfield 112, 3) := by decide +kernel
theorem dX5_operand_12 : decode cX5_operand 12 = .ok (.istore_n 2, 1) := by decide +kernel
theorem dX5_operand_13 : decode cX5_operand 13 = .ok (.aload_n 0, 1) := by decide +kernel
theorem dX5_operand_14 : decode cX5_operand 14 = .ok (.invokevirtual 378, 3) := by decide +kernel
theorem dX5_operand_17 : decode cX5_operand 17 = .ok (.istore_n 3, 1) := by decide +kernel
theorem dX5_operand_18 : decode cX5_operand 18 = .ok (.iconst 0, 1) := by decide +kernel
theorem dX5_operand_19 : decode cX5_operand 19 = .ok (.istore 4, 2) := by decide +kernel
theorem dX5_operand_21 : decode cX5_operand 21 = .ok (.iconst 0, 1) := by decide +kernel
theorem dX5_operand_22 : decode cX5_operand 22 = .ok (.istore 5, 2) := by decide +kernel
theorem dX5_operand_24 : decode cX5_operand 24 = .ok (.iload 5, 2) := by decide +kernel
theorem dX5_operand_26 : decode cX5_operand 26 = .ok (.ldc 35, 2) := by decide +kernel
theorem dX5_operand_28 : decode cX5_operand 28 = .ok (.if_icmp .gt 88, 3) := by decide +kernel
theorem dX5_operand_31 : decode cX5_operand 31 = .ok (.aload_n 0, 1) := by decide +kernel
theorem dX5_operand_32 : decode cX5_operand 32 = .ok (.getfield 18, 3) := by decide +kernel
theorem dX5_operand_35 : decode cX5_operand 35 = .ok (.getfield 36, 3) := by decide +kernel
theorem dX5_operand_38 : decode cX5_operand 38 = .ok (.bipush 10, 2) := by decide +kernel
theorem dX5_operand_40 : decode cX5_operand 40 = .ok (.if_icmp .eq 15, 3) := by decide +kernel
theorem dX5_operand_43 : decode cX5_operand 43 = .ok (.aload_n 0, 1) := by decide +kernel
theorem dX5_operand_44 : decode cX5_operand 44 = .ok (.getfield 18, 3) := by decide +kernel
theorem dX5_operand_47 : decode cX5_operand 47 = .ok (.getfield 36, 3) := by decide +kernel
theorem dX5_operand_50 : decode cX5_operand 50 = .ok (.bipush 12, 2) := by decide +kernel
theorem dX5_operand_52 : decode cX5_operand 52 = .ok (.if_icmp .ne 64, 3) := by decide +kernel
theorem dX5_operand_55 : decode cX5_operand 55 = .ok (.aload_n 0, 1) := by decide +kernel
theorem dX5_operand_56 : decode cX5_operand 56 = .ok (.getfield 93, 3) := by decide +kernel
theorem dX5_operand_59 : decode cX5_operand 59 = .ok (.getfield 50, 3) := by decide +kernel
theorem dX5_operand_62 : decode cX5_operand 62 = .ok (.istore 6, 2) := by decide +kernel
theorem dX5_operand_64 : decode cX5_operand 64 = .ok (.aload_n 0, 1) := by decide +kernel
theorem dX5_operand_65 : decode cX5_operand 65 = .ok (.invokevirtual 309, 3) := by decide +kernel
theorem dX5_operand_68 : decode cX5_operand 68 = .ok (.istore 7, 2) := by decide +kernel
theorem dX5_operand_70 : decode cX5_operand 70 = .ok (.aload_n 0, 1) := by decide +kernel
theorem dX5_operand_71 : decode cX5_operand 71 = .ok (.iload 6, 2) := by decide +kernel
theorem dX5_operand_73 : decode cX5_operand 73 = .ok (.invokevirtual 303, 3) := by decide +kernel
theorem dX5_operand_76 : decode cX5_operand 76 = .ok (.pop, 1) := by decide +kernel
theorem dX5_operand_77 : decode cX5_operand 77 = .ok (.aload_n 0, 1) := by decide +kernel
theorem dX5_operand_78 : decode cX5_operand 78 = .ok (.aload_n 0, 1) := by decide +kernel
theorem dX5_operand_79 : decode cX5_operand 79 = .ok (.getfield 93, 3) := by decide +kernel
theorem dX5_operand_82 : decode cX5_operand 82 = .ok (.getfield 50, 3) := by decide +kernel
theorem dX5_operand_85 : decode cX5_operand 85 = .ok (.invokevirtual 303, 3) := by decide +kernel
theorem dX5_operand_88 : decode cX5_operand 88 = .ok (.pop, 1) := by decide +kernel
theorem dX5_operand_89 : decode cX5_operand 89 = .ok (.aload_n 0, 1) := by decide +kernel
theorem dX5_operand_90 : decode cX5_operand 90 = .ok (.iload 7, 2) := by decide +kernel
theorem dX5_operand_92 : decode cX5_operand 92 = .ok (.invokevirtual 303, 3) := by decide +kernel
theorem dX5_operand_95 : decode cX5_operand 95 = .ok (.pop, 1) := by decide +kernel
theorem dX5_operand_96 : decode cX5_operand 96 = .ok (.aload_n 0, 1) := by decide +kernel
theorem dX5_operand_97 : decode cX5_operand 97 = .ok (.getfield 93, 3) := by decide +kernel
theorem dX5_operand_100 : decode cX5_operand 100 = .ok (.iload 7, 2) := by decide +kernel
theorem dX5_operand_102 : decode cX5_operand 102 = .ok (.iconst 0, 1) := by decide +kernel
theorem dX5_operand_103 : decode cX5_operand 103 = .ok (.invokevirtual 66, 3) := by decide +kernel
theorem dX5_operand_106 : decode cX5_operand 106 = .ok (.pop, 1) := by decide +kernel
theorem dX5_operand_107 : decode cX5_operand 107 = .ok (.iinc 4 1, 3) := by decide +kernel
theorem dX5_operand_110 : decode cX5_operand 110 = .ok (.iinc 5 1, 3) := by decide +kernel
theorem dX5_operand_113 : decode cX5_operand 113 = .ok (.goto (-89), 3) := by decide +kernel
theorem dX5_operand_116 : decode cX5_operand 116 = .ok (.aload_n 0, 1) := by decide +kernel
theorem dX5_operand_117 : decode cX5_operand 117 = .ok (.iload_n 3, 1) := by decide +kernel
theorem dX5_operand_118 : decode cX5_operand 118 = .ok (.iconst (-1), 1) := by decide +kernel
theorem dX5_operand_119 : decode cX5_operand 119 = .ok (.if_icmp .ne 7, 3) := by decide +kernel
theorem dX5_operand_122 : decode cX5_operand 122 = .ok (.iconst (-1), 1) := by decide +kernel
theorem dX5_operand_123 : decode cX5_operand 123 = .ok (.goto 4, 3) := by decide +kernel
theorem dX5_operand_126 : decode cX5_operand 126 = .ok (.iload_n 1, 1) := by decide +kernel
theorem dX5_operand_127 : decode cX5_operand 127 = .ok (.putfield 118, 3) := by decide +kernel
theorem dX5_operand_130 : decode cX5_operand 130 = .ok (.aload_n 0, 1) := by decide +kernel
theorem dX5_operand_131 : decode cX5_operand 131 = .ok (.aload_n 0, 1) := by decide +kernel
theorem dX5_operand_132 : decode cX5_operand 132 = .ok (.getfield 93, 3) := by decide +kernel
theorem dX5_operand_135 : decode cX5_operand 135 = .ok (.getfield 50, 3) := by decide +kernel
theorem dX5_operand_138 : decode cX5_operand 138 = .ok (.putfield 341, 3) := by decide +kernel
theorem dX5_operand_141 : decode cX5_operand 141 = .ok (.aload_n 0, 1) := by decide +kernel
theorem dX5_operand_142 : decode cX5_operand 142 = .ok (.iload_n 2, 1) := by decide +kernel
theorem dX5_operand_143 : decode cX5_operand 143 = .ok (.putfield 350, 3) := by decide +kernel
theorem dX5_operand_146 : decode cX5_operand 146 = .ok (.aload_n 0, 1) := by decide +kernel
theorem dX5_operand_147 : decode cX5_operand 147 = .ok (.iload 4, 2) := by decide +kernel
theorem dX5_operand_149 : decode cX5_operand 149 = .ok (.putfield 347, 3) := by decide +kernel
theorem dX5_operand_152 : decode cX5_operand 152 = .ok (.aload_n 0, 1) := by decide +kernel
theorem dX5_operand_153 : decode cX5_operand 153 = .ok (.iload_n 3, 1) := by decide +kernel
theorem dX5_operand_154 : decode cX5_operand 154 = .ok (.putfield 353, 3) := by decide +kernel
theorem dX5_operand_157 : decode cX5_operand 157 = .ok (.aload_n 0, 1) := by decide +kernel
theorem dX5_operand_158 : decode cX5_operand 158 = .ok (.iload_n 2, 1) := by decide +kernel
theorem dX5_operand_159 : decode cX5_operand 159 = .ok (.putfield 112, 3) := by decide +kernel
theorem dX5_operand_162 : decode cX5_operand 162 = .ok (.return_, 1) := by decide +kernel
theorem dX5_operation_0 : decode cX5_operation 0 = .ok (.aload_n 0, 1) := by decide +kernel
theorem dX5_operation_1 : decode cX5_operation 1 = .ok (.getfield 18, 3) := by decide +kernel
theorem dX5_operation_4 : decode cX5_operation 4 = .ok (.invokevirtual 30, 3) := by decide +kernel
theorem dX5_operation_7 : decode cX5_operation 7 = .ok (.aload_n 0, 1) := by decide +kernel
theorem dX5_operation_8 : decode cX5_operation 8 = .ok (.iconst 5, 1) := by decide +kernel
theorem dX5_operation_9 : decode cX5_operation 9 = .ok (.invokevirtual 141, 3) := by decide +kernel
theorem dX5_operation_12 : decode cX5_operation 12 = .ok (.aload_n 0, 1) := by decide +kernel
theorem dX5_operation_13 : decode cX5_operation 13 = .ok (.iconst 0, 1) := by decide +kernel
theorem dX5_operation_14 : decode cX5_operation 14 = .ok (.invokevirtual 90, 3) := by decide +kernel
theorem dX5_operation_17 : decode cX5_operation 17 = .ok (.aload_n 0, 1) := by decide +kernel
theorem dX5_operation_18 : decode cX5_operation 18 = .ok (.sipush 176, 3) := by decide +kernel
theorem dX5_operation_21 : decode cX5_operation 21 = .ok (.iload_n 1, 1) := by decide +kernel
theorem dX5_operation_22 : decode cX5_operation 22 = .ok (.aload_n 0, 1) := by decide +kernel
theorem dX5_operation_23 : decode cX5_operation 23 = .ok (.getfield 9, 3) := by decide +kernel
theorem dX5_operation_26 : decode cX5_operation 26 = .ok (.iload_n 1, 1) := by decide +kernel
theorem dX5_operation_27 : decode cX5_operation 27 = .ok (.iconst 2, 1) := by decide +kernel
theorem dX5_operation_28 : decode cX5_operation 28 = .ok (.iadd, 1) := by decide +kernel
theorem dX5_operation_29 : decode cX5_operation 29 = .ok (.iaload, 1) := by decide +kernel
theorem dX5_operation_30 : decode cX5_operation 30 = .ok (.iconst 1, 1) := by decide +kernel
theorem dX5_operation_31 : decode cX5_operation 31 = .ok (.iadd, 1) := by decide +kernel
theorem dX5_operation_32 : decode cX5_operation 32 = .ok (.invokevirtual 316, 3) := by decide +kernel
theorem dX5_operation_35 : decode cX5_operation 35 = .ok (.aload_n 0, 1) := by decide +kernel
theorem dX5_operation_36 : decode cX5_operation 36 = .ok (.getfield 93, 3) := by decide +kernel
theorem dX5_operation_39 : decode cX5_operation 39 = .ok (.bipush 39, 2) := by decide +kernel
theorem dX5_operation_41 : decode cX5_operation 41 = .ok (.iconst 0, 1) := by decide +kernel
theorem dX5_operation_42 : decode cX5_operation 42 = .ok (.invokevirtual 66, 3) := by decide +kernel
theorem dX5_operation_45 : decode cX5_operation 45 = .ok (.pop, 1) := by decide +kernel
theorem dX5_operation_46 : decode cX5_operation 46 = .ok (.aload_n 0, 1) := by decide +kernel
theorem dX5_operation_47 : decode cX5_operation 47 = .ok (.getfield 93, 3) := by decide +kernel
theorem dX5_operation_50 : decode cX5_operation 50 = .ok (.iload_n 2, 1) := by decide +kernel
theorem dX5_operation_51 : decode cX5_operation 51 = .ok (.bipush 6, 2) := by decide +kernel
theorem dX5_operation_53 : decode cX5_operation 53 = .ok (.if_icmp .ne 9, 3) := by decide +kernel
theorem dX5_operation_56 : decode cX5_operation 56 = .ok (.sipush 128, 3) := by decide +kernel
theorem dX5_operation_59 : decode cX5_operation 59 = .ok (.goto 18, 3) := by decide +kernel
theorem dX5_operation_62 : decode cX5_operation 62 = .ok (.iload_n 2, 1) := by decide +kernel
theorem dX5_operation_63 : decode cX5_operation 63 = .ok (.bipush 7, 2) := by decide +kernel
theorem dX5_operation_65 : decode cX5_operation 65 = .ok (.if_icmp .ne 9, 3) := by decide +kernel
theorem dX5_operation_68 : decode cX5_operation 68 = .ok (.sipush 129, 3) := by decide +kernel
theorem dX5_operation_71 : decode cX5_operation 71 = .ok (.goto 6, 3) := by decide +kernel
theorem dX5_operation_74 : decode cX5_operation 74 = .ok (.sipush 130, 3) := by decide +kernel
theorem dX5_operation_77 : decode cX5_operation 77 = .ok (.iconst 0, 1) := by decide +kernel
theorem dX5_operation_78 : decode cX5_operation 78 = .ok (.invokevirtual 66, 3) := by decide +kernel
theorem dX5_operation_81 : decode cX5_operation 81 = .ok (.pop, 1) := by decide +kernel
theorem dX5_operation_82 : decode cX5_operation 82 = .ok (.aload_n 0, 1) := by decide +kernel
theorem dX5_operation_83 : decode cX5_operation 83 = .ok (.sipush 192, 3) := by decide +kernel
theorem dX5_operation_86 : decode cX5_operation 86 = .ok (.iload_n 1, 1) := by decide +kernel
theorem dX5_operation_87 : decode cX5_operation 87 = .ok (.aload_n 0, 1) := by decide +kernel
theorem dX5_operation_88 : decode cX5_operation 88 = .ok (.getfield 9, 3) := by decide +kernel
theorem dX5_operation_91 : decode cX5_operation 91 = .ok (.iload_n 1, 1) := by decide +kernel
theorem dX5_operation_92 : decode cX5_operation 92 = .ok (.iconst 2, 1) := by decide +kernel
theorem dX5_operation_93 : decode cX5_operation 93 = .ok (.iadd, 1) := by decide +kernel
theorem dX5_operation_94 : decode cX5_operation 94 = .ok (.iaload, 1) := by decide +kernel
theorem dX5_operation_95 : decode cX5_operation 95 = .ok (.iconst 1, 1) := by decide +kernel
theorem dX5_operation_96 : decode cX5_operation 96 = .ok (.iadd, 1) := by decide +kernel
theorem dX5_operation_97 : decode cX5_operation 97 = .ok (.invokevirtual 316, 3) := by decide +kernel
theorem dX5_operation_100 : decode cX5_operation 100 = .ok (.aload_n 0, 1) := by decide +kernel
theorem dX5_operation_101 : decode cX5_operation 101 = .ok (.getfield 93, 3) := by decide +kernel
theorem dX5_operation_104 : decode cX5_operation 104 = .ok (.bipush 37, 2) := by decide +kernel
theorem dX5_operation_106 : decode cX5_operation 106 = .ok (.aload_n 0, 1) := by decide +kernel
theorem dX5_operation_107 : decode cX5_operation 107 = .ok (.getfield 9, 3) := by decide +kernel
theorem dX5_operation_110 : decode cX5_operation 110 = .ok (.iload_n 1, 1) := by decide +kernel
theorem dX5_operation_111 : decode cX5_operation 111 = .ok (.iconst 2, 1) := by decide +kernel
theorem dX5_operation_112 : decode cX5_operation 112 = .ok (.iadd, 1) := by decide +kernel
theorem dX5_operation_113 : decode cX5_operation 113 = .ok (.iaload, 1) := by decide +kernel
theorem dX5_operation_114 : decode cX5_operation 114 = .ok (.iconst 1, 1) := by decide +kernel
theorem dX5_operation_115 : decode cX5_operation 115 = .ok (.iadd, 1) := by decide +kernel
theorem dX5_operation_116 : decode cX5_operation 116 = .ok (.invokevirtual 66, 3) := by decide +kernel
theorem dX5_operation_119 : decode cX5_operation 119 = .ok (.pop, 1) := by decide +kernel
theorem dX5_operation_120 : decode cX5_operation 120 = .ok (.return_, 1) := by decide +kernel
theorem dX5_parameter_0 : decode cX5_parameter 0 = .ok (.aload_n 0, 1) := by decide +kernel
theorem dX5_parameter_1 : decode cX5_parameter 1 = .ok (.iconst 2, 1) := by decide +kernel
theorem dX5_parameter_2 : decode cX5_parameter 2 = .ok (.invokevirtual 61, 3) := by decide +kernel
theorem dX5_parameter_5 : decode cX5_parameter 5 = .ok (.aload_n 0, 1) := by decide +kernel
theorem dX5_parameter_6 : decode cX5_parameter 6 = .ok (.getfield 93, 3) := by decide +kernel
theorem dX5_parameter_9 : decode cX5_parameter 9 = .ok (.iload_n 1, 1) := by decide +kernel
theorem dX5_parameter_10 : decode cX5_parameter 10 = .ok (.aload_n 0, 1) := by decide +kernel
theorem dX5_parameter_11 : decode cX5_parameter 11 = .ok (.getfield 18, 3) := by decide +kernel
theorem dX5_parameter_14 : decode cX5_parameter 14 = .ok (.getfield 150, 3) := by decide +kernel
theorem dX5_parameter_17 : decode cX5_parameter 17 = .ok (.aload_n 0, 1) := by decide +kernel
theorem dX5_parameter_18 : decode cX5_parameter 18 = .ok (.getfield 18, 3) := by decide +kernel
theorem dX5_parameter_21 : decode cX5_parameter 21 = .ok (.getfield 154, 3) := by decide +kernel
theorem dX5_parameter_24 : decode cX5_parameter 24 = .ok (.invokevirtual 164, 3) := by decide +kernel
theorem dX5_parameter_27 : decode cX5_parameter 27 = .ok (.ifCond .eq 15, 3) := by decide +kernel
theorem dX5_parameter_30 : decode cX5_parameter 30 = .ok (.aload_n 0, 1) := by decide +kernel
theorem dX5_parameter_31 : decode cX5_parameter 31 = .ok (.iconst 4, 1) := by decide +kernel
theorem dX5_parameter_32 : decode cX5_parameter 32 = .ok (.aload_n 0, 1) := by decide +kernel
theorem dX5_parameter_33 : decode cX5_parameter 33 = .ok (.getfield 18, 3) := by decide +kernel
theorem dX5_parameter_36 : decode cX5_parameter 36 = .ok (.getfield 78, 3) := by decide +kernel
theorem dX5_parameter_39 : decode cX5_parameter 39 = .ok (.invokevirtual 125, 3) := by decide +kernel
theorem dX5_parameter_42 : decode cX5_parameter 42 = .ok (.aload_n 0, 1) := by decide +kernel
theorem dX5_parameter_43 : decode cX5_parameter 43 = .ok (.getfield 93, 3) := by decide +kernel
theorem dX5_parameter_46 : decode cX5_parameter 46 = .ok (.getfield 176, 3) := by decide +kernel
theorem dX5_parameter_49 : decode cX5_parameter 49 = .ok (.aload_n 0, 1) := by decide +kernel
theorem dX5_parameter_50 : decode cX5_parameter 50 = .ok (.getfield 97, 3) := by decide +kernel
theorem dX5_parameter_53 : decode cX5_parameter 53 = .ok (.iaload, 1) := by decide +kernel
theorem dX5_parameter_54 : decode cX5_parameter 54 = .ok (.bipush 8, 2) := by decide +kernel
theorem dX5_parameter_56 : decode cX5_parameter 56 = .ok (.if_icmp .lt 16, 3) := by decide +kernel
theorem dX5_parameter_59 : decode cX5_parameter 59 = .ok (.aload_n 0, 1) := by decide +kernel
theorem dX5_parameter_60 : decode cX5_parameter 60 = .ok (.bipush 8, 2) := by decide +kernel
theorem dX5_parameter_62 : decode cX5_parameter 62 = .ok (.aload_n 0, 1) := by decide +kernel
theorem dX5_parameter_63 : decode cX5_parameter 63 = .ok (.getfield 18, 3) := by decide +kernel
theorem dX5_parameter_66 : decode cX5_parameter 66 = .ok (.getfield 78, 3) := by decide +kernel
theorem dX5_parameter_69 : decode cX5_parameter 69 = .ok (.invokevirtual 125, 3) := by decide +kernel
theorem dX5_parameter_72 : decode cX5_parameter 72 = .ok (.aload_n 0, 1) := by decide +kernel
theorem dX5_parameter_73 : decode cX5_parameter 73 = .ok (.iload_n 1, 1) := by decide +kernel
theorem dX5_parameter_74 : decode cX5_parameter 74 = .ok (.invokevirtual 138, 3) := by decide +kernel
theorem dX5_parameter_77 : decode cX5_parameter 77 = .ok (.aload_n 0, 1) := by decide +kernel
theorem dX5_parameter_78 : decode cX5_parameter 78 = .ok (.getfield 93, 3) := by decide +kernel
theorem dX5_parameter_81 : decode cX5_parameter 81 = .ok (.getfield 176, 3) := by decide +kernel
theorem dX5_parameter_84 : decode cX5_parameter 84 = .ok (.aload_n 0, 1) := by decide +kernel
theorem dX5_parameter_85 : decode cX5_parameter 85 = .ok (.getfield 97, 3) := by decide +kernel
theorem dX5_parameter_88 : decode cX5_parameter 88 = .ok (.dup2, 1) := by decide +kernel
theorem dX5_parameter_89 : decode cX5_parameter 89 = .ok (.iaload, 1) := by decide +kernel
theorem dX5_parameter_90 : decode cX5_parameter 90 = .ok (.iconst 1, 1) := by decide +kernel
theorem dX5_parameter_91 : decode cX5_parameter 91 = .ok (.iadd, 1) := by decide +kernel
theorem dX5_parameter_92 : decode cX5_parameter 92 = .ok (.iastore, 1) := by decide +kernel
theorem dX5_parameter_93 : decode cX5_parameter 93 = .ok (.return_, 1) := by decide +kernel
theorem dX5_part_0 : decode cX5_part 0 = .ok (.bipush 96, 2) := by decide +kernel
theorem dX5_part_2 : decode cX5_part 2 = .ok (.istore_n 1, 1) := by decide +kernel
theorem dX5_part_3 : decode cX5_part 3 = .ok (.aload_n 0, 1) := by decide +kernel
theorem dX5_part_4 : decode cX5_part 4 = .ok (.getfield 18, 3) := by decide +kernel
theorem dX5_part_7 : decode cX5_part 7 = .ok (.getfield 36, 3) := by decide +kernel
theorem dX5_part_10 : decode cX5_part 10 = .ok (.bipush 12, 2) := by decide +kernel
theorem dX5_part_12 : decode cX5_part 12 = .ok (.if_icmp .ne 21, 3) := by decide +kernel
theorem dX5_part_15 : decode cX5_part 15 = .ok (.aload_n 0, 1) := by decide +kernel
theorem dX5_part_16 : decode cX5_part 16 = .ok (.invokevirtual 173, 3) := by decide +kernel
theorem dX5_part_19 : decode cX5_part 19 = .ok (.aload_n 0, 1) := by decide +kernel
theorem dX5_part_20 : decode cX5_part 20 = .ok (.iconst 0, 1) := by decide +kernel
theorem dX5_part_21 : decode cX5_part 21 = .ok (.invokevirtual 90, 3) := by decide +kernel
theorem dX5_part_24 : decode cX5_part 24 = .ok (.aload_n 0, 1) := by decide +kernel
theorem dX5_part_25 : decode cX5_part 25 = .ok (.bipush 13, 2) := by decide +kernel
theorem dX5_part_27 : decode cX5_part 27 = .ok (.invokevirtual 186, 3) := by decide +kernel
theorem dX5_part_30 : decode cX5_part 30 = .ok (.bipush 98, 2) := by decide +kernel
theorem dX5_part_32 : decode cX5_part 32 = .ok (.ireturn, 1) := by decide +kernel
theorem dX5_part_33 : decode cX5_part 33 = .ok (.aload_n 0, 1) := by decide +kernel
theorem dX5_part_34 : decode cX5_part 34 = .ok (.invokevirtual 173, 3) := by decide +kernel
theorem dX5_part_37 : decode cX5_part 37 = .ok (.aload_n 0, 1) := by decide +kernel
theorem dX5_part_38 : decode cX5_part 38 = .ok (.iconst 0, 1) := by decide +kernel
theorem dX5_part_39 : decode cX5_part 39 = .ok (.invokevirtual 90, 3) := by decide +kernel
theorem dX5_part_42 : decode cX5_part 42 = .ok (.aload_n 0, 1) := by decide +kernel
theorem dX5_part_43 : decode cX5_part 43 = .ok (.getfield 18, 3) := by decide +kernel
theorem dX5_part_46 : decode cX5_part 46 = .ok (.getfield 36, 3) := by decide +kernel
theorem dX5_part_49 : decode cX5_part 49 = .ok (.bipush 28, 2) := by decide +kernel
theorem dX5_part_51 : decode cX5_part 51 = .ok (.if_icmp .ne 18, 3) := by decide +kernel
theorem dX5_part_54 : decode cX5_part 54 = .ok (.aload_n 0, 1) := by decide +kernel
theorem dX5_part_55 : decode cX5_part 55 = .ok (.getfield 18, 3) := by decide +kernel
theorem dX5_part_58 : decode cX5_part 58 = .ok (.invokevirtual 30, 3) := by decide +kernel
theorem dX5_part_61 : decode cX5_part 61 = .ok (.aload_n 0, 1) := by decide +kernel
theorem dX5_part_62 : decode cX5_part 62 = .ok (.iconst 0, 1) := by decide +kernel
theorem dX5_part_63 : decode cX5_part 63 = .ok (.invokevirtual 90, 3) := by decide +kernel
theorem dX5_part_66 : decode cX5_part 66 = .ok (.bipush 97, 2) := by decide +kernel
theorem dX5_part_68 : decode cX5_part 68 = .ok (.istore_n 1, 1) := by decide +kernel
theorem dX5_part_69 : decode cX5_part 69 = .ok (.aload_n 0, 1) := by decide +kernel
theorem dX5_part_70 : decode cX5_part 70 = .ok (.bipush 11, 2) := by decide +kernel
theorem dX5_part_72 : decode cX5_part 72 = .ok (.invokevirtual 186, 3) := by decide +kernel
theorem dX5_part_75 : decode cX5_part 75 = .ok (.iload_n 1, 1) := by decide +kernel
theorem dX5_part_76 : decode cX5_part 76 = .ok (.ireturn, 1) := by decide +kernel
theorem dX5_plainStatement_0 : decode cX5_plainStatement 0 = .ok (.aload_n 0, 1) := by decide +kernel
theorem dX5_plainStatement_1 : decode cX5_plainStatement 1 = .ok (.getfield 18, 3) := by decide +kernel
theorem dX5_plainStatement_4 : decode cX5_plainStatement 4 = .ok (.getfield 36, 3) := by decide +kernel
theorem dX5_plainStatement_7 : decode cX5_plainStatement 7 = .ok (.istore_n 1, 1) := by decide +kernel
theorem dX5_plainStatement_8 : decode cX5_plainStatement 8 = .ok (.aload_n 0, 1) := by decide +kernel
theorem dX5_plainStatement_9 : decode cX5_plainStatement 9 = .ok (.getfield 18, 3) := by decide +kernel
theorem dX5_plainStatement_12 : decode cX5_plainStatement 12 = .ok (.invokevirtual 30, 3) := by decide +kernel
theorem dX5_plainStatement_15 : decode cX5_plainStatement 15 = .ok (.iload_n 1, 1) := by decide +kernel
theorem dX5_plainStatement_16 : decode cX5_plainStatement 16 = .ok (.tableswitch 172 49 55 #[44, 63, 86, 172, 126, 145, 158], 44) := by decide +kernel
theorem dX5_plainStatement_60 : decode cX5_plainStatement 60 = .ok (.aload_n 0, 1) := by decide +kernel
theorem dX5_plainStatement_61 : decode cX5_plainStatement 61 = .ok (.aload_n 0, 1) := by decide +kernel
theorem dX5_plainStatement_62 : decode cX5_plainStatement 62 = .ok (.getfield 93, 3) := by decide +kernel
theorem dX5_plainStatement_65 : decode cX5_plainStatement 65 = .ok (.iconst 3, 1) := by decide +kernel
theorem dX5_plainStatement_66 : decode cX5_plainStatement 66 = .ok (.aload_n 0, 1) := by decide +kernel
theorem dX5_plainStatement_67 : decode cX5_plainStatement 67 = .ok (.getfield 109, 3) := by decide +kernel
theorem dX5_plainStatement_70 : decode cX5_plainStatement 70 = .ok (.invokevirtual 66, 3) := by decide +kernel
theorem dX5_plainStatement_73 : decode cX5_plainStatement 73 = .ok (.putfield 109, 3) := by decide +kernel
theorem dX5_plainStatement_76 : decode cX5_plainStatement 76 = .ok (.goto 123, 3) := by decide +kernel
theorem dX5_plainStatement_79 : decode cX5_plainStatement 79 = .ok (.aload_n 0, 1) := by decide +kernel
theorem dX5_plainStatement_80 : decode cX5_plainStatement 80 = .ok (.getfield 93, 3) := by decide +kernel
theorem dX5_plainStatement_83 : decode cX5_plainStatement 83 = .ok (.aload_n 0, 1) := by decide +kernel
theorem dX5_plainStatement_84 : decode cX5_plainStatement 84 = .ok (.getfield 93, 3) := by decide +kernel
theorem dX5_plainStatement_87 : decode cX5_plainStatement 87 = .ok (.iconst 3, 1) := by decide +kernel
theorem dX5_plainStatement_88 : decode cX5_plainStatement 88 = .ok (.iconst 0, 1) := by decide +kernel
theorem dX5_plainStatement_89 : decode cX5_plainStatement 89 = .ok (.invokevirtual 66, 3) := by decide +kernel
theorem dX5_plainStatement_92 : decode cX5_plainStatement 92 = .ok (.aload_n 0, 1) := by decide +kernel
theorem dX5_plainStatement_93 : decode cX5_plainStatement 93 = .ok (.getfield 106, 3) := by decide +kernel
theorem dX5_plainStatement_96 : decode cX5_plainStatement 96 = .ok (.invokevirtual 240, 3) := by decide +kernel
theorem dX5_plainStatement_99 : decode cX5_plainStatement 99 = .ok (.goto 100, 3) := by decide +kernel
theorem dX5_plainStatement_102 : decode cX5_plainStatement 102 = .ok (.aload_n 0, 1) := by decide +kernel
theorem dX5_plainStatement_103 : decode cX5_plainStatement 103 = .ok (.getfield 18, 3) := by decide +kernel
theorem dX5_plainStatement_106 : decode cX5_plainStatement 106 = .ok (.getfield 36, 3) := by decide +kernel
theorem dX5_plainStatement_109 : decode cX5_plainStatement 109 = .ok (.bipush 17, 2) := by decide +kernel
theorem dX5_plainStatement_111 : decode cX5_plainStatement 111 = .ok (.if_icmp .ne 12, 3) := by decide +kernel
theorem dX5_plainStatement_114 : decode cX5_plainStatement 114 = .ok (.aload_n 0, 1) := by decide +kernel
theorem dX5_plainStatement_115 : decode cX5_plainStatement 115 = .ok (.ldc 198, 2) := by decide +kernel
theorem dX5_plainStatement_117 : decode cX5_plainStatement 117 = .ok (.invokevirtual 199, 3) := by decide +kernel
theorem dX5_plainStatement_120 : decode cX5_plainStatement 120 = .ok (.goto 8, 3) := by decide +kernel
theorem dX5_plainStatement_123 : decode cX5_plainStatement 123 = .ok (.aload_n 0, 1) := by decide +kernel
theorem dX5_plainStatement_124 : decode cX5_plainStatement 124 = .ok (.iconst 0, 1) := by decide +kernel
theorem dX5_plainStatement_125 : decode cX5_plainStatement 125 = .ok (.invokevirtual 90, 3) := by decide +kernel
theorem dX5_plainStatement_128 : decode cX5_plainStatement 128 = .ok (.aload_n 0, 1) := by decide +kernel
theorem dX5_plainStatement_129 : decode cX5_plainStatement 129 = .ok (.getfield 93, 3) := by decide +kernel
theorem dX5_plainStatement_132 : decode cX5_plainStatement 132 = .ok (.bipush 20, 2) := by decide +kernel
theorem dX5_plainStatement_134 : decode cX5_plainStatement 134 = .ok (.iconst 0, 1) := by decide +kernel
theorem dX5_plainStatement_135 : decode cX5_plainStatement 135 = .ok (.invokevirtual 66, 3) := by decide +kernel
theorem dX5_plainStatement_138 : decode cX5_plainStatement 138 = .ok (.pop, 1) := by decide +kernel
theorem dX5_plainStatement_139 : decode cX5_plainStatement 139 = .ok (.goto 60, 3) := by decide +kernel
theorem dX5_plainStatement_142 : decode cX5_plainStatement 142 = .ok (.aload_n 0, 1) := by decide +kernel
theorem dX5_plainStatement_143 : decode cX5_plainStatement 143 = .ok (.iconst 0, 1) := by decide +kernel
theorem dX5_plainStatement_144 : decode cX5_plainStatement 144 = .ok (.invokevirtual 90, 3) := by decide +kernel
theorem dX5_plainStatement_147 : decode cX5_plainStatement 147 = .ok (.aload_n 0, 1) := by decide +kernel
theorem dX5_plainStatement_148 : decode cX5_plainStatement 148 = .ok (.getfield 93, 3) := by decide +kernel
theorem dX5_plainStatement_151 : decode cX5_plainStatement 151 = .ok (.bipush 24, 2) := by decide +kernel
theorem dX5_plainStatement_153 : decode cX5_plainStatement 153 = .ok (.iconst 0, 1) := by decide +kernel
theorem dX5_plainStatement_154 : decode cX5_plainStatement 154 = .ok (.invokevirtual 66, 3) := by decide +kernel
theorem dX5_plainStatement_157 : decode cX5_plainStatement 157 = .ok (.pop, 1) := by decide +kernel
theorem dX5_plainStatement_158 : decode cX5_plainStatement 158 = .ok (.goto 41, 3) := by decide +kernel
theorem dX5_plainStatement_161 : decode cX5_plainStatement 161 = .ok (.aload_n 0, 1) := by decide +kernel
theorem dX5_plainStatement_162 : decode cX5_plainStatement 162 = .ok (.getfield 93, 3) := by decide +kernel
theorem dX5_plainStatement_165 : decode cX5_plainStatement 165 = .ok (.iconst 2, 1) := by decide +kernel
theorem dX5_plainStatement_166 : decode cX5_plainStatement 166 = .ok (.iconst 0, 1) := by decide +kernel
theorem dX5_plainStatement_167 : decode cX5_plainStatement 167 = .ok (.invokevirtual 66, 3) := by decide +kernel
theorem dX5_plainStatement_170 : decode cX5_plainStatement 170 = .ok (.pop, 1) := by decide +kernel
theorem dX5_plainStatement_171 : decode cX5_plainStatement 171 = .ok (.goto 28, 3) := by decide +kernel
theorem dX5_plainStatement_174 : decode cX5_plainStatement 174 = .ok (.aload_n 0, 1) := by decide +kernel
theorem dX5_plainStatement_175 : decode cX5_plainStatement 175 = .ok (.getfield 93, 3) := by decide +kernel
theorem dX5_plainStatement_178 : decode cX5_plainStatement 178 = .ok (.bipush 23, 2) := by decide +kernel
theorem dX5_plainStatement_180 : decode cX5_plainStatement 180 = .ok (.iconst 0, 1) := by decide +kernel
theorem dX5_plainStatement_181 : decode cX5_plainStatement 181 = .ok (.invokevirtual 66, 3) := by decide +kernel
theorem dX5_plainStatement_184 : decode cX5_plainStatement 184 = .ok (.pop, 1) := by decide +kernel
theorem dX5_plainStatement_185 : decode cX5_plainStatement 185 = .ok (.goto 14, 3) := by decide +kernel
theorem dX5_plainStatement_188 : decode cX5_plainStatement 188 = .ok (.aload_n 0, 1) := by decide +kernel
theorem dX5_plainStatement_189 : decode cX5_plainStatement 189 = .ok (.getfield 93, 3) := by decide +kernel
theorem dX5_plainStatement_192 : decode cX5_plainStatement 192 = .ok (.bipush 22, 2) := by decide +kernel
theorem dX5_plainStatement_194 : decode cX5_plainStatement 194 = .ok (.iconst 0, 1) := by decide +kernel
theorem dX5_plainStatement_195 : decode cX5_plainStatement 195 = .ok (.invokevirtual 66, 3) := by decide +kernel
theorem dX5_plainStatement_198 : decode cX5_plainStatement 198 = .ok (.pop, 1) := by decide +kernel
theorem dX5_plainStatement_199 : decode cX5_plainStatement 199 = .ok (.return_, 1) := by decide +kernel
theorem dX5_postpone_0 : decode cX5_postpone 0 = .ok (.aload_n 0, 1) := by decide +kernel
theorem dX5_postpone_1 : decode cX5_postpone 1 = .ok (.iconst 3, 1) := by decide +kernel
theorem dX5_postpone_2 : decode cX5_postpone 2 = .ok (.invokevirtual 129, 3) := by decide +kernel
theorem dX5_postpone_5 : decode cX5_postpone 5 = .ok (.aload_n 0, 1) := by decide +kernel
theorem dX5_postpone_6 : decode cX5_postpone 6 = .ok (.getfield 9, 3) := by decide +kernel
theorem dX5_postpone_9 : decode cX5_postpone 9 = .ok (.aload_n 0, 1) := by decide +kernel
theorem dX5_postpone_10 : decode cX5_postpone 10 = .ok (.getfield 112, 3) := by decide +kernel
theorem dX5_postpone_13 : decode cX5_postpone 13 = .ok (.iload_n 1, 1) := by decide +kernel
theorem dX5_postpone_14 : decode cX5_postpone 14 = .ok (.iastore, 1) := by decide +kernel
theorem dX5_postpone_15 : decode cX5_postpone 15 = .ok (.aload_n 0, 1) := by decide +kernel
theorem dX5_postpone_16 : decode cX5_postpone 16 = .ok (.getfield 9, 3) := by decide +kernel
theorem dX5_postpone_19 : decode cX5_postpone 19 = .ok (.aload_n 0, 1) := by decide +kernel
theorem dX5_postpone_20 : decode cX5_postpone 20 = .ok (.getfield 112, 3) := by decide +kernel
theorem dX5_postpone_23 : decode cX5_postpone 23 = .ok (.iconst 1, 1) := by decide +kernel
theorem dX5_postpone_24 : decode cX5_postpone 24 = .ok (.iadd, 1) := by decide +kernel
theorem dX5_postpone_25 : decode cX5_postpone 25 = .ok (.iload_n 2, 1) := by decide +kernel
theorem dX5_postpone_26 : decode cX5_postpone 26 = .ok (.iastore, 1) := by decide +kernel
theorem dX5_postpone_27 : decode cX5_postpone 27 = .ok (.aload_n 0, 1) := by decide +kernel
theorem dX5_postpone_28 : decode cX5_postpone 28 = .ok (.getfield 9, 3) := by decide +kernel
theorem dX5_postpone_31 : decode cX5_postpone 31 = .ok (.aload_n 0, 1) := by decide +kernel
theorem dX5_postpone_32 : decode cX5_postpone 32 = .ok (.getfield 112, 3) := by decide +kernel
theorem dX5_postpone_35 : decode cX5_postpone 35 = .ok (.iconst 2, 1) := by decide +kernel
theorem dX5_postpone_36 : decode cX5_postpone 36 = .ok (.iadd, 1) := by decide +kernel
theorem dX5_postpone_37 : decode cX5_postpone 37 = .ok (.iload_n 3, 1) := by decide +kernel
theorem dX5_postpone_38 : decode cX5_postpone 38 = .ok (.iastore, 1) := by decide +kernel
theorem dX5_postpone_39 : decode cX5_postpone 39 = .ok (.aload_n 0, 1) := by decide +kernel
theorem dX5_postpone_40 : decode cX5_postpone 40 = .ok (.aload_n 0, 1) := by decide +kernel
theorem dX5_postpone_41 : decode cX5_postpone 41 = .ok (.getfield 112, 3) := by decide +kernel
theorem dX5_postpone_44 : decode cX5_postpone 44 = .ok (.iconst 3, 1) := by decide +kernel
theorem dX5_postpone_45 : decode cX5_postpone 45 = .ok (.iadd, 1) := by decide +kernel
theorem dX5_postpone_46 : decode cX5_postpone 46 = .ok (.putfield 112, 3) := by decide +kernel
theorem dX5_postpone_49 : decode cX5_postpone 49 = .ok (.return_, 1) := by decide +kernel
theorem dX5_postponeTarget_0 : decode cX5_postponeTarget 0 = .ok (.aload_n 0, 1) := by decide +kernel
theorem dX5_postponeTarget_1 : decode cX5_postponeTarget 1 = .ok (.getfield 18, 3) := by decide +kernel
theorem dX5_postponeTarget_4 : decode cX5_postponeTarget 4 = .ok (.getfield 78, 3) := by decide +kernel
theorem dX5_postponeTarget_7 : decode cX5_postponeTarget 7 = .ok (.istore_n 2, 1) := by decide +kernel
theorem dX5_postponeTarget_8 : decode cX5_postponeTarget 8 = .ok (.aload_n 0, 1) := by decide +kernel
theorem dX5_postponeTarget_9 : decode cX5_postponeTarget 9 = .ok (.iconst 0, 1) := by decide +kernel
theorem dX5_postponeTarget_10 : decode cX5_postponeTarget 10 = .ok (.putfield 115, 3) := by decide +kernel
theorem dX5_postponeTarget_13 : decode cX5_postponeTarget 13 = .ok (.aload_n 0, 1) := by decide +kernel
theorem dX5_postponeTarget_14 : decode cX5_postponeTarget 14 = .ok (.aload_n 0, 1) := by decide +kernel
theorem dX5_postponeTarget_15 : decode cX5_postponeTarget 15 = .ok (.getfield 93, 3) := by decide +kernel
theorem dX5_postponeTarget_18 : decode cX5_postponeTarget 18 = .ok (.getfield 246, 3) := by decide +kernel
theorem dX5_postponeTarget_21 : decode cX5_postponeTarget 21 = .ok (.iload_n 1, 1) := by decide +kernel
theorem dX5_postponeTarget_22 : decode cX5_postponeTarget 22 = .ok (.aload_n 0, 1) := by decide +kernel
theorem dX5_postponeTarget_23 : decode cX5_postponeTarget 23 = .ok (.getfield 93, 3) := by decide +kernel
theorem dX5_postponeTarget_26 : decode cX5_postponeTarget 26 = .ok (.getfield 50, 3) := by decide +kernel
theorem dX5_postponeTarget_29 : decode cX5_postponeTarget 29 = .ok (.iload_n 1, 1) := by decide +kernel
theorem dX5_postponeTarget_30 : decode cX5_postponeTarget 30 = .ok (.isub, 1) := by decide +kernel
theorem dX5_postponeTarget_31 : decode cX5_postponeTarget 31 = .ok (.invokevirtual 335, 3) := by decide +kernel
theorem dX5_postponeTarget_34 : decode cX5_postponeTarget 34 = .ok (.aload_n 0, 1) := by decide +kernel
theorem dX5_postponeTarget_35 : decode cX5_postponeTarget 35 = .ok (.getfield 93, 3) := by decide +kernel
theorem dX5_postponeTarget_38 : decode cX5_postponeTarget 38 = .ok (.iload_n 1, 1) := by decide +kernel
theorem dX5_postponeTarget_39 : decode cX5_postponeTarget 39 = .ok (.putfield 50, 3) := by decide +kernel
theorem dX5_postponeTarget_42 : decode cX5_postponeTarget 42 = .ok (.aload_n 0, 1) := by decide +kernel
theorem dX5_postponeTarget_43 : decode cX5_postponeTarget 43 = .ok (.getfield 18, 3) := by decide +kernel
theorem dX5_postponeTarget_46 : decode cX5_postponeTarget 46 = .ok (.invokevirtual 30, 3) := by decide +kernel
theorem dX5_postponeTarget_49 : decode cX5_postponeTarget 49 = .ok (.aload_n 0, 1) := by decide +kernel
theorem dX5_postponeTarget_50 : decode cX5_postponeTarget 50 = .ok (.getfield 18, 3) := by decide +kernel
theorem dX5_postponeTarget_53 : decode cX5_postponeTarget 53 = .ok (.getfield 36, 3) := by decide +kernel
theorem dX5_postponeTarget_56 : decode cX5_postponeTarget 56 = .ok (.bipush 10, 2) := by decide +kernel
theorem dX5_postponeTarget_58 : decode cX5_postponeTarget 58 = .ok (.if_icmp .eq 9, 3) := by decide +kernel
theorem dX5_postponeTarget_61 : decode cX5_postponeTarget 61 = .ok (.aload_n 0, 1) := by decide +kernel
theorem dX5_postponeTarget_62 : decode cX5_postponeTarget 62 = .ok (.iconst 5, 1) := by decide +kernel
theorem dX5_postponeTarget_63 : decode cX5_postponeTarget 63 = .ok (.iload_n 2, 1) := by decide +kernel
theorem dX5_postponeTarget_64 : decode cX5_postponeTarget 64 = .ok (.invokevirtual 125, 3) := by decide +kernel
theorem dX5_postponeTarget_67 : decode cX5_postponeTarget 67 = .ok (.return_, 1) := by decide +kernel
theorem dX5_prefix_0 : decode cX5_prefix 0 = .ok (.aload_n 0, 1) := by decide +kernel
theorem dX5_prefix_1 : decode cX5_prefix 1 = .ok (.getfield 18, 3) := by decide +kernel
theorem dX5_prefix_4 : decode cX5_prefix 4 = .ok (.getfield 36, 3) := by decide +kernel
theorem dX5_prefix_7 : decode cX5_prefix 7 = .ok (.istore_n 3, 1) := by decide +kernel
theorem dX5_prefix_8 : decode cX5_prefix 8 = .ok (.iload_n 3, 1) := by decide +kernel
theorem dX5_prefix_9 : decode cX5_prefix 9 = .ok (.bipush 66, 2) := by decide +kernel
theorem dX5_prefix_11 : decode cX5_prefix 11 = .ok (.if_icmp .ne 28, 3) := by decide +kernel
theorem dX5_prefix_14 : decode cX5_prefix 14 = .ok (.aload_n 0, 1) := by decide +kernel
theorem dX5_prefix_15 : decode cX5_prefix 15 = .ok (.getfield 112, 3) := by decide +kernel
theorem dX5_prefix_18 : decode cX5_prefix 18 = .ok (.iload_n 1, 1) := by decide +kernel
theorem dX5_prefix_19 : decode cX5_prefix 19 = .ok (.if_icmp .ne 7, 3) := by decide +kernel
theorem dX5_prefix_22 : decode cX5_prefix 22 = .ok (.iload_n 2, 1) := by decide +kernel
theorem dX5_prefix_23 : decode cX5_prefix 23 = .ok (.goto 8, 3) := by decide +kernel
theorem dX5_prefix_26 : decode cX5_prefix 26 = .ok (.aload_n 0, 1) := by decide +kernel
theorem dX5_prefix_27 : decode cX5_prefix 27 = .ok (.iload_n 1, 1) := by decide +kernel
theorem dX5_prefix_28 : decode cX5_prefix 28 = .ok (.invokevirtual 369, 3) := by decide +kernel
theorem dX5_prefix_31 : decode cX5_prefix 31 = .ok (.iconst 2, 1) := by decide +kernel
theorem dX5_prefix_32 : decode cX5_prefix 32 = .ok (.if_icmp .gt 7, 3) := by decide +kernel
theorem dX5_prefix_35 : decode cX5_prefix 35 = .ok (.iconst 1, 1) := by decide +kernel
theorem dX5_prefix_36 : decode cX5_prefix 36 = .ok (.goto 4, 3) := by decide +kernel
theorem dX5_prefix_39 : decode cX5_prefix 39 = .ok (.iconst 0, 1) := by decide +kernel
theorem dX5_prefix_40 : decode cX5_prefix 40 = .ok (.istore 4, 2) := by decide +kernel
theorem dX5_prefix_42 : decode cX5_prefix 42 = .ok (.iload_n 3, 1) := by decide +kernel
theorem dX5_prefix_43 : decode cX5_prefix 43 = .ok (.bipush 6, 2) := by decide +kernel
theorem dX5_prefix_45 : decode cX5_prefix 45 = .ok (.if_icmp .ne 7, 3) := by decide +kernel
theorem dX5_prefix_48 : decode cX5_prefix 48 = .ok (.iconst 0, 1) := by decide +kernel
theorem dX5_prefix_49 : decode cX5_prefix 49 = .ok (.goto 34, 3) := by decide +kernel
theorem dX5_prefix_52 : decode cX5_prefix 52 = .ok (.iload_n 3, 1) := by decide +kernel
theorem dX5_prefix_53 : decode cX5_prefix 53 = .ok (.bipush 8, 2) := by decide +kernel
theorem dX5_prefix_55 : decode cX5_prefix 55 = .ok (.if_icmp .ne 7, 3) := by decide +kernel
theorem dX5_prefix_58 : decode cX5_prefix 58 = .ok (.iconst 1, 1) := by decide +kernel
theorem dX5_prefix_59 : decode cX5_prefix 59 = .ok (.goto 24, 3) := by decide +kernel
theorem dX5_prefix_62 : decode cX5_prefix 62 = .ok (.iload_n 3, 1) := by decide +kernel
theorem dX5_prefix_63 : decode cX5_prefix 63 = .ok (.bipush 81, 2) := by decide +kernel
theorem dX5_prefix_65 : decode cX5_prefix 65 = .ok (.if_icmp .ne 7, 3) := by decide +kernel
theorem dX5_prefix_68 : decode cX5_prefix 68 = .ok (.iconst 2, 1) := by decide +kernel
theorem dX5_prefix_69 : decode cX5_prefix 69 = .ok (.goto 14, 3) := by decide +kernel
theorem dX5_prefix_72 : decode cX5_prefix 72 = .ok (.iload_n 3, 1) := by decide +kernel
theorem dX5_prefix_73 : decode cX5_prefix 73 = .ok (.bipush 80, 2) := by decide +kernel
theorem dX5_prefix_75 : decode cX5_prefix 75 = .ok (.if_icmp .ne 7, 3) := by decide +kernel
theorem dX5_prefix_78 : decode cX5_prefix 78 = .ok (.iconst 3, 1) := by decide +kernel
theorem dX5_prefix_79 : decode cX5_prefix 79 = .ok (.goto 4, 3) := by decide +kernel
theorem dX5_prefix_82 : decode cX5_prefix 82 = .ok (.iconst (-1), 1) := by decide +kernel
theorem dX5_prefix_83 : decode cX5_prefix 83 = .ok (.istore 5, 2) := by decide +kernel
theorem dX5_prefix_85 : decode cX5_prefix 85 = .ok (.iload 4, 2) := by decide +kernel
theorem dX5_prefix_87 : decode cX5_prefix 87 = .ok (.ifCond .ne 23, 3) := by decide +kernel
theorem dX5_prefix_90 : decode cX5_prefix 90 = .ok (.iload 5, 2) := by decide +kernel
theorem dX5_prefix_92 : decode cX5_prefix 92 = .ok (.iconst (-1), 1) := by decide +kernel
theorem dX5_prefix_93 : decode cX5_prefix 93 = .ok (.if_icmp .ne 17, 3) := by decide +kernel
theorem dX5_prefix_96 : decode cX5_prefix 96 = .ok (.iload_n 3, 1) := by decide +kernel
theorem dX5_prefix_97 : decode cX5_prefix 97 = .ok (.bipush 7, 2) := by decide +kernel
theorem dX5_prefix_99 : decode cX5_prefix 99 = .ok (.if_icmp .eq 11, 3) := by decide +kernel
theorem dX5_prefix_102 : decode cX5_prefix 102 = .ok (.iload_n 3, 1) := by decide +kernel
theorem dX5_prefix_103 : decode cX5_prefix 103 = .ok (.bipush 26, 2) := by decide +kernel
theorem dX5_prefix_105 : decode cX5_prefix 105 = .ok (.if_icmp .eq 5, 3) := by decide +kernel
theorem dX5_prefix_108 : decode cX5_prefix 108 = .ok (.iconst 0, 1) := by decide +kernel
theorem dX5_prefix_109 : decode cX5_prefix 109 = .ok (.ireturn, 1) := by decide +kernel
theorem dX5_prefix_110 : decode cX5_prefix 110 = .ok (.aload_n 0, 1) := by decide +kernel
theorem dX5_prefix_111 : decode cX5_prefix 111 = .ok (.getfield 103, 3) := by decide +kernel
theorem dX5_prefix_114 : decode cX5_prefix 114 = .ok (.bipush 20, 2) := by decide +kernel
theorem dX5_prefix_116 : decode cX5_prefix 116 = .ok (.if_icmp .lt 15, 3) := by decide +kernel
theorem dX5_prefix_119 : decode cX5_prefix 119 = .ok (.aload_n 0, 1) := by decide +kernel
theorem dX5_prefix_120 : decode cX5_prefix 120 = .ok (.iconst 3, 1) := by decide +kernel
theorem dX5_prefix_121 : decode cX5_prefix 121 = .ok (.aload_n 0, 1) := by decide +kernel
theorem dX5_prefix_122 : decode cX5_prefix 122 = .ok (.getfield 18, 3) := by decide +kernel
theorem dX5_prefix_125 : decode cX5_prefix 125 = .ok (.getfield 78, 3) := by decide +kernel
theorem dX5_prefix_128 : decode cX5_prefix 128 = .ok (.invokevirtual 125, 3) := by decide +kernel
theorem dX5_prefix_131 : decode cX5_prefix 131 = .ok (.aload_n 0, 1) := by decide +kernel
theorem dX5_prefix_132 : decode cX5_prefix 132 = .ok (.dup, 1) := by decide +kernel
theorem dX5_prefix_133 : decode cX5_prefix 133 = .ok (.getfield 103, 3) := by decide +kernel
theorem dX5_prefix_136 : decode cX5_prefix 136 = .ok (.iconst 1, 1) := by decide +kernel
theorem dX5_prefix_137 : decode cX5_prefix 137 = .ok (.iadd, 1) := by decide +kernel
theorem dX5_prefix_138 : decode cX5_prefix 138 = .ok (.putfield 103, 3) := by decide +kernel
theorem dX5_prefix_141 : decode cX5_prefix 141 = .ok (.aload_n 0, 1) := by decide +kernel
theorem dX5_prefix_142 : decode cX5_prefix 142 = .ok (.getfield 18, 3) := by decide +kernel
theorem dX5_prefix_145 : decode cX5_prefix 145 = .ok (.invokevirtual 30, 3) := by decide +kernel
theorem dX5_prefix_148 : decode cX5_prefix 148 = .ok (.iload 4, 2) := by decide +kernel
theorem dX5_prefix_150 : decode cX5_prefix 150 = .ok (.ifCond .eq 14, 3) := by decide +kernel
theorem dX5_prefix_153 : decode cX5_prefix 153 = .ok (.aload_n 0, 1) := by decide +kernel
theorem dX5_prefix_154 : decode cX5_prefix 154 = .ok (.iconst 2, 1) := by decide +kernel
theorem dX5_prefix_155 : decode cX5_prefix 155 = .ok (.bipush 9, 2) := by decide +kernel
theorem dX5_prefix_157 : decode cX5_prefix 157 = .ok (.iconst 0, 1) := by decide +kernel
theorem dX5_prefix_158 : decode cX5_prefix 158 = .ok (.invokevirtual 372, 3) := by decide +kernel
theorem dX5_prefix_161 : decode cX5_prefix 161 = .ok (.goto 50, 3) := by decide +kernel
theorem dX5_prefix_164 : decode cX5_prefix 164 = .ok (.iload 5, 2) := by decide +kernel
theorem dX5_prefix_166 : decode cX5_prefix 166 = .ok (.iconst (-1), 1) := by decide +kernel
theorem dX5_prefix_167 : decode cX5_prefix 167 = .ok (.if_icmp .ne 28, 3) := by decide +kernel
theorem dX5_prefix_170 : decode cX5_prefix 170 = .ok (.aload_n 0, 1) := by decide +kernel
theorem dX5_prefix_171 : decode cX5_prefix 171 = .ok (.bipush 7, 2) := by decide +kernel
theorem dX5_prefix_173 : decode cX5_prefix 173 = .ok (.iload_n 3, 1) := by decide +kernel
theorem dX5_prefix_174 : decode cX5_prefix 174 = .ok (.bipush 7, 2) := by decide +kernel
theorem dX5_prefix_176 : decode cX5_prefix 176 = .ok (.if_icmp .ne 9, 3) := by decide +kernel
theorem dX5_prefix_179 : decode cX5_prefix 179 = .ok (.sipush 160, 3) := by decide +kernel
theorem dX5_prefix_182 : decode cX5_prefix 182 = .ok (.goto 6, 3) := by decide +kernel
theorem dX5_prefix_185 : decode cX5_prefix 185 = .ok (.sipush 161, 3) := by decide +kernel
theorem dX5_prefix_188 : decode cX5_prefix 188 = .ok (.iconst 0, 1) := by decide +kernel
theorem dX5_prefix_189 : decode cX5_prefix 189 = .ok (.invokevirtual 372, 3) := by decide +kernel
theorem dX5_prefix_192 : decode cX5_prefix 192 = .ok (.goto 19, 3) := by decide +kernel
theorem dX5_prefix_195 : decode cX5_prefix 195 = .ok (.aload_n 0, 1) := by decide +kernel
theorem dX5_prefix_196 : decode cX5_prefix 196 = .ok (.bipush 27, 2) := by decide +kernel
theorem dX5_prefix_198 : decode cX5_prefix 198 = .ok (.invokevirtual 141, 3) := by decide +kernel
theorem dX5_prefix_201 : decode cX5_prefix 201 = .ok (.aload_n 0, 1) := by decide +kernel
theorem dX5_prefix_202 : decode cX5_prefix 202 = .ok (.bipush 7, 2) := by decide +kernel
theorem dX5_prefix_204 : decode cX5_prefix 204 = .ok (.bipush 112, 2) := by decide +kernel
theorem dX5_prefix_206 : decode cX5_prefix 206 = .ok (.iload 5, 2) := by decide +kernel
theorem dX5_prefix_208 : decode cX5_prefix 208 = .ok (.invokevirtual 372, 3) := by decide +kernel
theorem dX5_prefix_211 : decode cX5_prefix 211 = .ok (.iconst 1, 1) := by decide +kernel
theorem dX5_prefix_212 : decode cX5_prefix 212 = .ok (.ireturn, 1) := by decide +kernel
theorem dX5_primary_0 : decode cX5_primary 0 = .ok (.aload_n 0, 1) := by decide +kernel
theorem dX5_primary_1 : decode cX5_primary 1 = .ok (.getfield 18, 3) := by decide +kernel
theorem dX5_primary_4 : decode cX5_primary 4 = .ok (.getfield 36, 3) := by decide +kernel
theorem dX5_primary_7 : decode cX5_primary 7 = .ok (.lookupswitch 227 #[(2, 105), (3, 110), (4, 117), (10, 175), (12, 193), (14, 203), (39, 220), (60, 124), (61, 124), (62, 124), (69, 213), (70, 213)], 105) := by decide +kernel
theorem dX5_primary_112 : decode cX5_primary 112 = .ok (.aload_n 0, 1) := by decide +kernel
theorem dX5_primary_113 : decode cX5_primary 113 = .ok (.invokevirtual 381, 3) := by decide +kernel
theorem dX5_primary_116 : decode cX5_primary 116 = .ok (.ireturn, 1) := by decide +kernel
theorem dX5_primary_117 : decode cX5_primary 117 = .ok (.aload_n 0, 1) := by decide +kernel
theorem dX5_primary_118 : decode cX5_primary 118 = .ok (.invokevirtual 384, 3) := by decide +kernel
theorem dX5_primary_121 : decode cX5_primary 121 = .ok (.goto 117, 3) := by decide +kernel
theorem dX5_primary_124 : decode cX5_primary 124 = .ok (.aload_n 0, 1) := by decide +kernel
theorem dX5_primary_125 : decode cX5_primary 125 = .ok (.invokevirtual 387, 3) := by decide +kernel
theorem dX5_primary_128 : decode cX5_primary 128 = .ok (.goto 110, 3) := by decide +kernel
theorem dX5_primary_131 : decode cX5_primary 131 = .ok (.aload_n 0, 1) := by decide +kernel
theorem dX5_primary_132 : decode cX5_primary 132 = .ok (.aload_n 0, 1) := by decide +kernel
theorem dX5_primary_133 : decode cX5_primary 133 = .ok (.getfield 18, 3) := by decide +kernel
theorem dX5_primary_136 : decode cX5_primary 136 = .ok (.getfield 36, 3) := by decide +kernel
theorem dX5_primary_139 : decode cX5_primary 139 = .ok (.bipush 60, 2) := by decide +kernel
theorem dX5_primary_141 : decode cX5_primary 141 = .ok (.if_icmp .ne 8, 3) := by decide +kernel
theorem dX5_primary_144 : decode cX5_primary 144 = .ok (.ldc 198, 2) := by decide +kernel
theorem dX5_primary_146 : decode cX5_primary 146 = .ok (.goto 23, 3) := by decide +kernel
theorem dX5_primary_149 : decode cX5_primary 149 = .ok (.aload_n 0, 1) := by decide +kernel
theorem dX5_primary_150 : decode cX5_primary 150 = .ok (.getfield 18, 3) := by decide +kernel
theorem dX5_primary_153 : decode cX5_primary 153 = .ok (.getfield 36, 3) := by decide +kernel
theorem dX5_primary_156 : decode cX5_primary 156 = .ok (.bipush 61, 2) := by decide +kernel
theorem dX5_primary_158 : decode cX5_primary 158 = .ok (.if_icmp .ne 7, 3) := by decide +kernel
theorem dX5_primary_161 : decode cX5_primary 161 = .ok (.iconst 1, 1) := by decide +kernel
theorem dX5_primary_162 : decode cX5_primary 162 = .ok (.goto 4, 3) := by decide +kernel
theorem dX5_primary_165 : decode cX5_primary 165 = .ok (.iconst 0, 1) := by decide +kernel
theorem dX5_primary_166 : decode cX5_primary 166 = .ok (.invokestatic 390, 3) := by decide +kernel
theorem dX5_primary_169 : decode cX5_primary 169 = .ok (.invokevirtual 199, 3) := by decide +kernel
theorem dX5_primary_172 : decode cX5_primary 172 = .ok (.aload_n 0, 1) := by decide +kernel
theorem dX5_primary_173 : decode cX5_primary 173 = .ok (.getfield 18, 3) := by decide +kernel
theorem dX5_primary_176 : decode cX5_primary 176 = .ok (.invokevirtual 30, 3) := by decide +kernel
theorem dX5_primary_179 : decode cX5_primary 179 = .ok (.goto 59, 3) := by decide +kernel
theorem dX5_primary_182 : decode cX5_primary 182 = .ok (.aload_n 0, 1) := by decide +kernel
theorem dX5_primary_183 : decode cX5_primary 183 = .ok (.invokevirtual 173, 3) := by decide +kernel
theorem dX5_primary_186 : decode cX5_primary 186 = .ok (.aload_n 0, 1) := by decide +kernel
theorem dX5_primary_187 : decode cX5_primary 187 = .ok (.iconst 0, 1) := by decide +kernel
theorem dX5_primary_188 : decode cX5_primary 188 = .ok (.invokevirtual 90, 3) := by decide +kernel
theorem dX5_primary_191 : decode cX5_primary 191 = .ok (.aload_n 0, 1) := by decide +kernel
theorem dX5_primary_192 : decode cX5_primary 192 = .ok (.bipush 11, 2) := by decide +kernel
theorem dX5_primary_194 : decode cX5_primary 194 = .ok (.invokevirtual 186, 3) := by decide +kernel
theorem dX5_primary_197 : decode cX5_primary 197 = .ok (.goto 41, 3) := by decide +kernel
theorem dX5_primary_200 : decode cX5_primary 200 = .ok (.aload_n 0, 1) := by decide +kernel
theorem dX5_primary_201 : decode cX5_primary 201 = .ok (.bipush 13, 2) := by decide +kernel
theorem dX5_primary_203 : decode cX5_primary 203 = .ok (.iconst 0, 1) := by decide +kernel
theorem dX5_primary_204 : decode cX5_primary 204 = .ok (.invokevirtual 394, 3) := by decide +kernel
theorem dX5_primary_207 : decode cX5_primary 207 = .ok (.goto 31, 3) := by decide +kernel
theorem dX5_primary_210 : decode cX5_primary 210 = .ok (.aload_n 0, 1) := by decide +kernel
theorem dX5_primary_211 : decode cX5_primary 211 = .ok (.bipush 15, 2) := by decide +kernel
theorem dX5_primary_213 : decode cX5_primary 213 = .ok (.iconst 1, 1) := by decide +kernel
theorem dX5_primary_214 : decode cX5_primary 214 = .ok (.invokevirtual 394, 3) := by decide +kernel
theorem dX5_primary_217 : decode cX5_primary 217 = .ok (.goto 21, 3) := by decide +kernel
theorem dX5_primary_220 : decode cX5_primary 220 = .ok (.aload_n 0, 1) := by decide +kernel
theorem dX5_primary_221 : decode cX5_primary 221 = .ok (.invokevirtual 397, 3) := by decide +kernel
theorem dX5_primary_224 : decode cX5_primary 224 = .ok (.goto 14, 3) := by decide +kernel
theorem dX5_primary_227 : decode cX5_primary 227 = .ok (.aload_n 0, 1) := by decide +kernel
theorem dX5_primary_228 : decode cX5_primary 228 = .ok (.invokevirtual 400, 3) := by decide +kernel
theorem dX5_primary_231 : decode cX5_primary 231 = .ok (.goto 7, 3) := by decide +kernel
theorem dX5_primary_234 : decode cX5_primary 234 = .ok (.aload_n 0, 1) := by decide +kernel
theorem dX5_primary_235 : decode cX5_primary 235 = .ok (.invokevirtual 403, 3) := by decide +kernel
theorem dX5_primary_238 : decode cX5_primary 238 = .ok (.iconst (-1), 1) := by decide +kernel
theorem dX5_primary_239 : decode cX5_primary 239 = .ok (.ireturn, 1) := by decide +kernel
theorem dX5_procedure_0 : decode cX5_procedure 0 = .ok (.aload_n 0, 1) := by decide +kernel
theorem dX5_procedure_1 : decode cX5_procedure 1 = .ok (.iconst 2, 1) := by decide +kernel
theorem dX5_procedure_2 : decode cX5_procedure 2 = .ok (.invokevirtual 179, 3) := by decide +kernel
theorem dX5_procedure_5 : decode cX5_procedure 5 = .ok (.istore_n 1, 1) := by decide +kernel
theorem dX5_procedure_6 : decode cX5_procedure 6 = .ok (.aload_n 0, 1) := by decide +kernel
theorem dX5_procedure_7 : decode cX5_procedure 7 = .ok (.getfield 93, 3) := by decide +kernel
theorem dX5_procedure_10 : decode cX5_procedure 10 = .ok (.dup, 1) := by decide +kernel
theorem dX5_procedure_11 : decode cX5_procedure 11 = .ok (.getfield 192, 3) := by decide +kernel
theorem dX5_procedure_14 : decode cX5_procedure 14 = .ok (.iconst 1, 1) := by decide +kernel
theorem dX5_procedure_15 : decode cX5_procedure 15 = .ok (.iadd, 1) := by decide +kernel
theorem dX5_procedure_16 : decode cX5_procedure 16 = .ok (.putfield 192, 3) := by decide +kernel
theorem dX5_procedure_19 : decode cX5_procedure 19 = .ok (.aload_n 0, 1) := by decide +kernel
theorem dX5_procedure_20 : decode cX5_procedure 20 = .ok (.getfield 18, 3) := by decide +kernel
theorem dX5_procedure_23 : decode cX5_procedure 23 = .ok (.getfield 36, 3) := by decide +kernel
theorem dX5_procedure_26 : decode cX5_procedure 26 = .ok (.bipush 11, 2) := by decide +kernel
theorem dX5_procedure_28 : decode cX5_procedure 28 = .ok (.if_icmp .eq 46, 3) := by decide +kernel
theorem dX5_procedure_31 : decode cX5_procedure 31 = .ok (.aload_n 0, 1) := by decide +kernel
theorem dX5_procedure_32 : decode cX5_procedure 32 = .ok (.iload_n 1, 1) := by decide +kernel
theorem dX5_procedure_33 : decode cX5_procedure 33 = .ok (.invokevirtual 195, 3) := by decide +kernel
theorem dX5_procedure_36 : decode cX5_procedure 36 = .ok (.iconst 0, 1) := by decide +kernel
theorem dX5_procedure_37 : decode cX5_procedure 37 = .ok (.istore_n 2, 1) := by decide +kernel
theorem dX5_procedure_38 : decode cX5_procedure 38 = .ok (.iload_n 2, 1) := by decide +kernel
theorem dX5_procedure_39 : decode cX5_procedure 39 = .ok (.bipush 8, 2) := by decide +kernel
theorem dX5_procedure_41 : decode cX5_procedure 41 = .ok (.if_icmp .gt 33, 3) := by decide +kernel
theorem dX5_procedure_44 : decode cX5_procedure 44 = .ok (.aload_n 0, 1) := by decide +kernel
theorem dX5_procedure_45 : decode cX5_procedure 45 = .ok (.getfield 18, 3) := by decide +kernel
theorem dX5_procedure_48 : decode cX5_procedure 48 = .ok (.getfield 36, 3) := by decide +kernel
theorem dX5_procedure_51 : decode cX5_procedure 51 = .ok (.bipush 16, 2) := by decide +kernel
theorem dX5_procedure_53 : decode cX5_procedure 53 = .ok (.if_icmp .ne 21, 3) := by decide +kernel
theorem dX5_procedure_56 : decode cX5_procedure 56 = .ok (.aload_n 0, 1) := by decide +kernel
theorem dX5_procedure_57 : decode cX5_procedure 57 = .ok (.getfield 18, 3) := by decide +kernel
theorem dX5_procedure_60 : decode cX5_procedure 60 = .ok (.invokevirtual 30, 3) := by decide +kernel
theorem dX5_procedure_63 : decode cX5_procedure 63 = .ok (.aload_n 0, 1) := by decide +kernel
theorem dX5_procedure_64 : decode cX5_procedure 64 = .ok (.iload_n 1, 1) := by decide +kernel
theorem dX5_procedure_65 : decode cX5_procedure 65 = .ok (.invokevirtual 195, 3) := by decide +kernel
theorem dX5_procedure_68 : decode cX5_procedure 68 = .ok (.iinc 2 1, 3) := by decide +kernel
theorem dX5_procedure_71 : decode cX5_procedure 71 = .ok (.goto (-33), 3) := by decide +kernel
theorem dX5_procedure_74 : decode cX5_procedure 74 = .ok (.aload_n 0, 1) := by decide +kernel
theorem dX5_procedure_75 : decode cX5_procedure 75 = .ok (.bipush 11, 2) := by decide +kernel
theorem dX5_procedure_77 : decode cX5_procedure 77 = .ok (.invokevirtual 186, 3) := by decide +kernel
theorem dX5_procedure_80 : decode cX5_procedure 80 = .ok (.aload_n 0, 1) := by decide +kernel
theorem dX5_procedure_81 : decode cX5_procedure 81 = .ok (.bipush 17, 2) := by decide +kernel
theorem dX5_procedure_83 : decode cX5_procedure 83 = .ok (.invokevirtual 141, 3) := by decide +kernel
theorem dX5_procedure_86 : decode cX5_procedure 86 = .ok (.iconst 0, 1) := by decide +kernel
theorem dX5_procedure_87 : decode cX5_procedure 87 = .ok (.istore_n 2, 1) := by decide +kernel
theorem dX5_procedure_88 : decode cX5_procedure 88 = .ok (.iload_n 2, 1) := by decide +kernel
theorem dX5_procedure_89 : decode cX5_procedure 89 = .ok (.ldc 35, 2) := by decide +kernel
theorem dX5_procedure_91 : decode cX5_procedure 91 = .ok (.if_icmp .gt 26, 3) := by decide +kernel
theorem dX5_procedure_94 : decode cX5_procedure 94 = .ok (.aload_n 0, 1) := by decide +kernel
theorem dX5_procedure_95 : decode cX5_procedure 95 = .ok (.getfield 18, 3) := by decide +kernel
theorem dX5_procedure_98 : decode cX5_procedure 98 = .ok (.getfield 36, 3) := by decide +kernel
theorem dX5_procedure_101 : decode cX5_procedure 101 = .ok (.bipush 32, 2) := by decide +kernel
theorem dX5_procedure_103 : decode cX5_procedure 103 = .ok (.if_icmp .ne 14, 3) := by decide +kernel
theorem dX5_procedure_106 : decode cX5_procedure 106 = .ok (.aload_n 0, 1) := by decide +kernel
theorem dX5_procedure_107 : decode cX5_procedure 107 = .ok (.iload_n 1, 1) := by decide +kernel
theorem dX5_procedure_108 : decode cX5_procedure 108 = .ok (.invokevirtual 40, 3) := by decide +kernel
theorem dX5_procedure_111 : decode cX5_procedure 111 = .ok (.iinc 2 1, 3) := by decide +kernel
theorem dX5_procedure_114 : decode cX5_procedure 114 = .ok (.goto (-26), 3) := by decide +kernel
theorem dX5_procedure_117 : decode cX5_procedure 117 = .ok (.aload_n 0, 1) := by decide +kernel
theorem dX5_procedure_118 : decode cX5_procedure 118 = .ok (.invokevirtual 58, 3) := by decide +kernel
theorem dX5_procedure_121 : decode cX5_procedure 121 = .ok (.aload_n 0, 1) := by decide +kernel
theorem dX5_procedure_122 : decode cX5_procedure 122 = .ok (.bipush 38, 2) := by decide +kernel
theorem dX5_procedure_124 : decode cX5_procedure 124 = .ok (.invokevirtual 141, 3) := by decide +kernel
theorem dX5_procedure_127 : decode cX5_procedure 127 = .ok (.aload_n 0, 1) := by decide +kernel
theorem dX5_procedure_128 : decode cX5_procedure 128 = .ok (.ldc 198, 2) := by decide +kernel
theorem dX5_procedure_130 : decode cX5_procedure 130 = .ok (.invokevirtual 199, 3) := by decide +kernel
theorem dX5_procedure_133 : decode cX5_procedure 133 = .ok (.aload_n 0, 1) := by decide +kernel
theorem dX5_procedure_134 : decode cX5_procedure 134 = .ok (.getfield 93, 3) := by decide +kernel
theorem dX5_procedure_137 : decode cX5_procedure 137 = .ok (.bipush 20, 2) := by decide +kernel
theorem dX5_procedure_139 : decode cX5_procedure 139 = .ok (.iconst 0, 1) := by decide +kernel
theorem dX5_procedure_140 : decode cX5_procedure 140 = .ok (.invokevirtual 66, 3) := by decide +kernel
theorem dX5_procedure_143 : decode cX5_procedure 143 = .ok (.pop, 1) := by decide +kernel
theorem dX5_procedure_144 : decode cX5_procedure 144 = .ok (.aload_n 0, 1) := by decide +kernel
theorem dX5_procedure_145 : decode cX5_procedure 145 = .ok (.bipush 17, 2) := by decide +kernel
theorem dX5_procedure_147 : decode cX5_procedure 147 = .ok (.invokevirtual 141, 3) := by decide +kernel
theorem dX5_procedure_150 : decode cX5_procedure 150 = .ok (.aload_n 0, 1) := by decide +kernel
theorem dX5_procedure_151 : decode cX5_procedure 151 = .ok (.iload_n 1, 1) := by decide +kernel
theorem dX5_procedure_152 : decode cX5_procedure 152 = .ok (.invokevirtual 189, 3) := by decide +kernel
theorem dX5_procedure_155 : decode cX5_procedure 155 = .ok (.return_, 1) := by decide +kernel
theorem dX5_push_0 : decode cX5_push 0 = .ok (.aload_n 0, 1) := by decide +kernel
theorem dX5_push_1 : decode cX5_push 1 = .ok (.getfield 93, 3) := by decide +kernel
theorem dX5_push_4 : decode cX5_push 4 = .ok (.bipush 32, 2) := by decide +kernel
theorem dX5_push_6 : decode cX5_push 6 = .ok (.iconst 0, 1) := by decide +kernel
theorem dX5_push_7 : decode cX5_push 7 = .ok (.invokevirtual 66, 3) := by decide +kernel
theorem dX5_push_10 : decode cX5_push 10 = .ok (.pop, 1) := by decide +kernel
theorem dX5_push_11 : decode cX5_push 11 = .ok (.aload_n 0, 1) := by decide +kernel
theorem dX5_push_12 : decode cX5_push 12 = .ok (.getfield 93, 3) := by decide +kernel
theorem dX5_push_15 : decode cX5_push 15 = .ok (.iload_n 1, 1) := by decide +kernel
theorem dX5_push_16 : decode cX5_push 16 = .ok (.invokevirtual 243, 3) := by decide +kernel
theorem dX5_push_19 : decode cX5_push 19 = .ok (.pop, 1) := by decide +kernel
theorem dX5_push_20 : decode cX5_push 20 = .ok (.return_, 1) := by decide +kernel
theorem dX5_quantifier_0 : decode cX5_quantifier 0 = .ok (.aload_n 0, 1) := by decide +kernel
theorem dX5_quantifier_1 : decode cX5_quantifier 1 = .ok (.getfield 18, 3) := by decide +kernel
theorem dX5_quantifier_4 : decode cX5_quantifier 4 = .ok (.getfield 36, 3) := by decide +kernel
theorem dX5_quantifier_7 : decode cX5_quantifier 7 = .ok (.bipush 69, 2) := by decide +kernel
theorem dX5_quantifier_9 : decode cX5_quantifier 9 = .ok (.if_icmp .ne 7, 3) := by decide +kernel
theorem dX5_quantifier_12 : decode cX5_quantifier 12 = .ok (.iconst 1, 1) := by decide +kernel
theorem dX5_quantifier_13 : decode cX5_quantifier 13 = .ok (.goto 4, 3) := by decide +kernel
theorem dX5_quantifier_16 : decode cX5_quantifier 16 = .ok (.iconst 0, 1) := by decide +kernel
theorem dX5_quantifier_17 : decode cX5_quantifier 17 = .ok (.istore_n 1, 1) := by decide +kernel
theorem dX5_quantifier_18 : decode cX5_quantifier 18 = .ok (.aload_n 0, 1) := by decide +kernel
theorem dX5_quantifier_19 : decode cX5_quantifier 19 = .ok (.invokevirtual 173, 3) := by decide +kernel
theorem dX5_quantifier_22 : decode cX5_quantifier 22 = .ok (.aload_n 0, 1) := by decide +kernel
theorem dX5_quantifier_23 : decode cX5_quantifier 23 = .ok (.getfield 93, 3) := by decide +kernel
theorem dX5_quantifier_26 : decode cX5_quantifier 26 = .ok (.getfield 84, 3) := by decide +kernel
theorem dX5_quantifier_29 : decode cX5_quantifier 29 = .ok (.istore_n 2, 1) := by decide +kernel
theorem dX5_quantifier_30 : decode cX5_quantifier 30 = .ok (.aload_n 0, 1) := by decide +kernel
theorem dX5_quantifier_31 : decode cX5_quantifier 31 = .ok (.getfield 93, 3) := by decide +kernel
theorem dX5_quantifier_34 : decode cX5_quantifier 34 = .ok (.getfield 408, 3) := by decide +kernel
theorem dX5_quantifier_37 : decode cX5_quantifier 37 = .ok (.istore_n 3, 1) := by decide +kernel
theorem dX5_quantifier_38 : decode cX5_quantifier 38 = .ok (.aload_n 0, 1) := by decide +kernel
theorem dX5_quantifier_39 : decode cX5_quantifier 39 = .ok (.iconst 0, 1) := by decide +kernel
theorem dX5_quantifier_40 : decode cX5_quantifier 40 = .ok (.invokevirtual 258, 3) := by decide +kernel
theorem dX5_quantifier_43 : decode cX5_quantifier 43 = .ok (.aload_n 0, 1) := by decide +kernel
theorem dX5_quantifier_44 : decode cX5_quantifier 44 = .ok (.getfield 262, 3) := by decide +kernel
theorem dX5_quantifier_47 : decode cX5_quantifier 47 = .ok (.istore 4, 2) := by decide +kernel
theorem dX5_quantifier_49 : decode cX5_quantifier 49 = .ok (.aload_n 0, 1) := by decide +kernel
theorem dX5_quantifier_50 : decode cX5_quantifier 50 = .ok (.getfield 265, 3) := by decide +kernel
theorem dX5_quantifier_53 : decode cX5_quantifier 53 = .ok (.istore 5, 2) := by decide +kernel
theorem dX5_quantifier_55 : decode cX5_quantifier 55 = .ok (.aload_n 0, 1) := by decide +kernel
theorem dX5_quantifier_56 : decode cX5_quantifier 56 = .ok (.bipush 19, 2) := by decide +kernel
theorem dX5_quantifier_58 : decode cX5_quantifier 58 = .ok (.invokevirtual 141, 3) := by decide +kernel
theorem dX5_quantifier_61 : decode cX5_quantifier 61 = .ok (.aload_n 0, 1) := by decide +kernel
theorem dX5_quantifier_62 : decode cX5_quantifier 62 = .ok (.iconst 0, 1) := by decide +kernel
theorem dX5_quantifier_63 : decode cX5_quantifier 63 = .ok (.invokevirtual 90, 3) := by decide +kernel
theorem dX5_quantifier_66 : decode cX5_quantifier 66 = .ok (.aload_n 0, 1) := by decide +kernel
theorem dX5_quantifier_67 : decode cX5_quantifier 67 = .ok (.dup, 1) := by decide +kernel
theorem dX5_quantifier_68 : decode cX5_quantifier 68 = .ok (.getfield 103, 3) := by decide +kernel
theorem dX5_quantifier_71 : decode cX5_quantifier 71 = .ok (.iconst 1, 1) := by decide +kernel
theorem dX5_quantifier_72 : decode cX5_quantifier 72 = .ok (.isub, 1) := by decide +kernel
theorem dX5_quantifier_73 : decode cX5_quantifier 73 = .ok (.putfield 103, 3) := by decide +kernel
theorem dX5_quantifier_76 : decode cX5_quantifier 76 = .ok (.aload_n 0, 1) := by decide +kernel
theorem dX5_quantifier_77 : decode cX5_quantifier 77 = .ok (.getfield 93, 3) := by decide +kernel
theorem dX5_quantifier_80 : decode cX5_quantifier 80 = .ok (.aload_n 0, 1) := by decide +kernel
theorem dX5_quantifier_81 : decode cX5_quantifier 81 = .ok (.getfield 93, 3) := by decide +kernel
theorem dX5_quantifier_84 : decode cX5_quantifier 84 = .ok (.iload_n 1, 1) := by decide +kernel
theorem dX5_quantifier_85 : decode cX5_quantifier 85 = .ok (.ifCond .eq 7, 3) := by decide +kernel
theorem dX5_quantifier_88 : decode cX5_quantifier 88 = .ok (.iconst 4, 1) := by decide +kernel
theorem dX5_quantifier_89 : decode cX5_quantifier 89 = .ok (.goto 4, 3) := by decide +kernel
theorem dX5_quantifier_92 : decode cX5_quantifier 92 = .ok (.iconst 5, 1) := by decide +kernel
theorem dX5_quantifier_93 : decode cX5_quantifier 93 = .ok (.iconst 0, 1) := by decide +kernel
theorem dX5_quantifier_94 : decode cX5_quantifier 94 = .ok (.invokevirtual 66, 3) := by decide +kernel
theorem dX5_quantifier_97 : decode cX5_quantifier 97 = .ok (.iload 5, 2) := by decide +kernel
theorem dX5_quantifier_99 : decode cX5_quantifier 99 = .ok (.invokevirtual 240, 3) := by decide +kernel
theorem dX5_quantifier_102 : decode cX5_quantifier 102 = .ok (.aload_n 0, 1) := by decide +kernel
theorem dX5_quantifier_103 : decode cX5_quantifier 103 = .ok (.iload_n 1, 1) := by decide +kernel
theorem dX5_quantifier_104 : decode cX5_quantifier 104 = .ok (.invokestatic 390, 3) := by decide +kernel
theorem dX5_quantifier_107 : decode cX5_quantifier 107 = .ok (.invokevirtual 199, 3) := by decide +kernel
theorem dX5_quantifier_110 : decode cX5_quantifier 110 = .ok (.aload_n 0, 1) := by decide +kernel
theorem dX5_quantifier_111 : decode cX5_quantifier 111 = .ok (.getfield 93, 3) := by decide +kernel
theorem dX5_quantifier_114 : decode cX5_quantifier 114 = .ok (.iconst 3, 1) := by decide +kernel
theorem dX5_quantifier_115 : decode cX5_quantifier 115 = .ok (.iconst 0, 1) := by decide +kernel
theorem dX5_quantifier_116 : decode cX5_quantifier 116 = .ok (.invokevirtual 66, 3) := by decide +kernel
theorem dX5_quantifier_119 : decode cX5_quantifier 119 = .ok (.istore 6, 2) := by decide +kernel
theorem dX5_quantifier_121 : decode cX5_quantifier 121 = .ok (.aload_n 0, 1) := by decide +kernel
theorem dX5_quantifier_122 : decode cX5_quantifier 122 = .ok (.getfield 93, 3) := by decide +kernel
theorem dX5_quantifier_125 : decode cX5_quantifier 125 = .ok (.getfield 246, 3) := by decide +kernel
theorem dX5_quantifier_128 : decode cX5_quantifier 128 = .ok (.iload 4, 2) := by decide +kernel
theorem dX5_quantifier_130 : decode cX5_quantifier 130 = .ok (.iconst 1, 1) := by decide +kernel
theorem dX5_quantifier_131 : decode cX5_quantifier 131 = .ok (.iadd, 1) := by decide +kernel
theorem dX5_quantifier_132 : decode cX5_quantifier 132 = .ok (.aload_n 0, 1) := by decide +kernel
theorem dX5_quantifier_133 : decode cX5_quantifier 133 = .ok (.getfield 93, 3) := by decide +kernel
theorem dX5_quantifier_136 : decode cX5_quantifier 136 = .ok (.getfield 50, 3) := by decide +kernel
theorem dX5_quantifier_139 : decode cX5_quantifier 139 = .ok (.iload 4, 2) := by decide +kernel
theorem dX5_quantifier_141 : decode cX5_quantifier 141 = .ok (.isub, 1) := by decide +kernel
theorem dX5_quantifier_142 : decode cX5_quantifier 142 = .ok (.iastore, 1) := by decide +kernel
theorem dX5_quantifier_143 : decode cX5_quantifier 143 = .ok (.aload_n 0, 1) := by decide +kernel
theorem dX5_quantifier_144 : decode cX5_quantifier 144 = .ok (.iload_n 1, 1) := by decide +kernel
theorem dX5_quantifier_145 : decode cX5_quantifier 145 = .ok (.ifCond .ne 7, 3) := by decide +kernel
theorem dX5_quantifier_148 : decode cX5_quantifier 148 = .ok (.iconst 1, 1) := by decide +kernel
theorem dX5_quantifier_149 : decode cX5_quantifier 149 = .ok (.goto 4, 3) := by decide +kernel
theorem dX5_quantifier_152 : decode cX5_quantifier 152 = .ok (.iconst 0, 1) := by decide +kernel
theorem dX5_quantifier_153 : decode cX5_quantifier 153 = .ok (.invokestatic 390, 3) := by decide +kernel
theorem dX5_quantifier_156 : decode cX5_quantifier 156 = .ok (.invokevirtual 199, 3) := by decide +kernel
theorem dX5_quantifier_159 : decode cX5_quantifier 159 = .ok (.aload_n 0, 1) := by decide +kernel
theorem dX5_quantifier_160 : decode cX5_quantifier 160 = .ok (.getfield 93, 3) := by decide +kernel
theorem dX5_quantifier_163 : decode cX5_quantifier 163 = .ok (.iload 6, 2) := by decide +kernel
theorem dX5_quantifier_165 : decode cX5_quantifier 165 = .ok (.aload_n 0, 1) := by decide +kernel
theorem dX5_quantifier_166 : decode cX5_quantifier 166 = .ok (.getfield 93, 3) := by decide +kernel
theorem dX5_quantifier_169 : decode cX5_quantifier 169 = .ok (.getfield 50, 3) := by decide +kernel
theorem dX5_quantifier_172 : decode cX5_quantifier 172 = .ok (.invokevirtual 240, 3) := by decide +kernel
theorem dX5_quantifier_175 : decode cX5_quantifier 175 = .ok (.aload_n 0, 1) := by decide +kernel
theorem dX5_quantifier_176 : decode cX5_quantifier 176 = .ok (.iload_n 3, 1) := by decide +kernel
theorem dX5_quantifier_177 : decode cX5_quantifier 177 = .ok (.invokevirtual 444, 3) := by decide +kernel
theorem dX5_quantifier_180 : decode cX5_quantifier 180 = .ok (.aload_n 0, 1) := by decide +kernel
theorem dX5_quantifier_181 : decode cX5_quantifier 181 = .ok (.getfield 93, 3) := by decide +kernel
theorem dX5_quantifier_184 : decode cX5_quantifier 184 = .ok (.bipush 40, 2) := by decide +kernel
theorem dX5_quantifier_186 : decode cX5_quantifier 186 = .ok (.iconst 0, 1) := by decide +kernel
theorem dX5_quantifier_187 : decode cX5_quantifier 187 = .ok (.invokevirtual 66, 3) := by decide +kernel
theorem dX5_quantifier_190 : decode cX5_quantifier 190 = .ok (.pop, 1) := by decide +kernel
theorem dX5_quantifier_191 : decode cX5_quantifier 191 = .ok (.aload_n 0, 1) := by decide +kernel
theorem dX5_quantifier_192 : decode cX5_quantifier 192 = .ok (.getfield 93, 3) := by decide +kernel
theorem dX5_quantifier_195 : decode cX5_quantifier 195 = .ok (.iload_n 2, 1) := by decide +kernel
theorem dX5_quantifier_196 : decode cX5_quantifier 196 = .ok (.putfield 84, 3) := by decide +kernel
theorem dX5_quantifier_199 : decode cX5_quantifier 199 = .ok (.return_, 1) := by decide +kernel
theorem dX5_readExp_0 : decode cX5_readExp 0 = .ok (.aload_n 1, 1) := by decide +kernel
theorem dX5_readExp_1 : decode cX5_readExp 1 = .ok (.getfield 50, 3) := by decide +kernel
theorem dX5_readExp_4 : decode cX5_readExp 4 = .ok (.istore_n 3, 1) := by decide +kernel
theorem dX5_readExp_5 : decode cX5_readExp 5 = .ok (.aload_n 1, 1) := by decide +kernel
theorem dX5_readExp_6 : decode cX5_readExp 6 = .ok (.getfield 84, 3) := by decide +kernel
theorem dX5_readExp_9 : decode cX5_readExp 9 = .ok (.istore 4, 2) := by decide +kernel
theorem dX5_readExp_11 : decode cX5_readExp 11 = .ok (.aload_n 1, 1) := by decide +kernel
theorem dX5_readExp_12 : decode cX5_readExp 12 = .ok (.bipush 41, 2) := by decide +kernel
theorem dX5_readExp_14 : decode cX5_readExp 14 = .ok (.invokevirtual 87, 3) := by decide +kernel
theorem dX5_readExp_17 : decode cX5_readExp 17 = .ok (.aload_n 0, 1) := by decide +kernel
theorem dX5_readExp_18 : decode cX5_readExp 18 = .ok (.aload_n 1, 1) := by decide +kernel
theorem dX5_readExp_19 : decode cX5_readExp 19 = .ok (.bipush 41, 2) := by decide +kernel
theorem dX5_readExp_21 : decode cX5_readExp 21 = .ok (.iload_n 2, 1) := by decide +kernel
theorem dX5_readExp_22 : decode cX5_readExp 22 = .ok (.invokevirtual 26, 3) := by decide +kernel
theorem dX5_readExp_25 : decode cX5_readExp 25 = .ok (.aload_n 0, 1) := by decide +kernel
theorem dX5_readExp_26 : decode cX5_readExp 26 = .ok (.getfield 18, 3) := by decide +kernel
theorem dX5_readExp_29 : decode cX5_readExp 29 = .ok (.invokevirtual 30, 3) := by decide +kernel
theorem dX5_readExp_32 : decode cX5_readExp 32 = .ok (.aload_n 0, 1) := by decide +kernel
theorem dX5_readExp_33 : decode cX5_readExp 33 = .ok (.iconst 0, 1) := by decide +kernel
theorem dX5_readExp_34 : decode cX5_readExp 34 = .ok (.invokevirtual 90, 3) := by decide +kernel
theorem dX5_readExp_37 : decode cX5_readExp 37 = .ok (.aload_n 0, 1) := by decide +kernel
theorem dX5_readExp_38 : decode cX5_readExp 38 = .ok (.iconst 1, 1) := by decide +kernel
theorem dX5_readExp_39 : decode cX5_readExp 39 = .ok (.invokevirtual 61, 3) := by decide +kernel
theorem dX5_readExp_42 : decode cX5_readExp 42 = .ok (.aload_n 1, 1) := by decide +kernel
theorem dX5_readExp_43 : decode cX5_readExp 43 = .ok (.bipush 10, 2) := by decide +kernel
theorem dX5_readExp_45 : decode cX5_readExp 45 = .ok (.iconst 0, 1) := by decide +kernel
theorem dX5_readExp_46 : decode cX5_readExp 46 = .ok (.invokevirtual 66, 3) := by decide +kernel
theorem dX5_readExp_49 : decode cX5_readExp 49 = .ok (.pop, 1) := by decide +kernel
theorem dX5_readExp_50 : decode cX5_readExp 50 = .ok (.iconst 1, 1) := by decide +kernel
theorem dX5_readExp_51 : decode cX5_readExp 51 = .ok (.ireturn, 1) := by decide +kernel
theorem dX5_readExp_52 : decode cX5_readExp 52 = .ok (.astore 5, 2) := by decide +kernel
theorem dX5_readExp_54 : decode cX5_readExp 54 = .ok (.aload_n 0, 1) := by decide +kernel
theorem dX5_readExp_55 : decode cX5_readExp 55 = .ok (.invokevirtual 72, 3) := by decide +kernel
theorem dX5_readExp_58 : decode cX5_readExp 58 = .ok (.aload_n 1, 1) := by decide +kernel
theorem dX5_readExp_59 : decode cX5_readExp 59 = .ok (.iload_n 3, 1) := by decide +kernel
theorem dX5_readExp_60 : decode cX5_readExp 60 = .ok (.putfield 50, 3) := by decide +kernel
theorem dX5_readExp_63 : decode cX5_readExp 63 = .ok (.aload_n 1, 1) := by decide +kernel
theorem dX5_readExp_64 : decode cX5_readExp 64 = .ok (.iload 4, 2) := by decide +kernel
theorem dX5_readExp_66 : decode cX5_readExp 66 = .ok (.putfield 84, 3) := by decide +kernel
theorem dX5_readExp_69 : decode cX5_readExp 69 = .ok (.iconst 0, 1) := by decide +kernel
theorem dX5_readExp_70 : decode cX5_readExp 70 = .ok (.ireturn, 1) := by decide +kernel
theorem dX5_readProgram_0 : decode cX5_readProgram 0 = .ok (.aload_n 0, 1) := by decide +kernel
theorem dX5_readProgram_1 : decode cX5_readProgram 1 = .ok (.aload_n 1, 1) := by decide +kernel
theorem dX5_readProgram_2 : decode cX5_readProgram 2 = .ok (.iconst 0, 1) := by decide +kernel
theorem dX5_readProgram_3 : decode cX5_readProgram 3 = .ok (.iconst 2, 1) := by decide +kernel
theorem dX5_readProgram_4 : decode cX5_readProgram 4 = .ok (.invokevirtual 26, 3) := by decide +kernel
theorem dX5_readProgram_7 : decode cX5_readProgram 7 = .ok (.aload_n 0, 1) := by decide +kernel
theorem dX5_readProgram_8 : decode cX5_readProgram 8 = .ok (.getfield 18, 3) := by decide +kernel
theorem dX5_readProgram_11 : decode cX5_readProgram 11 = .ok (.invokevirtual 30, 3) := by decide +kernel
theorem dX5_readProgram_14 : decode cX5_readProgram 14 = .ok (.iconst 0, 1) := by decide +kernel
theorem dX5_readProgram_15 : decode cX5_readProgram 15 = .ok (.istore_n 2, 1) := by decide +kernel
theorem dX5_readProgram_16 : decode cX5_readProgram 16 = .ok (.iload_n 2, 1) := by decide +kernel
theorem dX5_readProgram_17 : decode cX5_readProgram 17 = .ok (.ldc 35, 2) := by decide +kernel
theorem dX5_readProgram_19 : decode cX5_readProgram 19 = .ok (.if_icmp .gt 76, 3) := by decide +kernel
theorem dX5_readProgram_22 : decode cX5_readProgram 22 = .ok (.aload_n 0, 1) := by decide +kernel
theorem dX5_readProgram_23 : decode cX5_readProgram 23 = .ok (.getfield 18, 3) := by decide +kernel
theorem dX5_readProgram_26 : decode cX5_readProgram 26 = .ok (.getfield 36, 3) := by decide +kernel
theorem dX5_readProgram_29 : decode cX5_readProgram 29 = .ok (.bipush 32, 2) := by decide +kernel
theorem dX5_readProgram_31 : decode cX5_readProgram 31 = .ok (.if_icmp .lt 64, 3) := by decide +kernel
theorem dX5_readProgram_34 : decode cX5_readProgram 34 = .ok (.aload_n 0, 1) := by decide +kernel
theorem dX5_readProgram_35 : decode cX5_readProgram 35 = .ok (.getfield 18, 3) := by decide +kernel
theorem dX5_readProgram_38 : decode cX5_readProgram 38 = .ok (.getfield 36, 3) := by decide +kernel
theorem dX5_readProgram_41 : decode cX5_readProgram 41 = .ok (.bipush 34, 2) := by decide +kernel
theorem dX5_readProgram_43 : decode cX5_readProgram 43 = .ok (.if_icmp .gt 52, 3) := by decide +kernel
theorem dX5_readProgram_46 : decode cX5_readProgram 46 = .ok (.aload_n 0, 1) := by decide +kernel
theorem dX5_readProgram_47 : decode cX5_readProgram 47 = .ok (.getfield 18, 3) := by decide +kernel
theorem dX5_readProgram_50 : decode cX5_readProgram 50 = .ok (.getfield 36, 3) := by decide +kernel
theorem dX5_readProgram_53 : decode cX5_readProgram 53 = .ok (.bipush 32, 2) := by decide +kernel
theorem dX5_readProgram_55 : decode cX5_readProgram 55 = .ok (.if_icmp .ne 11, 3) := by decide +kernel
theorem dX5_readProgram_58 : decode cX5_readProgram 58 = .ok (.aload_n 0, 1) := by decide +kernel
theorem dX5_readProgram_59 : decode cX5_readProgram 59 = .ok (.iconst 0, 1) := by decide +kernel
theorem dX5_readProgram_60 : decode cX5_readProgram 60 = .ok (.invokevirtual 40, 3) := by decide +kernel
theorem dX5_readProgram_63 : decode cX5_readProgram 63 = .ok (.goto 26, 3) := by decide +kernel
theorem dX5_readProgram_66 : decode cX5_readProgram 66 = .ok (.aload_n 0, 1) := by decide +kernel
theorem dX5_readProgram_67 : decode cX5_readProgram 67 = .ok (.getfield 18, 3) := by decide +kernel
theorem dX5_readProgram_70 : decode cX5_readProgram 70 = .ok (.getfield 36, 3) := by decide +kernel
theorem dX5_readProgram_73 : decode cX5_readProgram 73 = .ok (.bipush 34, 2) := by decide +kernel
theorem dX5_readProgram_75 : decode cX5_readProgram 75 = .ok (.if_icmp .ne 10, 3) := by decide +kernel
theorem dX5_readProgram_78 : decode cX5_readProgram 78 = .ok (.aload_n 0, 1) := by decide +kernel
theorem dX5_readProgram_79 : decode cX5_readProgram 79 = .ok (.invokevirtual 44, 3) := by decide +kernel
theorem dX5_readProgram_82 : decode cX5_readProgram 82 = .ok (.goto 7, 3) := by decide +kernel
theorem dX5_readProgram_85 : decode cX5_readProgram 85 = .ok (.aload_n 0, 1) := by decide +kernel
theorem dX5_readProgram_86 : decode cX5_readProgram 86 = .ok (.invokevirtual 47, 3) := by decide +kernel
theorem dX5_readProgram_89 : decode cX5_readProgram 89 = .ok (.iinc 2 1, 3) := by decide +kernel
theorem dX5_readProgram_92 : decode cX5_readProgram 92 = .ok (.goto (-76), 3) := by decide +kernel
theorem dX5_readProgram_95 : decode cX5_readProgram 95 = .ok (.aload_n 1, 1) := by decide +kernel
theorem dX5_readProgram_96 : decode cX5_readProgram 96 = .ok (.aload_n 1, 1) := by decide +kernel
theorem dX5_readProgram_97 : decode cX5_readProgram 97 = .ok (.getfield 50, 3) := by decide +kernel
theorem dX5_readProgram_100 : decode cX5_readProgram 100 = .ok (.putfield 55, 3) := by decide +kernel
theorem dX5_readProgram_103 : decode cX5_readProgram 103 = .ok (.aload_n 0, 1) := by decide +kernel
theorem dX5_readProgram_104 : decode cX5_readProgram 104 = .ok (.invokevirtual 58, 3) := by decide +kernel
theorem dX5_readProgram_107 : decode cX5_readProgram 107 = .ok (.aload_n 0, 1) := by decide +kernel
theorem dX5_readProgram_108 : decode cX5_readProgram 108 = .ok (.iconst 1, 1) := by decide +kernel
theorem dX5_readProgram_109 : decode cX5_readProgram 109 = .ok (.invokevirtual 61, 3) := by decide +kernel
theorem dX5_readProgram_112 : decode cX5_readProgram 112 = .ok (.aload_n 1, 1) := by decide +kernel
theorem dX5_readProgram_113 : decode cX5_readProgram 113 = .ok (.iconst 1, 1) := by decide +kernel
theorem dX5_readProgram_114 : decode cX5_readProgram 114 = .ok (.iconst 0, 1) := by decide +kernel
theorem dX5_readProgram_115 : decode cX5_readProgram 115 = .ok (.invokevirtual 66, 3) := by decide +kernel
theorem dX5_readProgram_118 : decode cX5_readProgram 118 = .ok (.pop, 1) := by decide +kernel
theorem dX5_readProgram_119 : decode cX5_readProgram 119 = .ok (.iconst 1, 1) := by decide +kernel
theorem dX5_readProgram_120 : decode cX5_readProgram 120 = .ok (.ireturn, 1) := by decide +kernel
theorem dX5_readProgram_121 : decode cX5_readProgram 121 = .ok (.astore_n 2, 1) := by decide +kernel
theorem dX5_readProgram_122 : decode cX5_readProgram 122 = .ok (.aload_n 0, 1) := by decide +kernel
theorem dX5_readProgram_123 : decode cX5_readProgram 123 = .ok (.invokevirtual 72, 3) := by decide +kernel
theorem dX5_readProgram_126 : decode cX5_readProgram 126 = .ok (.iconst 0, 1) := by decide +kernel
theorem dX5_readProgram_127 : decode cX5_readProgram 127 = .ok (.ireturn, 1) := by decide +kernel
theorem dX5_refuse_0 : decode cX5_refuse 0 = .ok (.aload_n 0, 1) := by decide +kernel
theorem dX5_refuse_1 : decode cX5_refuse 1 = .ok (.iload_n 1, 1) := by decide +kernel
theorem dX5_refuse_2 : decode cX5_refuse 2 = .ok (.putfield 75, 3) := by decide +kernel
theorem dX5_refuse_5 : decode cX5_refuse 5 = .ok (.aload_n 0, 1) := by decide +kernel
theorem dX5_refuse_6 : decode cX5_refuse 6 = .ok (.iload_n 2, 1) := by decide +kernel
theorem dX5_refuse_7 : decode cX5_refuse 7 = .ok (.putfield 81, 3) := by decide +kernel
theorem dX5_refuse_10 : decode cX5_refuse 10 = .ok (.new 70, 3) := by decide +kernel
theorem dX5_refuse_13 : decode cX5_refuse 13 = .ok (.dup, 1) := by decide +kernel
theorem dX5_refuse_14 : decode cX5_refuse 14 = .ok (.invokespecial 124, 3) := by decide +kernel
theorem dX5_refuse_17 : decode cX5_refuse 17 = .ok (.athrow, 1) := by decide +kernel
theorem dX5_row_0 : decode cX5_row 0 = .ok (.aload_n 0, 1) := by decide +kernel
theorem dX5_row_1 : decode cX5_row 1 = .ok (.invokevirtual 173, 3) := by decide +kernel
theorem dX5_row_4 : decode cX5_row 4 = .ok (.aload_n 0, 1) := by decide +kernel
theorem dX5_row_5 : decode cX5_row 5 = .ok (.getfield 18, 3) := by decide +kernel
theorem dX5_row_8 : decode cX5_row 8 = .ok (.getfield 36, 3) := by decide +kernel
theorem dX5_row_11 : decode cX5_row 11 = .ok (.bipush 45, 2) := by decide +kernel
theorem dX5_row_13 : decode cX5_row 13 = .ok (.if_icmp .ne 11, 3) := by decide +kernel
theorem dX5_row_16 : decode cX5_row 16 = .ok (.aload_n 0, 1) := by decide +kernel
theorem dX5_row_17 : decode cX5_row 17 = .ok (.iload_n 2, 1) := by decide +kernel
theorem dX5_row_18 : decode cX5_row 18 = .ok (.invokevirtual 438, 3) := by decide +kernel
theorem dX5_row_21 : decode cX5_row 21 = .ok (.goto 80, 3) := by decide +kernel
theorem dX5_row_24 : decode cX5_row 24 = .ok (.aload_n 0, 1) := by decide +kernel
theorem dX5_row_25 : decode cX5_row 25 = .ok (.getfield 18, 3) := by decide +kernel
theorem dX5_row_28 : decode cX5_row 28 = .ok (.getfield 36, 3) := by decide +kernel
theorem dX5_row_31 : decode cX5_row 31 = .ok (.iload_n 1, 1) := by decide +kernel
theorem dX5_row_32 : decode cX5_row 32 = .ok (.if_icmp .ne 19, 3) := by decide +kernel
theorem dX5_row_35 : decode cX5_row 35 = .ok (.aload_n 0, 1) := by decide +kernel
theorem dX5_row_36 : decode cX5_row 36 = .ok (.getfield 93, 3) := by decide +kernel
theorem dX5_row_39 : decode cX5_row 39 = .ok (.bipush 48, 2) := by decide +kernel
theorem dX5_row_41 : decode cX5_row 41 = .ok (.iload_n 2, 1) := by decide +kernel
theorem dX5_row_42 : decode cX5_row 42 = .ok (.iadd, 1) := by decide +kernel
theorem dX5_row_43 : decode cX5_row 43 = .ok (.iconst 0, 1) := by decide +kernel
theorem dX5_row_44 : decode cX5_row 44 = .ok (.invokevirtual 66, 3) := by decide +kernel
theorem dX5_row_47 : decode cX5_row 47 = .ok (.pop, 1) := by decide +kernel
theorem dX5_row_48 : decode cX5_row 48 = .ok (.goto 53, 3) := by decide +kernel
theorem dX5_row_51 : decode cX5_row 51 = .ok (.aload_n 0, 1) := by decide +kernel
theorem dX5_row_52 : decode cX5_row 52 = .ok (.iconst 0, 1) := by decide +kernel
theorem dX5_row_53 : decode cX5_row 53 = .ok (.invokevirtual 90, 3) := by decide +kernel
theorem dX5_row_56 : decode cX5_row 56 = .ok (.aload_n 0, 1) := by decide +kernel
theorem dX5_row_57 : decode cX5_row 57 = .ok (.getfield 18, 3) := by decide +kernel
theorem dX5_row_60 : decode cX5_row 60 = .ok (.getfield 36, 3) := by decide +kernel
theorem dX5_row_63 : decode cX5_row 63 = .ok (.bipush 28, 2) := by decide +kernel
theorem dX5_row_65 : decode cX5_row 65 = .ok (.if_icmp .ne 31, 3) := by decide +kernel
theorem dX5_row_68 : decode cX5_row 68 = .ok (.aload_n 0, 1) := by decide +kernel
theorem dX5_row_69 : decode cX5_row 69 = .ok (.getfield 18, 3) := by decide +kernel
theorem dX5_row_72 : decode cX5_row 72 = .ok (.invokevirtual 30, 3) := by decide +kernel
theorem dX5_row_75 : decode cX5_row 75 = .ok (.aload_n 0, 1) := by decide +kernel
theorem dX5_row_76 : decode cX5_row 76 = .ok (.iconst 0, 1) := by decide +kernel
theorem dX5_row_77 : decode cX5_row 77 = .ok (.invokevirtual 90, 3) := by decide +kernel
theorem dX5_row_80 : decode cX5_row 80 = .ok (.aload_n 0, 1) := by decide +kernel
theorem dX5_row_81 : decode cX5_row 81 = .ok (.getfield 93, 3) := by decide +kernel
theorem dX5_row_84 : decode cX5_row 84 = .ok (.bipush 50, 2) := by decide +kernel
theorem dX5_row_86 : decode cX5_row 86 = .ok (.iload_n 2, 1) := by decide +kernel
theorem dX5_row_87 : decode cX5_row 87 = .ok (.iadd, 1) := by decide +kernel
theorem dX5_row_88 : decode cX5_row 88 = .ok (.iconst 0, 1) := by decide +kernel
theorem dX5_row_89 : decode cX5_row 89 = .ok (.invokevirtual 66, 3) := by decide +kernel
theorem dX5_row_92 : decode cX5_row 92 = .ok (.pop, 1) := by decide +kernel
theorem dX5_row_93 : decode cX5_row 93 = .ok (.goto 8, 3) := by decide +kernel
theorem dX5_row_96 : decode cX5_row 96 = .ok (.aload_n 0, 1) := by decide +kernel
theorem dX5_row_97 : decode cX5_row 97 = .ok (.iload_n 2, 1) := by decide +kernel
theorem dX5_row_98 : decode cX5_row 98 = .ok (.invokevirtual 441, 3) := by decide +kernel
theorem dX5_row_101 : decode cX5_row 101 = .ok (.aload_n 0, 1) := by decide +kernel
theorem dX5_row_102 : decode cX5_row 102 = .ok (.iload_n 1, 1) := by decide +kernel
theorem dX5_row_103 : decode cX5_row 103 = .ok (.invokevirtual 186, 3) := by decide +kernel
theorem dX5_row_106 : decode cX5_row 106 = .ok (.return_, 1) := by decide +kernel
theorem dX5_settle_0 : decode cX5_settle 0 = .ok (.iconst 0, 1) := by decide +kernel
theorem dX5_settle_1 : decode cX5_settle 1 = .ok (.istore_n 3, 1) := by decide +kernel
theorem dX5_settle_2 : decode cX5_settle 2 = .ok (.iload_n 3, 1) := by decide +kernel
theorem dX5_settle_3 : decode cX5_settle 3 = .ok (.ldc 35, 2) := by decide +kernel
theorem dX5_settle_5 : decode cX5_settle 5 = .ok (.if_icmp .gt 162, 3) := by decide +kernel
theorem dX5_settle_8 : decode cX5_settle 8 = .ok (.aload_n 0, 1) := by decide +kernel
theorem dX5_settle_9 : decode cX5_settle 9 = .ok (.getfield 112, 3) := by decide +kernel
theorem dX5_settle_12 : decode cX5_settle 12 = .ok (.iload_n 1, 1) := by decide +kernel
theorem dX5_settle_13 : decode cX5_settle 13 = .ok (.if_icmp .le 154, 3) := by decide +kernel
theorem dX5_settle_16 : decode cX5_settle 16 = .ok (.aload_n 0, 1) := by decide +kernel
theorem dX5_settle_17 : decode cX5_settle 17 = .ok (.getfield 9, 3) := by decide +kernel
theorem dX5_settle_20 : decode cX5_settle 20 = .ok (.aload_n 0, 1) := by decide +kernel
theorem dX5_settle_21 : decode cX5_settle 21 = .ok (.getfield 112, 3) := by decide +kernel
theorem dX5_settle_24 : decode cX5_settle 24 = .ok (.iconst 3, 1) := by decide +kernel
theorem dX5_settle_25 : decode cX5_settle 25 = .ok (.isub, 1) := by decide +kernel
theorem dX5_settle_26 : decode cX5_settle 26 = .ok (.iaload, 1) := by decide +kernel
theorem dX5_settle_27 : decode cX5_settle 27 = .ok (.iload_n 2, 1) := by decide +kernel
theorem dX5_settle_28 : decode cX5_settle 28 = .ok (.if_icmp .lt 139, 3) := by decide +kernel
theorem dX5_settle_31 : decode cX5_settle 31 = .ok (.aload_n 0, 1) := by decide +kernel
theorem dX5_settle_32 : decode cX5_settle 32 = .ok (.aload_n 0, 1) := by decide +kernel
theorem dX5_settle_33 : decode cX5_settle 33 = .ok (.getfield 112, 3) := by decide +kernel
theorem dX5_settle_36 : decode cX5_settle 36 = .ok (.iconst 3, 1) := by decide +kernel
theorem dX5_settle_37 : decode cX5_settle 37 = .ok (.isub, 1) := by decide +kernel
theorem dX5_settle_38 : decode cX5_settle 38 = .ok (.putfield 112, 3) := by decide +kernel
theorem dX5_settle_41 : decode cX5_settle 41 = .ok (.aload_n 0, 1) := by decide +kernel
theorem dX5_settle_42 : decode cX5_settle 42 = .ok (.getfield 9, 3) := by decide +kernel
theorem dX5_settle_45 : decode cX5_settle 45 = .ok (.aload_n 0, 1) := by decide +kernel
theorem dX5_settle_46 : decode cX5_settle 46 = .ok (.getfield 112, 3) := by decide +kernel
theorem dX5_settle_49 : decode cX5_settle 49 = .ok (.iaload, 1) := by decide +kernel
theorem dX5_settle_50 : decode cX5_settle 50 = .ok (.istore 4, 2) := by decide +kernel
theorem dX5_settle_52 : decode cX5_settle 52 = .ok (.aload_n 0, 1) := by decide +kernel
theorem dX5_settle_53 : decode cX5_settle 53 = .ok (.getfield 9, 3) := by decide +kernel
theorem dX5_settle_56 : decode cX5_settle 56 = .ok (.aload_n 0, 1) := by decide +kernel
theorem dX5_settle_57 : decode cX5_settle 57 = .ok (.getfield 112, 3) := by decide +kernel
theorem dX5_settle_60 : decode cX5_settle 60 = .ok (.iconst 2, 1) := by decide +kernel
theorem dX5_settle_61 : decode cX5_settle 61 = .ok (.iadd, 1) := by decide +kernel
theorem dX5_settle_62 : decode cX5_settle 62 = .ok (.iaload, 1) := by decide +kernel
theorem dX5_settle_63 : decode cX5_settle 63 = .ok (.istore 5, 2) := by decide +kernel
theorem dX5_settle_65 : decode cX5_settle 65 = .ok (.aload_n 0, 1) := by decide +kernel
theorem dX5_settle_66 : decode cX5_settle 66 = .ok (.getfield 93, 3) := by decide +kernel
theorem dX5_settle_69 : decode cX5_settle 69 = .ok (.aload_n 0, 1) := by decide +kernel
theorem dX5_settle_70 : decode cX5_settle 70 = .ok (.getfield 9, 3) := by decide +kernel
theorem dX5_settle_73 : decode cX5_settle 73 = .ok (.aload_n 0, 1) := by decide +kernel
theorem dX5_settle_74 : decode cX5_settle 74 = .ok (.getfield 112, 3) := by decide +kernel
theorem dX5_settle_77 : decode cX5_settle 77 = .ok (.iconst 1, 1) := by decide +kernel
theorem dX5_settle_78 : decode cX5_settle 78 = .ok (.iadd, 1) := by decide +kernel
theorem dX5_settle_79 : decode cX5_settle 79 = .ok (.iaload, 1) := by decide +kernel
theorem dX5_settle_80 : decode cX5_settle 80 = .ok (.iconst 0, 1) := by decide +kernel
theorem dX5_settle_81 : decode cX5_settle 81 = .ok (.invokevirtual 66, 3) := by decide +kernel
theorem dX5_settle_84 : decode cX5_settle 84 = .ok (.pop, 1) := by decide +kernel
theorem dX5_settle_85 : decode cX5_settle 85 = .ok (.iload 4, 2) := by decide +kernel
theorem dX5_settle_87 : decode cX5_settle 87 = .ok (.iconst 1, 1) := by decide +kernel
theorem dX5_settle_88 : decode cX5_settle 88 = .ok (.if_icmp .gt 22, 3) := by decide +kernel
theorem dX5_settle_91 : decode cX5_settle 91 = .ok (.aload_n 0, 1) := by decide +kernel
theorem dX5_settle_92 : decode cX5_settle 92 = .ok (.getfield 93, 3) := by decide +kernel
theorem dX5_settle_95 : decode cX5_settle 95 = .ok (.iload 5, 2) := by decide +kernel
theorem dX5_settle_97 : decode cX5_settle 97 = .ok (.aload_n 0, 1) := by decide +kernel
theorem dX5_settle_98 : decode cX5_settle 98 = .ok (.getfield 93, 3) := by decide +kernel
theorem dX5_settle_101 : decode cX5_settle 101 = .ok (.getfield 50, 3) := by decide +kernel
theorem dX5_settle_104 : decode cX5_settle 104 = .ok (.invokevirtual 240, 3) := by decide +kernel
theorem dX5_settle_107 : decode cX5_settle 107 = .ok (.goto 26, 3) := by decide +kernel
theorem dX5_settle_110 : decode cX5_settle 110 = .ok (.iload 4, 2) := by decide +kernel
theorem dX5_settle_112 : decode cX5_settle 112 = .ok (.iconst 2, 1) := by decide +kernel
theorem dX5_settle_113 : decode cX5_settle 113 = .ok (.if_icmp .eq 10, 3) := by decide +kernel
theorem dX5_settle_116 : decode cX5_settle 116 = .ok (.iload 4, 2) := by decide +kernel
theorem dX5_settle_118 : decode cX5_settle 118 = .ok (.bipush 6, 2) := by decide +kernel
theorem dX5_settle_120 : decode cX5_settle 120 = .ok (.if_icmp .lt 13, 3) := by decide +kernel
theorem dX5_settle_123 : decode cX5_settle 123 = .ok (.aload_n 0, 1) := by decide +kernel
theorem dX5_settle_124 : decode cX5_settle 124 = .ok (.dup, 1) := by decide +kernel
theorem dX5_settle_125 : decode cX5_settle 125 = .ok (.getfield 103, 3) := by decide +kernel
theorem dX5_settle_128 : decode cX5_settle 128 = .ok (.iconst 1, 1) := by decide +kernel
theorem dX5_settle_129 : decode cX5_settle 129 = .ok (.isub, 1) := by decide +kernel
theorem dX5_settle_130 : decode cX5_settle 130 = .ok (.putfield 103, 3) := by decide +kernel
theorem dX5_settle_133 : decode cX5_settle 133 = .ok (.aload_n 0, 1) := by decide +kernel
theorem dX5_settle_134 : decode cX5_settle 134 = .ok (.getfield 9, 3) := by decide +kernel
theorem dX5_settle_137 : decode cX5_settle 137 = .ok (.aload_n 0, 1) := by decide +kernel
theorem dX5_settle_138 : decode cX5_settle 138 = .ok (.getfield 112, 3) := by decide +kernel
theorem dX5_settle_141 : decode cX5_settle 141 = .ok (.iconst 1, 1) := by decide +kernel
theorem dX5_settle_142 : decode cX5_settle 142 = .ok (.iadd, 1) := by decide +kernel
theorem dX5_settle_143 : decode cX5_settle 143 = .ok (.iaload, 1) := by decide +kernel
theorem dX5_settle_144 : decode cX5_settle 144 = .ok (.bipush 112, 2) := by decide +kernel
theorem dX5_settle_146 : decode cX5_settle 146 = .ok (.if_icmp .ne 15, 3) := by decide +kernel
theorem dX5_settle_149 : decode cX5_settle 149 = .ok (.aload_n 0, 1) := by decide +kernel
theorem dX5_settle_150 : decode cX5_settle 150 = .ok (.getfield 93, 3) := by decide +kernel
theorem dX5_settle_153 : decode cX5_settle 153 = .ok (.bipush 113, 2) := by decide +kernel
theorem dX5_settle_155 : decode cX5_settle 155 = .ok (.iload 5, 2) := by decide +kernel
theorem dX5_settle_157 : decode cX5_settle 157 = .ok (.invokevirtual 66, 3) := by decide +kernel
theorem dX5_settle_160 : decode cX5_settle 160 = .ok (.pop, 1) := by decide +kernel
theorem dX5_settle_161 : decode cX5_settle 161 = .ok (.iinc 3 1, 3) := by decide +kernel
theorem dX5_settle_164 : decode cX5_settle 164 = .ok (.goto (-162), 3) := by decide +kernel
theorem dX5_settle_167 : decode cX5_settle 167 = .ok (.return_, 1) := by decide +kernel
theorem dX5_statement_0 : decode cX5_statement 0 = .ok (.aload_n 0, 1) := by decide +kernel
theorem dX5_statement_1 : decode cX5_statement 1 = .ok (.getfield 18, 3) := by decide +kernel
theorem dX5_statement_4 : decode cX5_statement 4 = .ok (.getfield 36, 3) := by decide +kernel
theorem dX5_statement_7 : decode cX5_statement 7 = .ok (.lookupswitch 134 #[(2, 57), (14, 64), (39, 71), (43, 78), (45, 86), (52, 93)], 57) := by decide +kernel
theorem dX5_statement_64 : decode cX5_statement 64 = .ok (.aload_n 0, 1) := by decide +kernel
theorem dX5_statement_65 : decode cX5_statement 65 = .ok (.invokevirtual 218, 3) := by decide +kernel
theorem dX5_statement_68 : decode cX5_statement 68 = .ok (.goto 77, 3) := by decide +kernel
theorem dX5_statement_71 : decode cX5_statement 71 = .ok (.aload_n 0, 1) := by decide +kernel
theorem dX5_statement_72 : decode cX5_statement 72 = .ok (.invokevirtual 221, 3) := by decide +kernel
theorem dX5_statement_75 : decode cX5_statement 75 = .ok (.goto 70, 3) := by decide +kernel
theorem dX5_statement_78 : decode cX5_statement 78 = .ok (.aload_n 0, 1) := by decide +kernel
theorem dX5_statement_79 : decode cX5_statement 79 = .ok (.invokevirtual 224, 3) := by decide +kernel
theorem dX5_statement_82 : decode cX5_statement 82 = .ok (.goto 63, 3) := by decide +kernel
theorem dX5_statement_85 : decode cX5_statement 85 = .ok (.aload_n 0, 1) := by decide +kernel
theorem dX5_statement_86 : decode cX5_statement 86 = .ok (.iload_n 1, 1) := by decide +kernel
theorem dX5_statement_87 : decode cX5_statement 87 = .ok (.invokevirtual 227, 3) := by decide +kernel
theorem dX5_statement_90 : decode cX5_statement 90 = .ok (.goto 55, 3) := by decide +kernel
theorem dX5_statement_93 : decode cX5_statement 93 = .ok (.aload_n 0, 1) := by decide +kernel
theorem dX5_statement_94 : decode cX5_statement 94 = .ok (.invokevirtual 230, 3) := by decide +kernel
theorem dX5_statement_97 : decode cX5_statement 97 = .ok (.goto 48, 3) := by decide +kernel
theorem dX5_statement_100 : decode cX5_statement 100 = .ok (.aload_n 0, 1) := by decide +kernel
theorem dX5_statement_101 : decode cX5_statement 101 = .ok (.getfield 18, 3) := by decide +kernel
theorem dX5_statement_104 : decode cX5_statement 104 = .ok (.invokevirtual 30, 3) := by decide +kernel
theorem dX5_statement_107 : decode cX5_statement 107 = .ok (.aload_n 0, 1) := by decide +kernel
theorem dX5_statement_108 : decode cX5_statement 108 = .ok (.bipush 10, 2) := by decide +kernel
theorem dX5_statement_110 : decode cX5_statement 110 = .ok (.invokevirtual 61, 3) := by decide +kernel
theorem dX5_statement_113 : decode cX5_statement 113 = .ok (.aload_n 0, 1) := by decide +kernel
theorem dX5_statement_114 : decode cX5_statement 114 = .ok (.invokevirtual 173, 3) := by decide +kernel
theorem dX5_statement_117 : decode cX5_statement 117 = .ok (.aload_n 0, 1) := by decide +kernel
theorem dX5_statement_118 : decode cX5_statement 118 = .ok (.getfield 93, 3) := by decide +kernel
theorem dX5_statement_121 : decode cX5_statement 121 = .ok (.sipush 208, 3) := by decide +kernel
theorem dX5_statement_124 : decode cX5_statement 124 = .ok (.aload_n 0, 1) := by decide +kernel
theorem dX5_statement_125 : decode cX5_statement 125 = .ok (.invokevirtual 233, 3) := by decide +kernel
theorem dX5_statement_128 : decode cX5_statement 128 = .ok (.invokevirtual 66, 3) := by decide +kernel
theorem dX5_statement_131 : decode cX5_statement 131 = .ok (.pop, 1) := by decide +kernel
theorem dX5_statement_132 : decode cX5_statement 132 = .ok (.aload_n 0, 1) := by decide +kernel
theorem dX5_statement_133 : decode cX5_statement 133 = .ok (.bipush 11, 2) := by decide +kernel
theorem dX5_statement_135 : decode cX5_statement 135 = .ok (.invokevirtual 186, 3) := by decide +kernel
theorem dX5_statement_138 : decode cX5_statement 138 = .ok (.goto 7, 3) := by decide +kernel
theorem dX5_statement_141 : decode cX5_statement 141 = .ok (.aload_n 0, 1) := by decide +kernel
theorem dX5_statement_142 : decode cX5_statement 142 = .ok (.invokevirtual 237, 3) := by decide +kernel
theorem dX5_statement_145 : decode cX5_statement 145 = .ok (.aload_n 0, 1) := by decide +kernel
theorem dX5_statement_146 : decode cX5_statement 146 = .ok (.bipush 17, 2) := by decide +kernel
theorem dX5_statement_148 : decode cX5_statement 148 = .ok (.invokevirtual 141, 3) := by decide +kernel
theorem dX5_statement_151 : decode cX5_statement 151 = .ok (.return_, 1) := by decide +kernel
theorem dX5_string_0 : decode cX5_string 0 = .ok (.aload_n 0, 1) := by decide +kernel
theorem dX5_string_1 : decode cX5_string 1 = .ok (.getfield 18, 3) := by decide +kernel
theorem dX5_string_4 : decode cX5_string 4 = .ok (.getfield 78, 3) := by decide +kernel
theorem dX5_string_7 : decode cX5_string 7 = .ok (.iconst 1, 1) := by decide +kernel
theorem dX5_string_8 : decode cX5_string 8 = .ok (.iadd, 1) := by decide +kernel
theorem dX5_string_9 : decode cX5_string 9 = .ok (.istore_n 1, 1) := by decide +kernel
theorem dX5_string_10 : decode cX5_string 10 = .ok (.aload_n 0, 1) := by decide +kernel
theorem dX5_string_11 : decode cX5_string 11 = .ok (.getfield 18, 3) := by decide +kernel
theorem dX5_string_14 : decode cX5_string 14 = .ok (.getfield 415, 3) := by decide +kernel
theorem dX5_string_17 : decode cX5_string 17 = .ok (.iconst 1, 1) := by decide +kernel
theorem dX5_string_18 : decode cX5_string 18 = .ok (.isub, 1) := by decide +kernel
theorem dX5_string_19 : decode cX5_string 19 = .ok (.iload_n 1, 1) := by decide +kernel
theorem dX5_string_20 : decode cX5_string 20 = .ok (.isub, 1) := by decide +kernel
theorem dX5_string_21 : decode cX5_string 21 = .ok (.istore_n 2, 1) := by decide +kernel
theorem dX5_string_22 : decode cX5_string 22 = .ok (.iload_n 2, 1) := by decide +kernel
theorem dX5_string_23 : decode cX5_string 23 = .ok (.iconst 1, 1) := by decide +kernel
theorem dX5_string_24 : decode cX5_string 24 = .ok (.if_icmp .gt 50, 3) := by decide +kernel
theorem dX5_string_27 : decode cX5_string 27 = .ok (.aload_n 0, 1) := by decide +kernel
theorem dX5_string_28 : decode cX5_string 28 = .ok (.getfield 93, 3) := by decide +kernel
theorem dX5_string_31 : decode cX5_string 31 = .ok (.bipush 33, 2) := by decide +kernel
theorem dX5_string_33 : decode cX5_string 33 = .ok (.iconst 0, 1) := by decide +kernel
theorem dX5_string_34 : decode cX5_string 34 = .ok (.invokevirtual 66, 3) := by decide +kernel
theorem dX5_string_37 : decode cX5_string 37 = .ok (.pop, 1) := by decide +kernel
theorem dX5_string_38 : decode cX5_string 38 = .ok (.aload_n 0, 1) := by decide +kernel
theorem dX5_string_39 : decode cX5_string 39 = .ok (.getfield 93, 3) := by decide +kernel
theorem dX5_string_42 : decode cX5_string 42 = .ok (.iload_n 2, 1) := by decide +kernel
theorem dX5_string_43 : decode cX5_string 43 = .ok (.ifCond .ne 7, 3) := by decide +kernel
theorem dX5_string_46 : decode cX5_string 46 = .ok (.iconst 0, 1) := by decide +kernel
theorem dX5_string_47 : decode cX5_string 47 = .ok (.goto 20, 3) := by decide +kernel
theorem dX5_string_50 : decode cX5_string 50 = .ok (.ldc_w 437, 3) := by decide +kernel
theorem dX5_string_53 : decode cX5_string 53 = .ok (.aload_n 0, 1) := by decide +kernel
theorem dX5_string_54 : decode cX5_string 54 = .ok (.getfield 18, 3) := by decide +kernel
theorem dX5_string_57 : decode cX5_string 57 = .ok (.getfield 411, 3) := by decide +kernel
theorem dX5_string_60 : decode cX5_string 60 = .ok (.iload_n 1, 1) := by decide +kernel
theorem dX5_string_61 : decode cX5_string 61 = .ok (.baload, 1) := by decide +kernel
theorem dX5_string_62 : decode cX5_string 62 = .ok (.sipush 255, 3) := by decide +kernel
theorem dX5_string_65 : decode cX5_string 65 = .ok (.iand, 1) := by decide +kernel
theorem dX5_string_66 : decode cX5_string 66 = .ok (.ior, 1) := by decide +kernel
theorem dX5_string_67 : decode cX5_string 67 = .ok (.invokevirtual 243, 3) := by decide +kernel
theorem dX5_string_70 : decode cX5_string 70 = .ok (.pop, 1) := by decide +kernel
theorem dX5_string_71 : decode cX5_string 71 = .ok (.goto 123, 3) := by decide +kernel
theorem dX5_string_74 : decode cX5_string 74 = .ok (.iload_n 2, 1) := by decide +kernel
theorem dX5_string_75 : decode cX5_string 75 = .ok (.iconst 3, 1) := by decide +kernel
theorem dX5_string_76 : decode cX5_string 76 = .ok (.iadd, 1) := by decide +kernel
theorem dX5_string_77 : decode cX5_string 77 = .ok (.iconst 2, 1) := by decide +kernel
theorem dX5_string_78 : decode cX5_string 78 = .ok (.ishr, 1) := by decide +kernel
theorem dX5_string_79 : decode cX5_string 79 = .ok (.istore_n 3, 1) := by decide +kernel
theorem dX5_string_80 : decode cX5_string 80 = .ok (.aload_n 0, 1) := by decide +kernel
theorem dX5_string_81 : decode cX5_string 81 = .ok (.getfield 93, 3) := by decide +kernel
theorem dX5_string_84 : decode cX5_string 84 = .ok (.bipush 34, 2) := by decide +kernel
theorem dX5_string_86 : decode cX5_string 86 = .ok (.iload_n 3, 1) := by decide +kernel
theorem dX5_string_87 : decode cX5_string 87 = .ok (.iconst 1, 1) := by decide +kernel
theorem dX5_string_88 : decode cX5_string 88 = .ok (.iadd, 1) := by decide +kernel
theorem dX5_string_89 : decode cX5_string 89 = .ok (.invokevirtual 66, 3) := by decide +kernel
theorem dX5_string_92 : decode cX5_string 92 = .ok (.pop, 1) := by decide +kernel
theorem dX5_string_93 : decode cX5_string 93 = .ok (.aload_n 0, 1) := by decide +kernel
theorem dX5_string_94 : decode cX5_string 94 = .ok (.getfield 93, 3) := by decide +kernel
theorem dX5_string_97 : decode cX5_string 97 = .ok (.iconst 4, 1) := by decide +kernel
theorem dX5_string_98 : decode cX5_string 98 = .ok (.iconst 0, 1) := by decide +kernel
theorem dX5_string_99 : decode cX5_string 99 = .ok (.iload_n 2, 1) := by decide +kernel
theorem dX5_string_100 : decode cX5_string 100 = .ok (.iconst 1, 1) := by decide +kernel
theorem dX5_string_101 : decode cX5_string 101 = .ok (.iload_n 3, 1) := by decide +kernel
theorem dX5_string_102 : decode cX5_string 102 = .ok (.iadd, 1) := by decide +kernel
theorem dX5_string_103 : decode cX5_string 103 = .ok (.iconst 0, 1) := by decide +kernel
theorem dX5_string_104 : decode cX5_string 104 = .ok (.invokestatic 431, 3) := by decide +kernel
theorem dX5_string_107 : decode cX5_string 107 = .ok (.invokevirtual 243, 3) := by decide +kernel
theorem dX5_string_110 : decode cX5_string 110 = .ok (.istore 4, 2) := by decide +kernel
theorem dX5_string_112 : decode cX5_string 112 = .ok (.iconst 0, 1) := by decide +kernel
theorem dX5_string_113 : decode cX5_string 113 = .ok (.istore 5, 2) := by decide +kernel
theorem dX5_string_115 : decode cX5_string 115 = .ok (.iload 5, 2) := by decide +kernel
theorem dX5_string_117 : decode cX5_string 117 = .ok (.iload_n 3, 1) := by decide +kernel
theorem dX5_string_118 : decode cX5_string 118 = .ok (.if_icmp .ge 18, 3) := by decide +kernel
theorem dX5_string_121 : decode cX5_string 121 = .ok (.aload_n 0, 1) := by decide +kernel
theorem dX5_string_122 : decode cX5_string 122 = .ok (.getfield 93, 3) := by decide +kernel
theorem dX5_string_125 : decode cX5_string 125 = .ok (.iconst 0, 1) := by decide +kernel
theorem dX5_string_126 : decode cX5_string 126 = .ok (.invokevirtual 243, 3) := by decide +kernel
theorem dX5_string_129 : decode cX5_string 129 = .ok (.pop, 1) := by decide +kernel
theorem dX5_string_130 : decode cX5_string 130 = .ok (.iinc 5 1, 3) := by decide +kernel
theorem dX5_string_133 : decode cX5_string 133 = .ok (.goto (-18), 3) := by decide +kernel
theorem dX5_string_136 : decode cX5_string 136 = .ok (.iconst 0, 1) := by decide +kernel
theorem dX5_string_137 : decode cX5_string 137 = .ok (.istore 5, 2) := by decide +kernel
theorem dX5_string_139 : decode cX5_string 139 = .ok (.iload 5, 2) := by decide +kernel
theorem dX5_string_141 : decode cX5_string 141 = .ok (.iload_n 2, 1) := by decide +kernel
theorem dX5_string_142 : decode cX5_string 142 = .ok (.if_icmp .ge 52, 3) := by decide +kernel
theorem dX5_string_145 : decode cX5_string 145 = .ok (.aload_n 0, 1) := by decide +kernel
theorem dX5_string_146 : decode cX5_string 146 = .ok (.getfield 93, 3) := by decide +kernel
theorem dX5_string_149 : decode cX5_string 149 = .ok (.getfield 246, 3) := by decide +kernel
theorem dX5_string_152 : decode cX5_string 152 = .ok (.iload 4, 2) := by decide +kernel
theorem dX5_string_154 : decode cX5_string 154 = .ok (.iconst 1, 1) := by decide +kernel
theorem dX5_string_155 : decode cX5_string 155 = .ok (.iadd, 1) := by decide +kernel
theorem dX5_string_156 : decode cX5_string 156 = .ok (.iload 5, 2) := by decide +kernel
theorem dX5_string_158 : decode cX5_string 158 = .ok (.iconst 2, 1) := by decide +kernel
theorem dX5_string_159 : decode cX5_string 159 = .ok (.ishr, 1) := by decide +kernel
theorem dX5_string_160 : decode cX5_string 160 = .ok (.iadd, 1) := by decide +kernel
theorem dX5_string_161 : decode cX5_string 161 = .ok (.dup2, 1) := by decide +kernel
theorem dX5_string_162 : decode cX5_string 162 = .ok (.iaload, 1) := by decide +kernel
theorem dX5_string_163 : decode cX5_string 163 = .ok (.aload_n 0, 1) := by decide +kernel
theorem dX5_string_164 : decode cX5_string 164 = .ok (.getfield 18, 3) := by decide +kernel
theorem dX5_string_167 : decode cX5_string 167 = .ok (.getfield 411, 3) := by decide +kernel
theorem dX5_string_170 : decode cX5_string 170 = .ok (.iload_n 1, 1) := by decide +kernel
theorem dX5_string_171 : decode cX5_string 171 = .ok (.iload 5, 2) := by decide +kernel
theorem dX5_string_173 : decode cX5_string 173 = .ok (.iadd, 1) := by decide +kernel
theorem dX5_string_174 : decode cX5_string 174 = .ok (.baload, 1) := by decide +kernel
theorem dX5_string_175 : decode cX5_string 175 = .ok (.sipush 255, 3) := by decide +kernel
theorem dX5_string_178 : decode cX5_string 178 = .ok (.iand, 1) := by decide +kernel
theorem dX5_string_179 : decode cX5_string 179 = .ok (.iload 5, 2) := by decide +kernel
theorem dX5_string_181 : decode cX5_string 181 = .ok (.iconst 3, 1) := by decide +kernel
theorem dX5_string_182 : decode cX5_string 182 = .ok (.iand, 1) := by decide +kernel
theorem dX5_string_183 : decode cX5_string 183 = .ok (.iconst 3, 1) := by decide +kernel
theorem dX5_string_184 : decode cX5_string 184 = .ok (.ishl, 1) := by decide +kernel
theorem dX5_string_185 : decode cX5_string 185 = .ok (.ishl, 1) := by decide +kernel
theorem dX5_string_186 : decode cX5_string 186 = .ok (.ior, 1) := by decide +kernel
theorem dX5_string_187 : decode cX5_string 187 = .ok (.iastore, 1) := by decide +kernel
theorem dX5_string_188 : decode cX5_string 188 = .ok (.iinc 5 1, 3) := by decide +kernel
theorem dX5_string_191 : decode cX5_string 191 = .ok (.goto (-52), 3) := by decide +kernel
theorem dX5_string_194 : decode cX5_string 194 = .ok (.aload_n 0, 1) := by decide +kernel
theorem dX5_string_195 : decode cX5_string 195 = .ok (.getfield 18, 3) := by decide +kernel
theorem dX5_string_198 : decode cX5_string 198 = .ok (.invokevirtual 30, 3) := by decide +kernel
theorem dX5_string_201 : decode cX5_string 201 = .ok (.return_, 1) := by decide +kernel
theorem dX5_takenName_0 : decode cX5_takenName 0 = .ok (.aload_n 0, 1) := by decide +kernel
theorem dX5_takenName_1 : decode cX5_takenName 1 = .ok (.getfield 18, 3) := by decide +kernel
theorem dX5_takenName_4 : decode cX5_takenName 4 = .ok (.getfield 150, 3) := by decide +kernel
theorem dX5_takenName_7 : decode cX5_takenName 7 = .ok (.lstore_n 1, 1) := by decide +kernel
theorem dX5_takenName_8 : decode cX5_takenName 8 = .ok (.aload_n 0, 1) := by decide +kernel
theorem dX5_takenName_9 : decode cX5_takenName 9 = .ok (.getfield 18, 3) := by decide +kernel
theorem dX5_takenName_12 : decode cX5_takenName 12 = .ok (.getfield 154, 3) := by decide +kernel
theorem dX5_takenName_15 : decode cX5_takenName 15 = .ok (.lstore_n 3, 1) := by decide +kernel
theorem dX5_takenName_16 : decode cX5_takenName 16 = .ok (.aload_n 0, 1) := by decide +kernel
theorem dX5_takenName_17 : decode cX5_takenName 17 = .ok (.getfield 18, 3) := by decide +kernel
theorem dX5_takenName_20 : decode cX5_takenName 20 = .ok (.invokevirtual 30, 3) := by decide +kernel
theorem dX5_takenName_23 : decode cX5_takenName 23 = .ok (.aload_n 0, 1) := by decide +kernel
theorem dX5_takenName_24 : decode cX5_takenName 24 = .ok (.getfield 93, 3) := by decide +kernel
theorem dX5_takenName_27 : decode cX5_takenName 27 = .ok (.lload_n 1, 1) := by decide +kernel
theorem dX5_takenName_28 : decode cX5_takenName 28 = .ok (.lload_n 3, 1) := by decide +kernel
theorem dX5_takenName_29 : decode cX5_takenName 29 = .ok (.invokevirtual 283, 3) := by decide +kernel
theorem dX5_takenName_32 : decode cX5_takenName 32 = .ok (.ireturn, 1) := by decide +kernel
theorem dX5_taking_0 : decode cX5_taking 0 = .ok (.aload_n 0, 1) := by decide +kernel
theorem dX5_taking_1 : decode cX5_taking 1 = .ok (.getfield 9, 3) := by decide +kernel
theorem dX5_taking_4 : decode cX5_taking 4 = .ok (.iload_n 1, 1) := by decide +kernel
theorem dX5_taking_5 : decode cX5_taking 5 = .ok (.iconst 2, 1) := by decide +kernel
theorem dX5_taking_6 : decode cX5_taking 6 = .ok (.iadd, 1) := by decide +kernel
theorem dX5_taking_7 : decode cX5_taking 7 = .ok (.iaload, 1) := by decide +kernel
theorem dX5_taking_8 : decode cX5_taking 8 = .ok (.istore 4, 2) := by decide +kernel
theorem dX5_taking_10 : decode cX5_taking 10 = .ok (.aload_n 0, 1) := by decide +kernel
theorem dX5_taking_11 : decode cX5_taking 11 = .ok (.getfield 9, 3) := by decide +kernel
theorem dX5_taking_14 : decode cX5_taking 14 = .ok (.iload_n 2, 1) := by decide +kernel
theorem dX5_taking_15 : decode cX5_taking 15 = .ok (.iconst 2, 1) := by decide +kernel
theorem dX5_taking_16 : decode cX5_taking 16 = .ok (.iadd, 1) := by decide +kernel
theorem dX5_taking_17 : decode cX5_taking 17 = .ok (.iaload, 1) := by decide +kernel
theorem dX5_taking_18 : decode cX5_taking 18 = .ok (.istore 5, 2) := by decide +kernel
theorem dX5_taking_20 : decode cX5_taking 20 = .ok (.aload_n 0, 1) := by decide +kernel
theorem dX5_taking_21 : decode cX5_taking 21 = .ok (.sipush 176, 3) := by decide +kernel
theorem dX5_taking_24 : decode cX5_taking 24 = .ok (.iload_n 2, 1) := by decide +kernel
theorem dX5_taking_25 : decode cX5_taking 25 = .ok (.iload 5, 2) := by decide +kernel
theorem dX5_taking_27 : decode cX5_taking 27 = .ok (.invokevirtual 316, 3) := by decide +kernel
theorem dX5_taking_30 : decode cX5_taking 30 = .ok (.aload_n 0, 1) := by decide +kernel
theorem dX5_taking_31 : decode cX5_taking 31 = .ok (.getfield 93, 3) := by decide +kernel
theorem dX5_taking_34 : decode cX5_taking 34 = .ok (.bipush 101, 2) := by decide +kernel
theorem dX5_taking_36 : decode cX5_taking 36 = .ok (.iload_n 3, 1) := by decide +kernel
theorem dX5_taking_37 : decode cX5_taking 37 = .ok (.invokevirtual 66, 3) := by decide +kernel
theorem dX5_taking_40 : decode cX5_taking 40 = .ok (.istore 6, 2) := by decide +kernel
theorem dX5_taking_42 : decode cX5_taking 42 = .ok (.aload_n 0, 1) := by decide +kernel
theorem dX5_taking_43 : decode cX5_taking 43 = .ok (.getfield 93, 3) := by decide +kernel
theorem dX5_taking_46 : decode cX5_taking 46 = .ok (.iconst 0, 1) := by decide +kernel
theorem dX5_taking_47 : decode cX5_taking 47 = .ok (.invokevirtual 243, 3) := by decide +kernel
theorem dX5_taking_50 : decode cX5_taking 50 = .ok (.pop, 1) := by decide +kernel
theorem dX5_taking_51 : decode cX5_taking 51 = .ok (.aload_n 0, 1) := by decide +kernel
theorem dX5_taking_52 : decode cX5_taking 52 = .ok (.sipush 192, 3) := by decide +kernel
theorem dX5_taking_55 : decode cX5_taking 55 = .ok (.iload_n 2, 1) := by decide +kernel
theorem dX5_taking_56 : decode cX5_taking 56 = .ok (.iload 5, 2) := by decide +kernel
theorem dX5_taking_58 : decode cX5_taking 58 = .ok (.iconst 2, 1) := by decide +kernel
theorem dX5_taking_59 : decode cX5_taking 59 = .ok (.iadd, 1) := by decide +kernel
theorem dX5_taking_60 : decode cX5_taking 60 = .ok (.invokevirtual 316, 3) := by decide +kernel
theorem dX5_taking_63 : decode cX5_taking 63 = .ok (.aload_n 0, 1) := by decide +kernel
theorem dX5_taking_64 : decode cX5_taking 64 = .ok (.getfield 93, 3) := by decide +kernel
theorem dX5_taking_67 : decode cX5_taking 67 = .ok (.getfield 246, 3) := by decide +kernel
theorem dX5_taking_70 : decode cX5_taking 70 = .ok (.iload 6, 2) := by decide +kernel
theorem dX5_taking_72 : decode cX5_taking 72 = .ok (.iconst 1, 1) := by decide +kernel
theorem dX5_taking_73 : decode cX5_taking 73 = .ok (.iadd, 1) := by decide +kernel
theorem dX5_taking_74 : decode cX5_taking 74 = .ok (.aload_n 0, 1) := by decide +kernel
theorem dX5_taking_75 : decode cX5_taking 75 = .ok (.getfield 93, 3) := by decide +kernel
theorem dX5_taking_78 : decode cX5_taking 78 = .ok (.getfield 50, 3) := by decide +kernel
theorem dX5_taking_81 : decode cX5_taking 81 = .ok (.iload 6, 2) := by decide +kernel
theorem dX5_taking_83 : decode cX5_taking 83 = .ok (.isub, 1) := by decide +kernel
theorem dX5_taking_84 : decode cX5_taking 84 = .ok (.iastore, 1) := by decide +kernel
theorem dX5_taking_85 : decode cX5_taking 85 = .ok (.aload_n 0, 1) := by decide +kernel
theorem dX5_taking_86 : decode cX5_taking 86 = .ok (.getfield 93, 3) := by decide +kernel
theorem dX5_taking_89 : decode cX5_taking 89 = .ok (.bipush 37, 2) := by decide +kernel
theorem dX5_taking_91 : decode cX5_taking 91 = .ok (.iconst 1, 1) := by decide +kernel
theorem dX5_taking_92 : decode cX5_taking 92 = .ok (.invokevirtual 66, 3) := by decide +kernel
theorem dX5_taking_95 : decode cX5_taking 95 = .ok (.pop, 1) := by decide +kernel
theorem dX5_taking_96 : decode cX5_taking 96 = .ok (.aload_n 0, 1) := by decide +kernel
theorem dX5_taking_97 : decode cX5_taking 97 = .ok (.sipush 192, 3) := by decide +kernel
theorem dX5_taking_100 : decode cX5_taking 100 = .ok (.iload_n 1, 1) := by decide +kernel
theorem dX5_taking_101 : decode cX5_taking 101 = .ok (.iload 4, 2) := by decide +kernel
theorem dX5_taking_103 : decode cX5_taking 103 = .ok (.iload 5, 2) := by decide +kernel
theorem dX5_taking_105 : decode cX5_taking 105 = .ok (.iadd, 1) := by decide +kernel
theorem dX5_taking_106 : decode cX5_taking 106 = .ok (.iconst 1, 1) := by decide +kernel
theorem dX5_taking_107 : decode cX5_taking 107 = .ok (.iadd, 1) := by decide +kernel
theorem dX5_taking_108 : decode cX5_taking 108 = .ok (.invokevirtual 316, 3) := by decide +kernel
theorem dX5_taking_111 : decode cX5_taking 111 = .ok (.aload_n 0, 1) := by decide +kernel
theorem dX5_taking_112 : decode cX5_taking 112 = .ok (.getfield 93, 3) := by decide +kernel
theorem dX5_taking_115 : decode cX5_taking 115 = .ok (.bipush 37, 2) := by decide +kernel
theorem dX5_taking_117 : decode cX5_taking 117 = .ok (.iload 4, 2) := by decide +kernel
theorem dX5_taking_119 : decode cX5_taking 119 = .ok (.iload 5, 2) := by decide +kernel
theorem dX5_taking_121 : decode cX5_taking 121 = .ok (.iadd, 1) := by decide +kernel
theorem dX5_taking_122 : decode cX5_taking 122 = .ok (.iconst 1, 1) := by decide +kernel
theorem dX5_taking_123 : decode cX5_taking 123 = .ok (.iadd, 1) := by decide +kernel
theorem dX5_taking_124 : decode cX5_taking 124 = .ok (.invokevirtual 66, 3) := by decide +kernel
theorem dX5_taking_127 : decode cX5_taking 127 = .ok (.pop, 1) := by decide +kernel
theorem dX5_taking_128 : decode cX5_taking 128 = .ok (.return_, 1) := by decide +kernel
theorem dX5_target_0 : decode cX5_target 0 = .ok (.iload_n 1, 1) := by decide +kernel
theorem dX5_target_1 : decode cX5_target 1 = .ok (.istore_n 2, 1) := by decide +kernel
theorem dX5_target_2 : decode cX5_target 2 = .ok (.iload_n 2, 1) := by decide +kernel
theorem dX5_target_3 : decode cX5_target 3 = .ok (.iconst (-1), 1) := by decide +kernel
theorem dX5_target_4 : decode cX5_target 4 = .ok (.if_icmp .ne 44, 3) := by decide +kernel
theorem dX5_target_7 : decode cX5_target 7 = .ok (.aload_n 0, 1) := by decide +kernel
theorem dX5_target_8 : decode cX5_target 8 = .ok (.iconst 2, 1) := by decide +kernel
theorem dX5_target_9 : decode cX5_target 9 = .ok (.invokevirtual 61, 3) := by decide +kernel
theorem dX5_target_12 : decode cX5_target 12 = .ok (.aload_n 0, 1) := by decide +kernel
theorem dX5_target_13 : decode cX5_target 13 = .ok (.getfield 18, 3) := by decide +kernel
theorem dX5_target_16 : decode cX5_target 16 = .ok (.getfield 78, 3) := by decide +kernel
theorem dX5_target_19 : decode cX5_target 19 = .ok (.istore_n 3, 1) := by decide +kernel
theorem dX5_target_20 : decode cX5_target 20 = .ok (.aload_n 0, 1) := by decide +kernel
theorem dX5_target_21 : decode cX5_target 21 = .ok (.invokevirtual 268, 3) := by decide +kernel
theorem dX5_target_24 : decode cX5_target 24 = .ok (.istore_n 2, 1) := by decide +kernel
theorem dX5_target_25 : decode cX5_target 25 = .ok (.iload_n 2, 1) := by decide +kernel
theorem dX5_target_26 : decode cX5_target 26 = .ok (.iconst (-1), 1) := by decide +kernel
theorem dX5_target_27 : decode cX5_target 27 = .ok (.if_icmp .eq 15, 3) := by decide +kernel
theorem dX5_target_30 : decode cX5_target 30 = .ok (.aload_n 0, 1) := by decide +kernel
theorem dX5_target_31 : decode cX5_target 31 = .ok (.getfield 93, 3) := by decide +kernel
theorem dX5_target_34 : decode cX5_target 34 = .ok (.getfield 271, 3) := by decide +kernel
theorem dX5_target_37 : decode cX5_target 37 = .ok (.iload_n 2, 1) := by decide +kernel
theorem dX5_target_38 : decode cX5_target 38 = .ok (.iaload, 1) := by decide +kernel
theorem dX5_target_39 : decode cX5_target 39 = .ok (.ifCond .eq 9, 3) := by decide +kernel
theorem dX5_target_42 : decode cX5_target 42 = .ok (.aload_n 0, 1) := by decide +kernel
theorem dX5_target_43 : decode cX5_target 43 = .ok (.iconst 5, 1) := by decide +kernel
theorem dX5_target_44 : decode cX5_target 44 = .ok (.iload_n 3, 1) := by decide +kernel
theorem dX5_target_45 : decode cX5_target 45 = .ok (.invokevirtual 125, 3) := by decide +kernel
theorem dX5_target_48 : decode cX5_target 48 = .ok (.aload_n 0, 1) := by decide +kernel
theorem dX5_target_49 : decode cX5_target 49 = .ok (.aload_n 0, 1) := by decide +kernel
theorem dX5_target_50 : decode cX5_target 50 = .ok (.getfield 93, 3) := by decide +kernel
theorem dX5_target_53 : decode cX5_target 53 = .ok (.getfield 274, 3) := by decide +kernel
theorem dX5_target_56 : decode cX5_target 56 = .ok (.iload_n 2, 1) := by decide +kernel
theorem dX5_target_57 : decode cX5_target 57 = .ok (.iaload, 1) := by decide +kernel
theorem dX5_target_58 : decode cX5_target 58 = .ok (.invokevirtual 303, 3) := by decide +kernel
theorem dX5_target_61 : decode cX5_target 61 = .ok (.istore_n 3, 1) := by decide +kernel
theorem dX5_target_62 : decode cX5_target 62 = .ok (.aload_n 0, 1) := by decide +kernel
theorem dX5_target_63 : decode cX5_target 63 = .ok (.aload_n 0, 1) := by decide +kernel
theorem dX5_target_64 : decode cX5_target 64 = .ok (.getfield 93, 3) := by decide +kernel
theorem dX5_target_67 : decode cX5_target 67 = .ok (.getfield 306, 3) := by decide +kernel
theorem dX5_target_70 : decode cX5_target 70 = .ok (.iload_n 2, 1) := by decide +kernel
theorem dX5_target_71 : decode cX5_target 71 = .ok (.iaload, 1) := by decide +kernel
theorem dX5_target_72 : decode cX5_target 72 = .ok (.invokevirtual 303, 3) := by decide +kernel
theorem dX5_target_75 : decode cX5_target 75 = .ok (.pop, 1) := by decide +kernel
theorem dX5_target_76 : decode cX5_target 76 = .ok (.aload_n 0, 1) := by decide +kernel
theorem dX5_target_77 : decode cX5_target 77 = .ok (.iconst 0, 1) := by decide +kernel
theorem dX5_target_78 : decode cX5_target 78 = .ok (.invokevirtual 303, 3) := by decide +kernel
theorem dX5_target_81 : decode cX5_target 81 = .ok (.pop, 1) := by decide +kernel
theorem dX5_target_82 : decode cX5_target 82 = .ok (.aload_n 0, 1) := by decide +kernel
theorem dX5_target_83 : decode cX5_target 83 = .ok (.iconst 0, 1) := by decide +kernel
theorem dX5_target_84 : decode cX5_target 84 = .ok (.invokevirtual 303, 3) := by decide +kernel
theorem dX5_target_87 : decode cX5_target 87 = .ok (.pop, 1) := by decide +kernel
theorem dX5_target_88 : decode cX5_target 88 = .ok (.iconst 0, 1) := by decide +kernel
theorem dX5_target_89 : decode cX5_target 89 = .ok (.istore 4, 2) := by decide +kernel
theorem dX5_target_91 : decode cX5_target 91 = .ok (.iload 4, 2) := by decide +kernel
theorem dX5_target_93 : decode cX5_target 93 = .ok (.ldc 35, 2) := by decide +kernel
theorem dX5_target_95 : decode cX5_target 95 = .ok (.if_icmp .gt 81, 3) := by decide +kernel
theorem dX5_target_98 : decode cX5_target 98 = .ok (.aload_n 0, 1) := by decide +kernel
theorem dX5_target_99 : decode cX5_target 99 = .ok (.getfield 18, 3) := by decide +kernel
theorem dX5_target_102 : decode cX5_target 102 = .ok (.getfield 36, 3) := by decide +kernel
theorem dX5_target_105 : decode cX5_target 105 = .ok (.bipush 10, 2) := by decide +kernel
theorem dX5_target_107 : decode cX5_target 107 = .ok (.if_icmp .eq 15, 3) := by decide +kernel
theorem dX5_target_110 : decode cX5_target 110 = .ok (.aload_n 0, 1) := by decide +kernel
theorem dX5_target_111 : decode cX5_target 111 = .ok (.getfield 18, 3) := by decide +kernel
theorem dX5_target_114 : decode cX5_target 114 = .ok (.getfield 36, 3) := by decide +kernel
theorem dX5_target_117 : decode cX5_target 117 = .ok (.bipush 12, 2) := by decide +kernel
theorem dX5_target_119 : decode cX5_target 119 = .ok (.if_icmp .ne 57, 3) := by decide +kernel
theorem dX5_target_122 : decode cX5_target 122 = .ok (.aload_n 0, 1) := by decide +kernel
theorem dX5_target_123 : decode cX5_target 123 = .ok (.invokevirtual 309, 3) := by decide +kernel
theorem dX5_target_126 : decode cX5_target 126 = .ok (.istore 5, 2) := by decide +kernel
theorem dX5_target_128 : decode cX5_target 128 = .ok (.aload_n 0, 1) := by decide +kernel
theorem dX5_target_129 : decode cX5_target 129 = .ok (.iload 5, 2) := by decide +kernel
theorem dX5_target_131 : decode cX5_target 131 = .ok (.invokevirtual 303, 3) := by decide +kernel
theorem dX5_target_134 : decode cX5_target 134 = .ok (.pop, 1) := by decide +kernel
theorem dX5_target_135 : decode cX5_target 135 = .ok (.aload_n 0, 1) := by decide +kernel
theorem dX5_target_136 : decode cX5_target 136 = .ok (.getfield 9, 3) := by decide +kernel
theorem dX5_target_139 : decode cX5_target 139 = .ok (.iload_n 3, 1) := by decide +kernel
theorem dX5_target_140 : decode cX5_target 140 = .ok (.iconst 2, 1) := by decide +kernel
theorem dX5_target_141 : decode cX5_target 141 = .ok (.iadd, 1) := by decide +kernel
theorem dX5_target_142 : decode cX5_target 142 = .ok (.dup2, 1) := by decide +kernel
theorem dX5_target_143 : decode cX5_target 143 = .ok (.iaload, 1) := by decide +kernel
theorem dX5_target_144 : decode cX5_target 144 = .ok (.iload 5, 2) := by decide +kernel
theorem dX5_target_146 : decode cX5_target 146 = .ok (.bipush 97, 2) := by decide +kernel
theorem dX5_target_148 : decode cX5_target 148 = .ok (.if_icmp .ne 7, 3) := by decide +kernel
theorem dX5_target_151 : decode cX5_target 151 = .ok (.iconst 2, 1) := by decide +kernel
theorem dX5_target_152 : decode cX5_target 152 = .ok (.goto 4, 3) := by decide +kernel
theorem dX5_target_155 : decode cX5_target 155 = .ok (.iconst 1, 1) := by decide +kernel
theorem dX5_target_156 : decode cX5_target 156 = .ok (.iadd, 1) := by decide +kernel
theorem dX5_target_157 : decode cX5_target 157 = .ok (.iastore, 1) := by decide +kernel
theorem dX5_target_158 : decode cX5_target 158 = .ok (.aload_n 0, 1) := by decide +kernel
theorem dX5_target_159 : decode cX5_target 159 = .ok (.getfield 9, 3) := by decide +kernel
theorem dX5_target_162 : decode cX5_target 162 = .ok (.iload_n 3, 1) := by decide +kernel
theorem dX5_target_163 : decode cX5_target 163 = .ok (.iconst 3, 1) := by decide +kernel
theorem dX5_target_164 : decode cX5_target 164 = .ok (.iadd, 1) := by decide +kernel
theorem dX5_target_165 : decode cX5_target 165 = .ok (.dup2, 1) := by decide +kernel
theorem dX5_target_166 : decode cX5_target 166 = .ok (.iaload, 1) := by decide +kernel
theorem dX5_target_167 : decode cX5_target 167 = .ok (.iconst 1, 1) := by decide +kernel
theorem dX5_target_168 : decode cX5_target 168 = .ok (.iadd, 1) := by decide +kernel
theorem dX5_target_169 : decode cX5_target 169 = .ok (.iastore, 1) := by decide +kernel
theorem dX5_target_170 : decode cX5_target 170 = .ok (.iinc 4 1, 3) := by decide +kernel
theorem dX5_target_173 : decode cX5_target 173 = .ok (.goto (-82), 3) := by decide +kernel
theorem dX5_target_176 : decode cX5_target 176 = .ok (.iload_n 3, 1) := by decide +kernel
theorem dX5_target_177 : decode cX5_target 177 = .ok (.ireturn, 1) := by decide +kernel
theorem dX5_tellUnit_0 : decode cX5_tellUnit 0 = .ok (.aload_n 0, 1) := by decide +kernel
theorem dX5_tellUnit_1 : decode cX5_tellUnit 1 = .ok (.getfield 18, 3) := by decide +kernel
theorem dX5_tellUnit_4 : decode cX5_tellUnit 4 = .ok (.invokevirtual 30, 3) := by decide +kernel
theorem dX5_tellUnit_7 : decode cX5_tellUnit 7 = .ok (.aload_n 0, 1) := by decide +kernel
theorem dX5_tellUnit_8 : decode cX5_tellUnit 8 = .ok (.iconst 2, 1) := by decide +kernel
theorem dX5_tellUnit_9 : decode cX5_tellUnit 9 = .ok (.invokevirtual 61, 3) := by decide +kernel
theorem dX5_tellUnit_12 : decode cX5_tellUnit 12 = .ok (.aload_n 0, 1) := by decide +kernel
theorem dX5_tellUnit_13 : decode cX5_tellUnit 13 = .ok (.getfield 93, 3) := by decide +kernel
theorem dX5_tellUnit_16 : decode cX5_tellUnit 16 = .ok (.iconst 0, 1) := by decide +kernel
theorem dX5_tellUnit_17 : decode cX5_tellUnit 17 = .ok (.aload_n 0, 1) := by decide +kernel
theorem dX5_tellUnit_18 : decode cX5_tellUnit 18 = .ok (.getfield 18, 3) := by decide +kernel
theorem dX5_tellUnit_21 : decode cX5_tellUnit 21 = .ok (.getfield 150, 3) := by decide +kernel
theorem dX5_tellUnit_24 : decode cX5_tellUnit 24 = .ok (.aload_n 0, 1) := by decide +kernel
theorem dX5_tellUnit_25 : decode cX5_tellUnit 25 = .ok (.getfield 18, 3) := by decide +kernel
theorem dX5_tellUnit_28 : decode cX5_tellUnit 28 = .ok (.getfield 154, 3) := by decide +kernel
theorem dX5_tellUnit_31 : decode cX5_tellUnit 31 = .ok (.invokevirtual 164, 3) := by decide +kernel
theorem dX5_tellUnit_34 : decode cX5_tellUnit 34 = .ok (.ifCond .eq 15, 3) := by decide +kernel
theorem dX5_tellUnit_37 : decode cX5_tellUnit 37 = .ok (.aload_n 0, 1) := by decide +kernel
theorem dX5_tellUnit_38 : decode cX5_tellUnit 38 = .ok (.iconst 4, 1) := by decide +kernel
theorem dX5_tellUnit_39 : decode cX5_tellUnit 39 = .ok (.aload_n 0, 1) := by decide +kernel
theorem dX5_tellUnit_40 : decode cX5_tellUnit 40 = .ok (.getfield 18, 3) := by decide +kernel
theorem dX5_tellUnit_43 : decode cX5_tellUnit 43 = .ok (.getfield 78, 3) := by decide +kernel
theorem dX5_tellUnit_46 : decode cX5_tellUnit 46 = .ok (.invokevirtual 125, 3) := by decide +kernel
theorem dX5_tellUnit_49 : decode cX5_tellUnit 49 = .ok (.aload_n 0, 1) := by decide +kernel
theorem dX5_tellUnit_50 : decode cX5_tellUnit 50 = .ok (.getfield 93, 3) := by decide +kernel
theorem dX5_tellUnit_53 : decode cX5_tellUnit 53 = .ok (.getfield 170, 3) := by decide +kernel
theorem dX5_tellUnit_56 : decode cX5_tellUnit 56 = .ok (.bipush 40, 2) := by decide +kernel
theorem dX5_tellUnit_58 : decode cX5_tellUnit 58 = .ok (.if_icmp .lt 16, 3) := by decide +kernel
theorem dX5_tellUnit_61 : decode cX5_tellUnit 61 = .ok (.aload_n 0, 1) := by decide +kernel
theorem dX5_tellUnit_62 : decode cX5_tellUnit 62 = .ok (.bipush 8, 2) := by decide +kernel
theorem dX5_tellUnit_64 : decode cX5_tellUnit 64 = .ok (.aload_n 0, 1) := by decide +kernel
theorem dX5_tellUnit_65 : decode cX5_tellUnit 65 = .ok (.getfield 18, 3) := by decide +kernel
theorem dX5_tellUnit_68 : decode cX5_tellUnit 68 = .ok (.getfield 78, 3) := by decide +kernel
theorem dX5_tellUnit_71 : decode cX5_tellUnit 71 = .ok (.invokevirtual 125, 3) := by decide +kernel
theorem dX5_tellUnit_74 : decode cX5_tellUnit 74 = .ok (.aload_n 0, 1) := by decide +kernel
theorem dX5_tellUnit_75 : decode cX5_tellUnit 75 = .ok (.getfield 93, 3) := by decide +kernel
theorem dX5_tellUnit_78 : decode cX5_tellUnit 78 = .ok (.dup, 1) := by decide +kernel
theorem dX5_tellUnit_79 : decode cX5_tellUnit 79 = .ok (.getfield 170, 3) := by decide +kernel
theorem dX5_tellUnit_82 : decode cX5_tellUnit 82 = .ok (.iconst 1, 1) := by decide +kernel
theorem dX5_tellUnit_83 : decode cX5_tellUnit 83 = .ok (.iadd, 1) := by decide +kernel
theorem dX5_tellUnit_84 : decode cX5_tellUnit 84 = .ok (.putfield 170, 3) := by decide +kernel
theorem dX5_tellUnit_87 : decode cX5_tellUnit 87 = .ok (.aload_n 0, 1) := by decide +kernel
theorem dX5_tellUnit_88 : decode cX5_tellUnit 88 = .ok (.aload_n 0, 1) := by decide +kernel
theorem dX5_tellUnit_89 : decode cX5_tellUnit 89 = .ok (.getfield 93, 3) := by decide +kernel
theorem dX5_tellUnit_92 : decode cX5_tellUnit 92 = .ok (.getfield 170, 3) := by decide +kernel
theorem dX5_tellUnit_95 : decode cX5_tellUnit 95 = .ok (.putfield 97, 3) := by decide +kernel
theorem dX5_tellUnit_98 : decode cX5_tellUnit 98 = .ok (.aload_n 0, 1) := by decide +kernel
theorem dX5_tellUnit_99 : decode cX5_tellUnit 99 = .ok (.getfield 93, 3) := by decide +kernel
theorem dX5_tellUnit_102 : decode cX5_tellUnit 102 = .ok (.aload_n 0, 1) := by decide +kernel
theorem dX5_tellUnit_103 : decode cX5_tellUnit 103 = .ok (.getfield 97, 3) := by decide +kernel
theorem dX5_tellUnit_106 : decode cX5_tellUnit 106 = .ok (.invokevirtual 87, 3) := by decide +kernel
theorem dX5_tellUnit_109 : decode cX5_tellUnit 109 = .ok (.aload_n 0, 1) := by decide +kernel
theorem dX5_tellUnit_110 : decode cX5_tellUnit 110 = .ok (.getfield 93, 3) := by decide +kernel
theorem dX5_tellUnit_113 : decode cX5_tellUnit 113 = .ok (.aload_n 0, 1) := by decide +kernel
theorem dX5_tellUnit_114 : decode cX5_tellUnit 114 = .ok (.getfield 18, 3) := by decide +kernel
theorem dX5_tellUnit_117 : decode cX5_tellUnit 117 = .ok (.getfield 150, 3) := by decide +kernel
theorem dX5_tellUnit_120 : decode cX5_tellUnit 120 = .ok (.aload_n 0, 1) := by decide +kernel
theorem dX5_tellUnit_121 : decode cX5_tellUnit 121 = .ok (.getfield 18, 3) := by decide +kernel
theorem dX5_tellUnit_124 : decode cX5_tellUnit 124 = .ok (.getfield 154, 3) := by decide +kernel
theorem dX5_tellUnit_127 : decode cX5_tellUnit 127 = .ok (.iload_n 1, 1) := by decide +kernel
theorem dX5_tellUnit_128 : decode cX5_tellUnit 128 = .ok (.iconst 0, 1) := by decide +kernel
theorem dX5_tellUnit_129 : decode cX5_tellUnit 129 = .ok (.aload_n 0, 1) := by decide +kernel
theorem dX5_tellUnit_130 : decode cX5_tellUnit 130 = .ok (.getfield 97, 3) := by decide +kernel
theorem dX5_tellUnit_133 : decode cX5_tellUnit 133 = .ok (.invokevirtual 160, 3) := by decide +kernel
theorem dX5_tellUnit_136 : decode cX5_tellUnit 136 = .ok (.aload_n 0, 1) := by decide +kernel
theorem dX5_tellUnit_137 : decode cX5_tellUnit 137 = .ok (.getfield 18, 3) := by decide +kernel
theorem dX5_tellUnit_140 : decode cX5_tellUnit 140 = .ok (.invokevirtual 30, 3) := by decide +kernel
theorem dX5_tellUnit_143 : decode cX5_tellUnit 143 = .ok (.aload_n 0, 1) := by decide +kernel
theorem dX5_tellUnit_144 : decode cX5_tellUnit 144 = .ok (.bipush 10, 2) := by decide +kernel
theorem dX5_tellUnit_146 : decode cX5_tellUnit 146 = .ok (.invokevirtual 61, 3) := by decide +kernel
theorem dX5_tellUnit_149 : decode cX5_tellUnit 149 = .ok (.aload_n 0, 1) := by decide +kernel
theorem dX5_tellUnit_150 : decode cX5_tellUnit 150 = .ok (.invokevirtual 173, 3) := by decide +kernel
theorem dX5_tellUnit_153 : decode cX5_tellUnit 153 = .ok (.aload_n 0, 1) := by decide +kernel
theorem dX5_tellUnit_154 : decode cX5_tellUnit 154 = .ok (.getfield 93, 3) := by decide +kernel
theorem dX5_tellUnit_157 : decode cX5_tellUnit 157 = .ok (.getfield 84, 3) := by decide +kernel
theorem dX5_tellUnit_160 : decode cX5_tellUnit 160 = .ok (.ireturn, 1) := by decide +kernel
theorem dX5_tellVariable_0 : decode cX5_tellVariable 0 = .ok (.aload_n 0, 1) := by decide +kernel
theorem dX5_tellVariable_1 : decode cX5_tellVariable 1 = .ok (.iload_n 1, 1) := by decide +kernel
theorem dX5_tellVariable_2 : decode cX5_tellVariable 2 = .ok (.invokevirtual 144, 3) := by decide +kernel
theorem dX5_tellVariable_5 : decode cX5_tellVariable 5 = .ok (.aload_n 0, 1) := by decide +kernel
theorem dX5_tellVariable_6 : decode cX5_tellVariable 6 = .ok (.getfield 93, 3) := by decide +kernel
theorem dX5_tellVariable_9 : decode cX5_tellVariable 9 = .ok (.getfield 147, 3) := by decide +kernel
theorem dX5_tellVariable_12 : decode cX5_tellVariable 12 = .ok (.aload_n 0, 1) := by decide +kernel
theorem dX5_tellVariable_13 : decode cX5_tellVariable 13 = .ok (.getfield 97, 3) := by decide +kernel
theorem dX5_tellVariable_16 : decode cX5_tellVariable 16 = .ok (.dup2, 1) := by decide +kernel
theorem dX5_tellVariable_17 : decode cX5_tellVariable 17 = .ok (.iaload, 1) := by decide +kernel
theorem dX5_tellVariable_18 : decode cX5_tellVariable 18 = .ok (.iconst 1, 1) := by decide +kernel
theorem dX5_tellVariable_19 : decode cX5_tellVariable 19 = .ok (.iadd, 1) := by decide +kernel
theorem dX5_tellVariable_20 : decode cX5_tellVariable 20 = .ok (.iastore, 1) := by decide +kernel
theorem dX5_tellVariable_21 : decode cX5_tellVariable 21 = .ok (.aload_n 0, 1) := by decide +kernel
theorem dX5_tellVariable_22 : decode cX5_tellVariable 22 = .ok (.getfield 93, 3) := by decide +kernel
theorem dX5_tellVariable_25 : decode cX5_tellVariable 25 = .ok (.aload_n 0, 1) := by decide +kernel
theorem dX5_tellVariable_26 : decode cX5_tellVariable 26 = .ok (.getfield 18, 3) := by decide +kernel
theorem dX5_tellVariable_29 : decode cX5_tellVariable 29 = .ok (.getfield 150, 3) := by decide +kernel
theorem dX5_tellVariable_32 : decode cX5_tellVariable 32 = .ok (.aload_n 0, 1) := by decide +kernel
theorem dX5_tellVariable_33 : decode cX5_tellVariable 33 = .ok (.getfield 18, 3) := by decide +kernel
theorem dX5_tellVariable_36 : decode cX5_tellVariable 36 = .ok (.getfield 154, 3) := by decide +kernel
theorem dX5_tellVariable_39 : decode cX5_tellVariable 39 = .ok (.iconst 0, 1) := by decide +kernel
theorem dX5_tellVariable_40 : decode cX5_tellVariable 40 = .ok (.aload_n 0, 1) := by decide +kernel
theorem dX5_tellVariable_41 : decode cX5_tellVariable 41 = .ok (.getfield 97, 3) := by decide +kernel
theorem dX5_tellVariable_44 : decode cX5_tellVariable 44 = .ok (.aload_n 0, 1) := by decide +kernel
theorem dX5_tellVariable_45 : decode cX5_tellVariable 45 = .ok (.getfield 93, 3) := by decide +kernel
theorem dX5_tellVariable_48 : decode cX5_tellVariable 48 = .ok (.aload_n 0, 1) := by decide +kernel
theorem dX5_tellVariable_49 : decode cX5_tellVariable 49 = .ok (.getfield 97, 3) := by decide +kernel
theorem dX5_tellVariable_52 : decode cX5_tellVariable 52 = .ok (.iconst 1, 1) := by decide +kernel
theorem dX5_tellVariable_53 : decode cX5_tellVariable 53 = .ok (.invokevirtual 157, 3) := by decide +kernel
theorem dX5_tellVariable_56 : decode cX5_tellVariable 56 = .ok (.invokevirtual 160, 3) := by decide +kernel
theorem dX5_tellVariable_59 : decode cX5_tellVariable 59 = .ok (.aload_n 0, 1) := by decide +kernel
theorem dX5_tellVariable_60 : decode cX5_tellVariable 60 = .ok (.getfield 18, 3) := by decide +kernel
theorem dX5_tellVariable_63 : decode cX5_tellVariable 63 = .ok (.invokevirtual 30, 3) := by decide +kernel
theorem dX5_tellVariable_66 : decode cX5_tellVariable 66 = .ok (.return_, 1) := by decide +kernel
theorem dX5_variables_0 : decode cX5_variables 0 = .ok (.aload_n 0, 1) := by decide +kernel
theorem dX5_variables_1 : decode cX5_variables 1 = .ok (.getfield 18, 3) := by decide +kernel
theorem dX5_variables_4 : decode cX5_variables 4 = .ok (.invokevirtual 30, 3) := by decide +kernel
theorem dX5_variables_7 : decode cX5_variables 7 = .ok (.aload_n 0, 1) := by decide +kernel
theorem dX5_variables_8 : decode cX5_variables 8 = .ok (.iload_n 1, 1) := by decide +kernel
theorem dX5_variables_9 : decode cX5_variables 9 = .ok (.invokevirtual 138, 3) := by decide +kernel
theorem dX5_variables_12 : decode cX5_variables 12 = .ok (.iconst 0, 1) := by decide +kernel
theorem dX5_variables_13 : decode cX5_variables 13 = .ok (.istore_n 2, 1) := by decide +kernel
theorem dX5_variables_14 : decode cX5_variables 14 = .ok (.iload_n 2, 1) := by decide +kernel
theorem dX5_variables_15 : decode cX5_variables 15 = .ok (.ldc 35, 2) := by decide +kernel
theorem dX5_variables_17 : decode cX5_variables 17 = .ok (.if_icmp .gt 33, 3) := by decide +kernel
theorem dX5_variables_20 : decode cX5_variables 20 = .ok (.aload_n 0, 1) := by decide +kernel
theorem dX5_variables_21 : decode cX5_variables 21 = .ok (.getfield 18, 3) := by decide +kernel
theorem dX5_variables_24 : decode cX5_variables 24 = .ok (.getfield 36, 3) := by decide +kernel
theorem dX5_variables_27 : decode cX5_variables 27 = .ok (.bipush 16, 2) := by decide +kernel
theorem dX5_variables_29 : decode cX5_variables 29 = .ok (.if_icmp .ne 21, 3) := by decide +kernel
theorem dX5_variables_32 : decode cX5_variables 32 = .ok (.aload_n 0, 1) := by decide +kernel
theorem dX5_variables_33 : decode cX5_variables 33 = .ok (.getfield 18, 3) := by decide +kernel
theorem dX5_variables_36 : decode cX5_variables 36 = .ok (.invokevirtual 30, 3) := by decide +kernel
theorem dX5_variables_39 : decode cX5_variables 39 = .ok (.aload_n 0, 1) := by decide +kernel
theorem dX5_variables_40 : decode cX5_variables 40 = .ok (.iload_n 1, 1) := by decide +kernel
theorem dX5_variables_41 : decode cX5_variables 41 = .ok (.invokevirtual 138, 3) := by decide +kernel
theorem dX5_variables_44 : decode cX5_variables 44 = .ok (.iinc 2 1, 3) := by decide +kernel
theorem dX5_variables_47 : decode cX5_variables 47 = .ok (.goto (-33), 3) := by decide +kernel
theorem dX5_variables_50 : decode cX5_variables 50 = .ok (.aload_n 0, 1) := by decide +kernel
theorem dX5_variables_51 : decode cX5_variables 51 = .ok (.bipush 17, 2) := by decide +kernel
theorem dX5_variables_53 : decode cX5_variables 53 = .ok (.invokevirtual 141, 3) := by decide +kernel
theorem dX5_variables_56 : decode cX5_variables 56 = .ok (.return_, 1) := by decide +kernel
theorem dX5_want_0 : decode cX5_want 0 = .ok (.aload_n 0, 1) := by decide +kernel
theorem dX5_want_1 : decode cX5_want 1 = .ok (.getfield 18, 3) := by decide +kernel
theorem dX5_want_4 : decode cX5_want 4 = .ok (.getfield 36, 3) := by decide +kernel
theorem dX5_want_7 : decode cX5_want 7 = .ok (.iload_n 1, 1) := by decide +kernel
theorem dX5_want_8 : decode cX5_want 8 = .ok (.if_icmp .eq 15, 3) := by decide +kernel
theorem dX5_want_11 : decode cX5_want 11 = .ok (.aload_n 0, 1) := by decide +kernel
theorem dX5_want_12 : decode cX5_want 12 = .ok (.iconst 2, 1) := by decide +kernel
theorem dX5_want_13 : decode cX5_want 13 = .ok (.aload_n 0, 1) := by decide +kernel
theorem dX5_want_14 : decode cX5_want 14 = .ok (.getfield 18, 3) := by decide +kernel
theorem dX5_want_17 : decode cX5_want 17 = .ok (.getfield 78, 3) := by decide +kernel
theorem dX5_want_20 : decode cX5_want 20 = .ok (.invokevirtual 125, 3) := by decide +kernel
theorem dX5_want_23 : decode cX5_want 23 = .ok (.return_, 1) := by decide +kernel
theorem dX5_whileStatement_0 : decode cX5_whileStatement 0 = .ok (.aload_n 0, 1) := by decide +kernel
theorem dX5_whileStatement_1 : decode cX5_whileStatement 1 = .ok (.invokevirtual 173, 3) := by decide +kernel
theorem dX5_whileStatement_4 : decode cX5_whileStatement 4 = .ok (.aload_n 0, 1) := by decide +kernel
theorem dX5_whileStatement_5 : decode cX5_whileStatement 5 = .ok (.iconst 0, 1) := by decide +kernel
theorem dX5_whileStatement_6 : decode cX5_whileStatement 6 = .ok (.invokevirtual 90, 3) := by decide +kernel
theorem dX5_whileStatement_9 : decode cX5_whileStatement 9 = .ok (.aload_n 0, 1) := by decide +kernel
theorem dX5_whileStatement_10 : decode cX5_whileStatement 10 = .ok (.bipush 44, 2) := by decide +kernel
theorem dX5_whileStatement_12 : decode cX5_whileStatement 12 = .ok (.invokevirtual 141, 3) := by decide +kernel
theorem dX5_whileStatement_15 : decode cX5_whileStatement 15 = .ok (.aload_n 0, 1) := by decide +kernel
theorem dX5_whileStatement_16 : decode cX5_whileStatement 16 = .ok (.getfield 93, 3) := by decide +kernel
theorem dX5_whileStatement_19 : decode cX5_whileStatement 19 = .ok (.iconst 4, 1) := by decide +kernel
theorem dX5_whileStatement_20 : decode cX5_whileStatement 20 = .ok (.iconst 0, 1) := by decide +kernel
theorem dX5_whileStatement_21 : decode cX5_whileStatement 21 = .ok (.invokevirtual 66, 3) := by decide +kernel
theorem dX5_whileStatement_24 : decode cX5_whileStatement 24 = .ok (.istore_n 2, 1) := by decide +kernel
theorem dX5_whileStatement_25 : decode cX5_whileStatement 25 = .ok (.aload_n 0, 1) := by decide +kernel
theorem dX5_whileStatement_26 : decode cX5_whileStatement 26 = .ok (.iload_n 1, 1) := by decide +kernel
theorem dX5_whileStatement_27 : decode cX5_whileStatement 27 = .ok (.invokevirtual 252, 3) := by decide +kernel
theorem dX5_whileStatement_30 : decode cX5_whileStatement 30 = .ok (.aload_n 0, 1) := by decide +kernel
theorem dX5_whileStatement_31 : decode cX5_whileStatement 31 = .ok (.getfield 93, 3) := by decide +kernel
theorem dX5_whileStatement_34 : decode cX5_whileStatement 34 = .ok (.iload_n 2, 1) := by decide +kernel
theorem dX5_whileStatement_35 : decode cX5_whileStatement 35 = .ok (.aload_n 0, 1) := by decide +kernel
theorem dX5_whileStatement_36 : decode cX5_whileStatement 36 = .ok (.getfield 93, 3) := by decide +kernel
theorem dX5_whileStatement_39 : decode cX5_whileStatement 39 = .ok (.getfield 50, 3) := by decide +kernel
theorem dX5_whileStatement_42 : decode cX5_whileStatement 42 = .ok (.invokevirtual 240, 3) := by decide +kernel
theorem dX5_whileStatement_45 : decode cX5_whileStatement 45 = .ok (.return_, 1) := by decide +kernel
theorem dX5_widenMarks_0 : decode cX5_widenMarks 0 = .ok (.aload_n 0, 1) := by decide +kernel
theorem dX5_widenMarks_1 : decode cX5_widenMarks 1 = .ok (.getfield 112, 3) := by decide +kernel
theorem dX5_widenMarks_4 : decode cX5_widenMarks 4 = .ok (.iload_n 1, 1) := by decide +kernel
theorem dX5_widenMarks_5 : decode cX5_widenMarks 5 = .ok (.iadd, 1) := by decide +kernel
theorem dX5_widenMarks_6 : decode cX5_widenMarks 6 = .ok (.aload_n 0, 1) := by decide +kernel
theorem dX5_widenMarks_7 : decode cX5_widenMarks 7 = .ok (.getfield 9, 3) := by decide +kernel
theorem dX5_widenMarks_10 : decode cX5_widenMarks 10 = .ok (.arraylength, 1) := by decide +kernel
theorem dX5_widenMarks_11 : decode cX5_widenMarks 11 = .ok (.if_icmp .le 28, 3) := by decide +kernel
theorem dX5_widenMarks_14 : decode cX5_widenMarks 14 = .ok (.aload_n 0, 1) := by decide +kernel
theorem dX5_widenMarks_15 : decode cX5_widenMarks 15 = .ok (.getfield 9, 3) := by decide +kernel
theorem dX5_widenMarks_18 : decode cX5_widenMarks 18 = .ok (.arraylength, 1) := by decide +kernel
theorem dX5_widenMarks_19 : decode cX5_widenMarks 19 = .ok (.sipush 21504, 3) := by decide +kernel
theorem dX5_widenMarks_22 : decode cX5_widenMarks 22 = .ok (.if_icmp .ge 17, 3) := by decide +kernel
theorem dX5_widenMarks_25 : decode cX5_widenMarks 25 = .ok (.aload_n 0, 1) := by decide +kernel
theorem dX5_widenMarks_26 : decode cX5_widenMarks 26 = .ok (.aload_n 0, 1) := by decide +kernel
theorem dX5_widenMarks_27 : decode cX5_widenMarks 27 = .ok (.getfield 9, 3) := by decide +kernel
theorem dX5_widenMarks_30 : decode cX5_widenMarks 30 = .ok (.sipush 21504, 3) := by decide +kernel
theorem dX5_widenMarks_33 : decode cX5_widenMarks 33 = .ok (.invokestatic 132, 3) := by decide +kernel
theorem dX5_widenMarks_36 : decode cX5_widenMarks 36 = .ok (.putfield 9, 3) := by decide +kernel
theorem dX5_widenMarks_39 : decode cX5_widenMarks 39 = .ok (.aload_n 0, 1) := by decide +kernel
theorem dX5_widenMarks_40 : decode cX5_widenMarks 40 = .ok (.getfield 112, 3) := by decide +kernel
theorem dX5_widenMarks_43 : decode cX5_widenMarks 43 = .ok (.iload_n 1, 1) := by decide +kernel
theorem dX5_widenMarks_44 : decode cX5_widenMarks 44 = .ok (.iadd, 1) := by decide +kernel
theorem dX5_widenMarks_45 : decode cX5_widenMarks 45 = .ok (.aload_n 0, 1) := by decide +kernel
theorem dX5_widenMarks_46 : decode cX5_widenMarks 46 = .ok (.getfield 9, 3) := by decide +kernel
theorem dX5_widenMarks_49 : decode cX5_widenMarks 49 = .ok (.arraylength, 1) := by decide +kernel
theorem dX5_widenMarks_50 : decode cX5_widenMarks 50 = .ok (.if_icmp .le 11, 3) := by decide +kernel
theorem dX5_widenMarks_53 : decode cX5_widenMarks 53 = .ok (.new 70, 3) := by decide +kernel
theorem dX5_widenMarks_56 : decode cX5_widenMarks 56 = .ok (.dup, 1) := by decide +kernel
theorem dX5_widenMarks_57 : decode cX5_widenMarks 57 = .ok (.invokespecial 124, 3) := by decide +kernel
theorem dX5_widenMarks_60 : decode cX5_widenMarks 60 = .ok (.athrow, 1) := by decide +kernel
theorem dX5_widenMarks_61 : decode cX5_widenMarks 61 = .ok (.return_, 1) := by decide +kernel
theorem dX5_word_0 : decode cX5_word 0 = .ok (.aload_n 0, 1) := by decide +kernel
theorem dX5_word_1 : decode cX5_word 1 = .ok (.getfield 18, 3) := by decide +kernel
theorem dX5_word_4 : decode cX5_word 4 = .ok (.getfield 36, 3) := by decide +kernel
theorem dX5_word_7 : decode cX5_word 7 = .ok (.istore_n 1, 1) := by decide +kernel
theorem dX5_word_8 : decode cX5_word 8 = .ok (.iload_n 1, 1) := by decide +kernel
theorem dX5_word_9 : decode cX5_word 9 = .ok (.bipush 84, 2) := by decide +kernel
theorem dX5_word_11 : decode cX5_word 11 = .ok (.if_icmp .ne 15, 3) := by decide +kernel
theorem dX5_word_14 : decode cX5_word 14 = .ok (.aload_n 0, 1) := by decide +kernel
theorem dX5_word_15 : decode cX5_word 15 = .ok (.getfield 100, 3) := by decide +kernel
theorem dX5_word_18 : decode cX5_word 18 = .ok (.iconst 1, 1) := by decide +kernel
theorem dX5_word_19 : decode cX5_word 19 = .ok (.if_icmp .lt 7, 3) := by decide +kernel
theorem dX5_word_22 : decode cX5_word 22 = .ok (.iconst 1, 1) := by decide +kernel
theorem dX5_word_23 : decode cX5_word 23 = .ok (.goto 4, 3) := by decide +kernel
theorem dX5_word_26 : decode cX5_word 26 = .ok (.iconst 0, 1) := by decide +kernel
theorem dX5_word_27 : decode cX5_word 27 = .ok (.istore_n 2, 1) := by decide +kernel
theorem dX5_word_28 : decode cX5_word 28 = .ok (.iload_n 1, 1) := by decide +kernel
theorem dX5_word_29 : decode cX5_word 29 = .ok (.bipush 83, 2) := by decide +kernel
theorem dX5_word_31 : decode cX5_word 31 = .ok (.if_icmp .ne 30, 3) := by decide +kernel
theorem dX5_word_34 : decode cX5_word 34 = .ok (.aload_n 0, 1) := by decide +kernel
theorem dX5_word_35 : decode cX5_word 35 = .ok (.getfield 100, 3) := by decide +kernel
theorem dX5_word_38 : decode cX5_word 38 = .ok (.iconst 2, 1) := by decide +kernel
theorem dX5_word_39 : decode cX5_word 39 = .ok (.if_icmp .ne 22, 3) := by decide +kernel
theorem dX5_word_42 : decode cX5_word 42 = .ok (.aload_n 0, 1) := by decide +kernel
theorem dX5_word_43 : decode cX5_word 43 = .ok (.getfield 18, 3) := by decide +kernel
theorem dX5_word_46 : decode cX5_word 46 = .ok (.invokevirtual 30, 3) := by decide +kernel
theorem dX5_word_49 : decode cX5_word 49 = .ok (.aload_n 0, 1) := by decide +kernel
theorem dX5_word_50 : decode cX5_word 50 = .ok (.getfield 93, 3) := by decide +kernel
theorem dX5_word_53 : decode cX5_word 53 = .ok (.bipush 54, 2) := by decide +kernel
theorem dX5_word_55 : decode cX5_word 55 = .ok (.iconst 0, 1) := by decide +kernel
theorem dX5_word_56 : decode cX5_word 56 = .ok (.invokevirtual 66, 3) := by decide +kernel
theorem dX5_word_59 : decode cX5_word 59 = .ok (.pop, 1) := by decide +kernel
theorem dX5_word_60 : decode cX5_word 60 = .ok (.return_, 1) := by decide +kernel
theorem dX5_word_61 : decode cX5_word 61 = .ok (.iload_n 1, 1) := by decide +kernel
theorem dX5_word_62 : decode cX5_word 62 = .ok (.invokestatic 447, 3) := by decide +kernel
theorem dX5_word_65 : decode cX5_word 65 = .ok (.istore_n 3, 1) := by decide +kernel
theorem dX5_word_66 : decode cX5_word 66 = .ok (.iload_n 3, 1) := by decide +kernel
theorem dX5_word_67 : decode cX5_word 67 = .ok (.iconst (-1), 1) := by decide +kernel
theorem dX5_word_68 : decode cX5_word 68 = .ok (.if_icmp .ne 19, 3) := by decide +kernel
theorem dX5_word_71 : decode cX5_word 71 = .ok (.iload_n 2, 1) := by decide +kernel
theorem dX5_word_72 : decode cX5_word 72 = .ok (.ifCond .ne 15, 3) := by decide +kernel
theorem dX5_word_75 : decode cX5_word 75 = .ok (.aload_n 0, 1) := by decide +kernel
theorem dX5_word_76 : decode cX5_word 76 = .ok (.iconst 2, 1) := by decide +kernel
theorem dX5_word_77 : decode cX5_word 77 = .ok (.aload_n 0, 1) := by decide +kernel
theorem dX5_word_78 : decode cX5_word 78 = .ok (.getfield 18, 3) := by decide +kernel
theorem dX5_word_81 : decode cX5_word 81 = .ok (.getfield 78, 3) := by decide +kernel
theorem dX5_word_84 : decode cX5_word 84 = .ok (.invokevirtual 125, 3) := by decide +kernel
theorem dX5_word_87 : decode cX5_word 87 = .ok (.aload_n 0, 1) := by decide +kernel
theorem dX5_word_88 : decode cX5_word 88 = .ok (.getfield 18, 3) := by decide +kernel
theorem dX5_word_91 : decode cX5_word 91 = .ok (.invokevirtual 30, 3) := by decide +kernel
theorem dX5_word_94 : decode cX5_word 94 = .ok (.aload_n 0, 1) := by decide +kernel
theorem dX5_word_95 : decode cX5_word 95 = .ok (.bipush 10, 2) := by decide +kernel
theorem dX5_word_97 : decode cX5_word 97 = .ok (.invokevirtual 61, 3) := by decide +kernel
theorem dX5_word_100 : decode cX5_word 100 = .ok (.aload_n 0, 1) := by decide +kernel
theorem dX5_word_101 : decode cX5_word 101 = .ok (.invokevirtual 173, 3) := by decide +kernel
theorem dX5_word_104 : decode cX5_word 104 = .ok (.aload_n 0, 1) := by decide +kernel
theorem dX5_word_105 : decode cX5_word 105 = .ok (.iconst 0, 1) := by decide +kernel
theorem dX5_word_106 : decode cX5_word 106 = .ok (.invokevirtual 90, 3) := by decide +kernel
theorem dX5_word_109 : decode cX5_word 109 = .ok (.aload_n 0, 1) := by decide +kernel
theorem dX5_word_110 : decode cX5_word 110 = .ok (.bipush 11, 2) := by decide +kernel
theorem dX5_word_112 : decode cX5_word 112 = .ok (.invokevirtual 186, 3) := by decide +kernel
theorem dX5_word_115 : decode cX5_word 115 = .ok (.aload_n 0, 1) := by decide +kernel
theorem dX5_word_116 : decode cX5_word 116 = .ok (.getfield 93, 3) := by decide +kernel
theorem dX5_word_119 : decode cX5_word 119 = .ok (.iload_n 2, 1) := by decide +kernel
theorem dX5_word_120 : decode cX5_word 120 = .ok (.ifCond .eq 8, 3) := by decide +kernel
theorem dX5_word_123 : decode cX5_word 123 = .ok (.bipush 55, 2) := by decide +kernel
theorem dX5_word_125 : decode cX5_word 125 = .ok (.goto 4, 3) := by decide +kernel
theorem dX5_word_128 : decode cX5_word 128 = .ok (.iload_n 3, 1) := by decide +kernel
theorem dX5_word_129 : decode cX5_word 129 = .ok (.iconst 0, 1) := by decide +kernel
theorem dX5_word_130 : decode cX5_word 130 = .ok (.invokevirtual 66, 3) := by decide +kernel
theorem dX5_word_133 : decode cX5_word 133 = .ok (.pop, 1) := by decide +kernel
theorem dX5_word_134 : decode cX5_word 134 = .ok (.return_, 1) := by decide +kernel
theorem dX5_writeHoles_0 : decode cX5_writeHoles 0 = .ok (.aload_n 0, 1) := by decide +kernel
theorem dX5_writeHoles_1 : decode cX5_writeHoles 1 = .ok (.getfield 93, 3) := by decide +kernel
theorem dX5_writeHoles_4 : decode cX5_writeHoles 4 = .ok (.bipush 100, 2) := by decide +kernel
theorem dX5_writeHoles_6 : decode cX5_writeHoles 6 = .ok (.iconst 0, 1) := by decide +kernel
theorem dX5_writeHoles_7 : decode cX5_writeHoles 7 = .ok (.invokevirtual 66, 3) := by decide +kernel
theorem dX5_writeHoles_10 : decode cX5_writeHoles 10 = .ok (.pop, 1) := by decide +kernel
theorem dX5_writeHoles_11 : decode cX5_writeHoles 11 = .ok (.iload_n 3, 1) := by decide +kernel
theorem dX5_writeHoles_12 : decode cX5_writeHoles 12 = .ok (.istore 4, 2) := by decide +kernel
theorem dX5_writeHoles_14 : decode cX5_writeHoles 14 = .ok (.iload_n 1, 1) := by decide +kernel
theorem dX5_writeHoles_15 : decode cX5_writeHoles 15 = .ok (.istore 5, 2) := by decide +kernel
theorem dX5_writeHoles_17 : decode cX5_writeHoles 17 = .ok (.iconst 0, 1) := by decide +kernel
theorem dX5_writeHoles_18 : decode cX5_writeHoles 18 = .ok (.istore 6, 2) := by decide +kernel
theorem dX5_writeHoles_20 : decode cX5_writeHoles 20 = .ok (.iload 6, 2) := by decide +kernel
theorem dX5_writeHoles_22 : decode cX5_writeHoles 22 = .ok (.iload_n 2, 1) := by decide +kernel
theorem dX5_writeHoles_23 : decode cX5_writeHoles 23 = .ok (.if_icmp .ge 86, 3) := by decide +kernel
theorem dX5_writeHoles_26 : decode cX5_writeHoles 26 = .ok (.aload_n 0, 1) := by decide +kernel
theorem dX5_writeHoles_27 : decode cX5_writeHoles 27 = .ok (.getfield 9, 3) := by decide +kernel
theorem dX5_writeHoles_30 : decode cX5_writeHoles 30 = .ok (.iload 5, 2) := by decide +kernel
theorem dX5_writeHoles_32 : decode cX5_writeHoles 32 = .ok (.iaload, 1) := by decide +kernel
theorem dX5_writeHoles_33 : decode cX5_writeHoles 33 = .ok (.iconst (-1), 1) := by decide +kernel
theorem dX5_writeHoles_34 : decode cX5_writeHoles 34 = .ok (.if_icmp .eq 39, 3) := by decide +kernel
theorem dX5_writeHoles_37 : decode cX5_writeHoles 37 = .ok (.aload_n 0, 1) := by decide +kernel
theorem dX5_writeHoles_38 : decode cX5_writeHoles 38 = .ok (.getfield 93, 3) := by decide +kernel
theorem dX5_writeHoles_41 : decode cX5_writeHoles 41 = .ok (.bipush 99, 2) := by decide +kernel
theorem dX5_writeHoles_43 : decode cX5_writeHoles 43 = .ok (.iload 6, 2) := by decide +kernel
theorem dX5_writeHoles_45 : decode cX5_writeHoles 45 = .ok (.invokevirtual 66, 3) := by decide +kernel
theorem dX5_writeHoles_48 : decode cX5_writeHoles 48 = .ok (.pop, 1) := by decide +kernel
theorem dX5_writeHoles_49 : decode cX5_writeHoles 49 = .ok (.aload_n 0, 1) := by decide +kernel
theorem dX5_writeHoles_50 : decode cX5_writeHoles 50 = .ok (.sipush 192, 3) := by decide +kernel
theorem dX5_writeHoles_53 : decode cX5_writeHoles 53 = .ok (.iload 5, 2) := by decide +kernel
theorem dX5_writeHoles_55 : decode cX5_writeHoles 55 = .ok (.iload 4, 2) := by decide +kernel
theorem dX5_writeHoles_57 : decode cX5_writeHoles 57 = .ok (.iconst 2, 1) := by decide +kernel
theorem dX5_writeHoles_58 : decode cX5_writeHoles 58 = .ok (.iadd, 1) := by decide +kernel
theorem dX5_writeHoles_59 : decode cX5_writeHoles 59 = .ok (.invokevirtual 316, 3) := by decide +kernel
theorem dX5_writeHoles_62 : decode cX5_writeHoles 62 = .ok (.aload_n 0, 1) := by decide +kernel
theorem dX5_writeHoles_63 : decode cX5_writeHoles 63 = .ok (.getfield 93, 3) := by decide +kernel
theorem dX5_writeHoles_66 : decode cX5_writeHoles 66 = .ok (.bipush 37, 2) := by decide +kernel
theorem dX5_writeHoles_68 : decode cX5_writeHoles 68 = .ok (.iconst 1, 1) := by decide +kernel
theorem dX5_writeHoles_69 : decode cX5_writeHoles 69 = .ok (.invokevirtual 66, 3) := by decide +kernel
theorem dX5_writeHoles_72 : decode cX5_writeHoles 72 = .ok (.pop, 1) := by decide +kernel
theorem dX5_writeHoles_73 : decode cX5_writeHoles 73 = .ok (.iload 4, 2) := by decide +kernel
theorem dX5_writeHoles_75 : decode cX5_writeHoles 75 = .ok (.aload_n 0, 1) := by decide +kernel
theorem dX5_writeHoles_76 : decode cX5_writeHoles 76 = .ok (.getfield 9, 3) := by decide +kernel
theorem dX5_writeHoles_79 : decode cX5_writeHoles 79 = .ok (.iload 5, 2) := by decide +kernel
theorem dX5_writeHoles_81 : decode cX5_writeHoles 81 = .ok (.iconst 2, 1) := by decide +kernel
theorem dX5_writeHoles_82 : decode cX5_writeHoles 82 = .ok (.iadd, 1) := by decide +kernel
theorem dX5_writeHoles_83 : decode cX5_writeHoles 83 = .ok (.iaload, 1) := by decide +kernel
theorem dX5_writeHoles_84 : decode cX5_writeHoles 84 = .ok (.isub, 1) := by decide +kernel
theorem dX5_writeHoles_85 : decode cX5_writeHoles 85 = .ok (.istore 4, 2) := by decide +kernel
theorem dX5_writeHoles_87 : decode cX5_writeHoles 87 = .ok (.iload 5, 2) := by decide +kernel
theorem dX5_writeHoles_89 : decode cX5_writeHoles 89 = .ok (.iconst 4, 1) := by decide +kernel
theorem dX5_writeHoles_90 : decode cX5_writeHoles 90 = .ok (.iadd, 1) := by decide +kernel
theorem dX5_writeHoles_91 : decode cX5_writeHoles 91 = .ok (.aload_n 0, 1) := by decide +kernel
theorem dX5_writeHoles_92 : decode cX5_writeHoles 92 = .ok (.getfield 9, 3) := by decide +kernel
theorem dX5_writeHoles_95 : decode cX5_writeHoles 95 = .ok (.iload 5, 2) := by decide +kernel
theorem dX5_writeHoles_97 : decode cX5_writeHoles 97 = .ok (.iconst 3, 1) := by decide +kernel
theorem dX5_writeHoles_98 : decode cX5_writeHoles 98 = .ok (.iadd, 1) := by decide +kernel
theorem dX5_writeHoles_99 : decode cX5_writeHoles 99 = .ok (.iaload, 1) := by decide +kernel
theorem dX5_writeHoles_100 : decode cX5_writeHoles 100 = .ok (.iadd, 1) := by decide +kernel
theorem dX5_writeHoles_101 : decode cX5_writeHoles 101 = .ok (.istore 5, 2) := by decide +kernel
theorem dX5_writeHoles_103 : decode cX5_writeHoles 103 = .ok (.iinc 6 1, 3) := by decide +kernel
theorem dX5_writeHoles_106 : decode cX5_writeHoles 106 = .ok (.goto (-86), 3) := by decide +kernel
theorem dX5_writeHoles_109 : decode cX5_writeHoles 109 = .ok (.aload_n 0, 1) := by decide +kernel
theorem dX5_writeHoles_110 : decode cX5_writeHoles 110 = .ok (.getfield 93, 3) := by decide +kernel
theorem dX5_writeHoles_113 : decode cX5_writeHoles 113 = .ok (.bipush 37, 2) := by decide +kernel
theorem dX5_writeHoles_115 : decode cX5_writeHoles 115 = .ok (.iload_n 3, 1) := by decide +kernel
theorem dX5_writeHoles_116 : decode cX5_writeHoles 116 = .ok (.iconst 1, 1) := by decide +kernel
theorem dX5_writeHoles_117 : decode cX5_writeHoles 117 = .ok (.iadd, 1) := by decide +kernel
theorem dX5_writeHoles_118 : decode cX5_writeHoles 118 = .ok (.invokevirtual 66, 3) := by decide +kernel
theorem dX5_writeHoles_121 : decode cX5_writeHoles 121 = .ok (.pop, 1) := by decide +kernel
theorem dX5_writeHoles_122 : decode cX5_writeHoles 122 = .ok (.return_, 1) := by decide +kernel
theorem dX6_print_0 : decode cX6_print 0 = .ok (.aload_n 0, 1) := by decide +kernel
theorem dX6_print_1 : decode cX6_print 1 = .ok (.iconst 0, 1) := by decide +kernel
theorem dX6_print_2 : decode cX6_print 2 = .ok (.putfield 23, 3) := by decide +kernel
theorem dX6_print_5 : decode cX6_print 5 = .ok (.aload_n 0, 1) := by decide +kernel
theorem dX6_print_6 : decode cX6_print 6 = .ok (.iload_n 1, 1) := by decide +kernel
theorem dX6_print_7 : decode cX6_print 7 = .ok (.invokevirtual 27, 3) := by decide +kernel
theorem dX6_print_10 : decode cX6_print 10 = .ok (.return_, 1) := by decide +kernel
theorem dX6_printPlain_0 : decode cX6_printPlain 0 = .ok (.aload_n 0, 1) := by decide +kernel
theorem dX6_printPlain_1 : decode cX6_printPlain 1 = .ok (.iconst 0, 1) := by decide +kernel
theorem dX6_printPlain_2 : decode cX6_printPlain 2 = .ok (.putfield 23, 3) := by decide +kernel
theorem dX6_printPlain_5 : decode cX6_printPlain 5 = .ok (.aload_n 0, 1) := by decide +kernel
theorem dX6_printPlain_6 : decode cX6_printPlain 6 = .ok (.getfield 15, 3) := by decide +kernel
theorem dX6_printPlain_9 : decode cX6_printPlain 9 = .ok (.iload_n 1, 1) := by decide +kernel
theorem dX6_printPlain_10 : decode cX6_printPlain 10 = .ok (.invokevirtual 31, 3) := by decide +kernel
theorem dX6_printPlain_13 : decode cX6_printPlain 13 = .ok (.iconst 4, 1) := by decide +kernel
theorem dX6_printPlain_14 : decode cX6_printPlain 14 = .ok (.if_icmp .ne 11, 3) := by decide +kernel
theorem dX6_printPlain_17 : decode cX6_printPlain 17 = .ok (.aload_n 0, 1) := by decide +kernel
theorem dX6_printPlain_18 : decode cX6_printPlain 18 = .ok (.iload_n 1, 1) := by decide +kernel
theorem dX6_printPlain_19 : decode cX6_printPlain 19 = .ok (.invokevirtual 37, 3) := by decide +kernel
theorem dX6_printPlain_22 : decode cX6_printPlain 22 = .ok (.goto 8, 3) := by decide +kernel
theorem dX6_printPlain_25 : decode cX6_printPlain 25 = .ok (.aload_n 0, 1) := by decide +kernel
theorem dX6_printPlain_26 : decode cX6_printPlain 26 = .ok (.iload_n 1, 1) := by decide +kernel
theorem dX6_printPlain_27 : decode cX6_printPlain 27 = .ok (.invokevirtual 27, 3) := by decide +kernel
theorem dX6_printPlain_30 : decode cX6_printPlain 30 = .ok (.return_, 1) := by decide +kernel
theorem dX6_word_0 : decode cX6_word 0 = .ok (.aload_n 0, 1) := by decide +kernel
theorem dX6_word_1 : decode cX6_word 1 = .ok (.iconst 0, 1) := by decide +kernel
theorem dX6_word_2 : decode cX6_word 2 = .ok (.putfield 23, 3) := by decide +kernel
theorem dX6_word_5 : decode cX6_word 5 = .ok (.aload_n 0, 1) := by decide +kernel
theorem dX6_word_6 : decode cX6_word 6 = .ok (.aload_n 1, 1) := by decide +kernel
theorem dX6_word_7 : decode cX6_word 7 = .ok (.invokevirtual 45, 3) := by decide +kernel
theorem dX6_word_10 : decode cX6_word 10 = .ok (.aload_n 0, 1) := by decide +kernel
theorem dX6_word_11 : decode cX6_word 11 = .ok (.invokevirtual 96, 3) := by decide +kernel
theorem dX6_word_14 : decode cX6_word 14 = .ok (.ireturn, 1) := by decide +kernel
theorem dX6_write_0 : decode cX6_write 0 = .ok (.aload_n 0, 1) := by decide +kernel
theorem dX6_write_1 : decode cX6_write 1 = .ok (.getfield 15, 3) := by decide +kernel
theorem dX6_write_4 : decode cX6_write 4 = .ok (.iload_n 1, 1) := by decide +kernel
theorem dX6_write_5 : decode cX6_write 5 = .ok (.invokevirtual 31, 3) := by decide +kernel
theorem dX6_write_8 : decode cX6_write 8 = .ok (.tableswitch 162 1 6 #[40, 60, 83, 118, 138, 150], 40) := by decide +kernel
theorem dX6_write_48 : decode cX6_write 48 = .ok (.aload_n 0, 1) := by decide +kernel
theorem dX6_write_49 : decode cX6_write 49 = .ok (.iload_n 1, 1) := by decide +kernel
theorem dX6_write_50 : decode cX6_write 50 = .ok (.ldc 40, 2) := by decide +kernel
theorem dX6_write_52 : decode cX6_write 52 = .ok (.if_icmp .ne 8, 3) := by decide +kernel
theorem dX6_write_55 : decode cX6_write 55 = .ok (.ldc 41, 2) := by decide +kernel
theorem dX6_write_57 : decode cX6_write 57 = .ok (.goto 5, 3) := by decide +kernel
theorem dX6_write_60 : decode cX6_write 60 = .ok (.ldc 43, 2) := by decide +kernel
theorem dX6_write_62 : decode cX6_write 62 = .ok (.invokevirtual 45, 3) := by decide +kernel
theorem dX6_write_65 : decode cX6_write 65 = .ok (.goto 111, 3) := by decide +kernel
theorem dX6_write_68 : decode cX6_write 68 = .ok (.aload_n 0, 1) := by decide +kernel
theorem dX6_write_69 : decode cX6_write 69 = .ok (.aload_n 0, 1) := by decide +kernel
theorem dX6_write_70 : decode cX6_write 70 = .ok (.getfield 19, 3) := by decide +kernel
theorem dX6_write_73 : decode cX6_write 73 = .ok (.iload_n 1, 1) := by decide +kernel
theorem dX6_write_74 : decode cX6_write 74 = .ok (.aload_n 0, 1) := by decide +kernel
theorem dX6_write_75 : decode cX6_write 75 = .ok (.getfield 11, 3) := by decide +kernel
theorem dX6_write_78 : decode cX6_write 78 = .ok (.aload_n 0, 1) := by decide +kernel
theorem dX6_write_79 : decode cX6_write 79 = .ok (.getfield 23, 3) := by decide +kernel
theorem dX6_write_82 : decode cX6_write 82 = .ok (.invokevirtual 49, 3) := by decide +kernel
theorem dX6_write_85 : decode cX6_write 85 = .ok (.putfield 23, 3) := by decide +kernel
theorem dX6_write_88 : decode cX6_write 88 = .ok (.goto 88, 3) := by decide +kernel
theorem dX6_write_91 : decode cX6_write 91 = .ok (.aload_n 0, 1) := by decide +kernel
theorem dX6_write_92 : decode cX6_write 92 = .ok (.bipush 35, 2) := by decide +kernel
theorem dX6_write_94 : decode cX6_write 94 = .ok (.invokevirtual 55, 3) := by decide +kernel
theorem dX6_write_97 : decode cX6_write 97 = .ok (.aload_n 0, 1) := by decide +kernel
theorem dX6_write_98 : decode cX6_write 98 = .ok (.aload_n 0, 1) := by decide +kernel
theorem dX6_write_99 : decode cX6_write 99 = .ok (.getfield 19, 3) := by decide +kernel
theorem dX6_write_102 : decode cX6_write 102 = .ok (.iload_n 1, 1) := by decide +kernel
theorem dX6_write_103 : decode cX6_write 103 = .ok (.ldc 58, 2) := by decide +kernel
theorem dX6_write_105 : decode cX6_write 105 = .ok (.iand, 1) := by decide +kernel
theorem dX6_write_106 : decode cX6_write 106 = .ok (.invokestatic 59, 3) := by decide +kernel
theorem dX6_write_109 : decode cX6_write 109 = .ok (.aload_n 0, 1) := by decide +kernel
theorem dX6_write_110 : decode cX6_write 110 = .ok (.getfield 11, 3) := by decide +kernel
theorem dX6_write_113 : decode cX6_write 113 = .ok (.aload_n 0, 1) := by decide +kernel
theorem dX6_write_114 : decode cX6_write 114 = .ok (.getfield 23, 3) := by decide +kernel
theorem dX6_write_117 : decode cX6_write 117 = .ok (.invokevirtual 49, 3) := by decide +kernel
theorem dX6_write_120 : decode cX6_write 120 = .ok (.putfield 23, 3) := by decide +kernel
theorem dX6_write_123 : decode cX6_write 123 = .ok (.goto 53, 3) := by decide +kernel
theorem dX6_write_126 : decode cX6_write 126 = .ok (.aload_n 0, 1) := by decide +kernel
theorem dX6_write_127 : decode cX6_write 127 = .ok (.bipush 34, 2) := by decide +kernel
theorem dX6_write_129 : decode cX6_write 129 = .ok (.invokevirtual 55, 3) := by decide +kernel
theorem dX6_write_132 : decode cX6_write 132 = .ok (.aload_n 0, 1) := by decide +kernel
theorem dX6_write_133 : decode cX6_write 133 = .ok (.iload_n 1, 1) := by decide +kernel
theorem dX6_write_134 : decode cX6_write 134 = .ok (.invokevirtual 37, 3) := by decide +kernel
theorem dX6_write_137 : decode cX6_write 137 = .ok (.aload_n 0, 1) := by decide +kernel
theorem dX6_write_138 : decode cX6_write 138 = .ok (.bipush 34, 2) := by decide +kernel
theorem dX6_write_140 : decode cX6_write 140 = .ok (.invokevirtual 55, 3) := by decide +kernel
theorem dX6_write_143 : decode cX6_write 143 = .ok (.goto 33, 3) := by decide +kernel
theorem dX6_write_146 : decode cX6_write 146 = .ok (.aload_n 0, 1) := by decide +kernel
theorem dX6_write_147 : decode cX6_write 147 = .ok (.iload_n 1, 1) := by decide +kernel
theorem dX6_write_148 : decode cX6_write 148 = .ok (.bipush 91, 2) := by decide +kernel
theorem dX6_write_150 : decode cX6_write 150 = .ok (.bipush 93, 2) := by decide +kernel
theorem dX6_write_152 : decode cX6_write 152 = .ok (.invokevirtual 62, 3) := by decide +kernel
theorem dX6_write_155 : decode cX6_write 155 = .ok (.goto 21, 3) := by decide +kernel
theorem dX6_write_158 : decode cX6_write 158 = .ok (.aload_n 0, 1) := by decide +kernel
theorem dX6_write_159 : decode cX6_write 159 = .ok (.iload_n 1, 1) := by decide +kernel
theorem dX6_write_160 : decode cX6_write 160 = .ok (.bipush 123, 2) := by decide +kernel
theorem dX6_write_162 : decode cX6_write 162 = .ok (.bipush 125, 2) := by decide +kernel
theorem dX6_write_164 : decode cX6_write 164 = .ok (.invokevirtual 62, 3) := by decide +kernel
theorem dX6_write_167 : decode cX6_write 167 = .ok (.goto 9, 3) := by decide +kernel
theorem dX6_write_170 : decode cX6_write 170 = .ok (.aload_n 0, 1) := by decide +kernel
theorem dX6_write_171 : decode cX6_write 171 = .ok (.ldc 66, 2) := by decide +kernel
theorem dX6_write_173 : decode cX6_write 173 = .ok (.invokevirtual 45, 3) := by decide +kernel
theorem dX6_write_176 : decode cX6_write 176 = .ok (.return_, 1) := by decide +kernel
theorem dX6_writeRow_0 : decode cX6_writeRow 0 = .ok (.aload_n 0, 1) := by decide +kernel
theorem dX6_writeRow_1 : decode cX6_writeRow 1 = .ok (.iload_n 2, 1) := by decide +kernel
theorem dX6_writeRow_2 : decode cX6_writeRow 2 = .ok (.invokevirtual 55, 3) := by decide +kernel
theorem dX6_writeRow_5 : decode cX6_writeRow 5 = .ok (.aload_n 0, 1) := by decide +kernel
theorem dX6_writeRow_6 : decode cX6_writeRow 6 = .ok (.getfield 15, 3) := by decide +kernel
theorem dX6_writeRow_9 : decode cX6_writeRow 9 = .ok (.iload_n 1, 1) := by decide +kernel
theorem dX6_writeRow_10 : decode cX6_writeRow 10 = .ok (.invokevirtual 68, 3) := by decide +kernel
theorem dX6_writeRow_13 : decode cX6_writeRow 13 = .ok (.istore 4, 2) := by decide +kernel
theorem dX6_writeRow_15 : decode cX6_writeRow 15 = .ok (.iconst 0, 1) := by decide +kernel
theorem dX6_writeRow_16 : decode cX6_writeRow 16 = .ok (.istore 5, 2) := by decide +kernel
theorem dX6_writeRow_18 : decode cX6_writeRow 18 = .ok (.iload 5, 2) := by decide +kernel
theorem dX6_writeRow_20 : decode cX6_writeRow 20 = .ok (.iload 4, 2) := by decide +kernel
theorem dX6_writeRow_22 : decode cX6_writeRow 22 = .ok (.if_icmp .ge 40, 3) := by decide +kernel
theorem dX6_writeRow_25 : decode cX6_writeRow 25 = .ok (.iload 5, 2) := by decide +kernel
theorem dX6_writeRow_27 : decode cX6_writeRow 27 = .ok (.ifCond .le 15, 3) := by decide +kernel
theorem dX6_writeRow_30 : decode cX6_writeRow 30 = .ok (.aload_n 0, 1) := by decide +kernel
theorem dX6_writeRow_31 : decode cX6_writeRow 31 = .ok (.bipush 44, 2) := by decide +kernel
theorem dX6_writeRow_33 : decode cX6_writeRow 33 = .ok (.invokevirtual 55, 3) := by decide +kernel
theorem dX6_writeRow_36 : decode cX6_writeRow 36 = .ok (.aload_n 0, 1) := by decide +kernel
theorem dX6_writeRow_37 : decode cX6_writeRow 37 = .ok (.bipush 32, 2) := by decide +kernel
theorem dX6_writeRow_39 : decode cX6_writeRow 39 = .ok (.invokevirtual 55, 3) := by decide +kernel
theorem dX6_writeRow_42 : decode cX6_writeRow 42 = .ok (.aload_n 0, 1) := by decide +kernel
theorem dX6_writeRow_43 : decode cX6_writeRow 43 = .ok (.aload_n 0, 1) := by decide +kernel
theorem dX6_writeRow_44 : decode cX6_writeRow 44 = .ok (.getfield 15, 3) := by decide +kernel
theorem dX6_writeRow_47 : decode cX6_writeRow 47 = .ok (.iload_n 1, 1) := by decide +kernel
theorem dX6_writeRow_48 : decode cX6_writeRow 48 = .ok (.iload 5, 2) := by decide +kernel
theorem dX6_writeRow_50 : decode cX6_writeRow 50 = .ok (.invokevirtual 70, 3) := by decide +kernel
theorem dX6_writeRow_53 : decode cX6_writeRow 53 = .ok (.invokevirtual 27, 3) := by decide +kernel
theorem dX6_writeRow_56 : decode cX6_writeRow 56 = .ok (.iinc 5 1, 3) := by decide +kernel
theorem dX6_writeRow_59 : decode cX6_writeRow 59 = .ok (.goto (-41), 3) := by decide +kernel
theorem dX6_writeRow_62 : decode cX6_writeRow 62 = .ok (.aload_n 0, 1) := by decide +kernel
theorem dX6_writeRow_63 : decode cX6_writeRow 63 = .ok (.iload_n 3, 1) := by decide +kernel
theorem dX6_writeRow_64 : decode cX6_writeRow 64 = .ok (.invokevirtual 55, 3) := by decide +kernel
theorem dX6_writeRow_67 : decode cX6_writeRow 67 = .ok (.return_, 1) := by decide +kernel
theorem dX6_writeWord_0 : decode cX6_writeWord 0 = .ok (.iconst 0, 1) := by decide +kernel
theorem dX6_writeWord_1 : decode cX6_writeWord 1 = .ok (.istore_n 2, 1) := by decide +kernel
theorem dX6_writeWord_2 : decode cX6_writeWord 2 = .ok (.iload_n 2, 1) := by decide +kernel
theorem dX6_writeWord_3 : decode cX6_writeWord 3 = .ok (.aload_n 1, 1) := by decide +kernel
theorem dX6_writeWord_4 : decode cX6_writeWord 4 = .ok (.invokevirtual 83, 3) := by decide +kernel
theorem dX6_writeWord_7 : decode cX6_writeWord 7 = .ok (.if_icmp .ge 18, 3) := by decide +kernel
theorem dX6_writeWord_10 : decode cX6_writeWord 10 = .ok (.aload_n 0, 1) := by decide +kernel
theorem dX6_writeWord_11 : decode cX6_writeWord 11 = .ok (.aload_n 1, 1) := by decide +kernel
theorem dX6_writeWord_12 : decode cX6_writeWord 12 = .ok (.iload_n 2, 1) := by decide +kernel
theorem dX6_writeWord_13 : decode cX6_writeWord 13 = .ok (.invokevirtual 88, 3) := by decide +kernel
theorem dX6_writeWord_16 : decode cX6_writeWord 16 = .ok (.invokevirtual 55, 3) := by decide +kernel
theorem dX6_writeWord_19 : decode cX6_writeWord 19 = .ok (.iinc 2 1, 3) := by decide +kernel
theorem dX6_writeWord_22 : decode cX6_writeWord 22 = .ok (.goto (-20), 3) := by decide +kernel
theorem dX6_writeWord_25 : decode cX6_writeWord 25 = .ok (.return_, 1) := by decide +kernel
theorem dX7_emit_0 : decode cX7_emit 0 = .ok (.aload_n 0, 1) := by decide +kernel
theorem dX7_emit_1 : decode cX7_emit 1 = .ok (.iconst 1, 1) := by decide +kernel
theorem dX7_emit_2 : decode cX7_emit 2 = .ok (.invokevirtual 85, 3) := by decide +kernel
theorem dX7_emit_5 : decode cX7_emit 5 = .ok (.aload_n 0, 1) := by decide +kernel
theorem dX7_emit_6 : decode cX7_emit 6 = .ok (.getfield 9, 3) := by decide +kernel
theorem dX7_emit_9 : decode cX7_emit 9 = .ok (.aload_n 0, 1) := by decide +kernel
theorem dX7_emit_10 : decode cX7_emit 10 = .ok (.getfield 53, 3) := by decide +kernel
theorem dX7_emit_13 : decode cX7_emit 13 = .ok (.iload_n 1, 1) := by decide +kernel
theorem dX7_emit_14 : decode cX7_emit 14 = .ok (.iload_n 2, 1) := by decide +kernel
theorem dX7_emit_15 : decode cX7_emit 15 = .ok (.bipush 8, 2) := by decide +kernel
theorem dX7_emit_17 : decode cX7_emit 17 = .ok (.ishl, 1) := by decide +kernel
theorem dX7_emit_18 : decode cX7_emit 18 = .ok (.ior, 1) := by decide +kernel
theorem dX7_emit_19 : decode cX7_emit 19 = .ok (.iastore, 1) := by decide +kernel
theorem dX7_emit_20 : decode cX7_emit 20 = .ok (.aload_n 0, 1) := by decide +kernel
theorem dX7_emit_21 : decode cX7_emit 21 = .ok (.dup, 1) := by decide +kernel
theorem dX7_emit_22 : decode cX7_emit 22 = .ok (.getfield 53, 3) := by decide +kernel
theorem dX7_emit_25 : decode cX7_emit 25 = .ok (.iconst 1, 1) := by decide +kernel
theorem dX7_emit_26 : decode cX7_emit 26 = .ok (.iadd, 1) := by decide +kernel
theorem dX7_emit_27 : decode cX7_emit 27 = .ok (.putfield 53, 3) := by decide +kernel
theorem dX7_emit_30 : decode cX7_emit 30 = .ok (.aload_n 0, 1) := by decide +kernel
theorem dX7_emit_31 : decode cX7_emit 31 = .ok (.getfield 53, 3) := by decide +kernel
theorem dX7_emit_34 : decode cX7_emit 34 = .ok (.iconst 1, 1) := by decide +kernel
theorem dX7_emit_35 : decode cX7_emit 35 = .ok (.isub, 1) := by decide +kernel
theorem dX7_emit_36 : decode cX7_emit 36 = .ok (.ireturn, 1) := by decide +kernel
theorem dX7_emptyBehind_0 : decode cX7_emptyBehind 0 = .ok (.aload_n 0, 1) := by decide +kernel
theorem dX7_emptyBehind_1 : decode cX7_emptyBehind 1 = .ok (.aload_n 1, 1) := by decide +kernel
theorem dX7_emptyBehind_2 : decode cX7_emptyBehind 2 = .ok (.getfield 9, 3) := by decide +kernel
theorem dX7_emptyBehind_5 : decode cX7_emptyBehind 5 = .ok (.putfield 9, 3) := by decide +kernel
theorem dX7_emptyBehind_8 : decode cX7_emptyBehind 8 = .ok (.aload_n 0, 1) := by decide +kernel
theorem dX7_emptyBehind_9 : decode cX7_emptyBehind 9 = .ok (.aload_n 1, 1) := by decide +kernel
theorem dX7_emptyBehind_10 : decode cX7_emptyBehind 10 = .ok (.getfield 53, 3) := by decide +kernel
theorem dX7_emptyBehind_13 : decode cX7_emptyBehind 13 = .ok (.putfield 53, 3) := by decide +kernel
theorem dX7_emptyBehind_16 : decode cX7_emptyBehind 16 = .ok (.aload_n 0, 1) := by decide +kernel
theorem dX7_emptyBehind_17 : decode cX7_emptyBehind 17 = .ok (.aload_n 1, 1) := by decide +kernel
theorem dX7_emptyBehind_18 : decode cX7_emptyBehind 18 = .ok (.getfield 53, 3) := by decide +kernel
theorem dX7_emptyBehind_21 : decode cX7_emptyBehind 21 = .ok (.putfield 57, 3) := by decide +kernel
theorem dX7_emptyBehind_24 : decode cX7_emptyBehind 24 = .ok (.aload_n 0, 1) := by decide +kernel
theorem dX7_emptyBehind_25 : decode cX7_emptyBehind 25 = .ok (.iconst 0, 1) := by decide +kernel
theorem dX7_emptyBehind_26 : decode cX7_emptyBehind 26 = .ok (.putfield 60, 3) := by decide +kernel
theorem dX7_emptyBehind_29 : decode cX7_emptyBehind 29 = .ok (.aload_n 0, 1) := by decide +kernel
theorem dX7_emptyBehind_30 : decode cX7_emptyBehind 30 = .ok (.iconst 0, 1) := by decide +kernel
theorem dX7_emptyBehind_31 : decode cX7_emptyBehind 31 = .ok (.putfield 63, 3) := by decide +kernel
theorem dX7_emptyBehind_34 : decode cX7_emptyBehind 34 = .ok (.aload_n 0, 1) := by decide +kernel
theorem dX7_emptyBehind_35 : decode cX7_emptyBehind 35 = .ok (.iconst 0, 1) := by decide +kernel
theorem dX7_emptyBehind_36 : decode cX7_emptyBehind 36 = .ok (.putfield 66, 3) := by decide +kernel
theorem dX7_emptyBehind_39 : decode cX7_emptyBehind 39 = .ok (.aload_n 0, 1) := by decide +kernel
theorem dX7_emptyBehind_40 : decode cX7_emptyBehind 40 = .ok (.iconst 0, 1) := by decide +kernel
theorem dX7_emptyBehind_41 : decode cX7_emptyBehind 41 = .ok (.putfield 69, 3) := by decide +kernel
theorem dX7_emptyBehind_44 : decode cX7_emptyBehind 44 = .ok (.aload_n 0, 1) := by decide +kernel
theorem dX7_emptyBehind_45 : decode cX7_emptyBehind 45 = .ok (.iconst 0, 1) := by decide +kernel
theorem dX7_emptyBehind_46 : decode cX7_emptyBehind 46 = .ok (.invokevirtual 72, 3) := by decide +kernel
theorem dX7_emptyBehind_49 : decode cX7_emptyBehind 49 = .ok (.return_, 1) := by decide +kernel
theorem dX7_widen_0 : decode cX7_widen 0 = .ok (.aload_n 0, 1) := by decide +kernel
theorem dX7_widen_1 : decode cX7_widen 1 = .ok (.getfield 53, 3) := by decide +kernel
theorem dX7_widen_4 : decode cX7_widen 4 = .ok (.iload_n 1, 1) := by decide +kernel
theorem dX7_widen_5 : decode cX7_widen 5 = .ok (.iadd, 1) := by decide +kernel
theorem dX7_widen_6 : decode cX7_widen 6 = .ok (.aload_n 0, 1) := by decide +kernel
theorem dX7_widen_7 : decode cX7_widen 7 = .ok (.getfield 9, 3) := by decide +kernel
theorem dX7_widen_10 : decode cX7_widen 10 = .ok (.arraylength, 1) := by decide +kernel
theorem dX7_widen_11 : decode cX7_widen 11 = .ok (.if_icmp .le 26, 3) := by decide +kernel
theorem dX7_widen_14 : decode cX7_widen 14 = .ok (.aload_n 0, 1) := by decide +kernel
theorem dX7_widen_15 : decode cX7_widen 15 = .ok (.getfield 9, 3) := by decide +kernel
theorem dX7_widen_18 : decode cX7_widen 18 = .ok (.arraylength, 1) := by decide +kernel
theorem dX7_widen_19 : decode cX7_widen 19 = .ok (.ldc 88, 2) := by decide +kernel
theorem dX7_widen_21 : decode cX7_widen 21 = .ok (.if_icmp .ge 16, 3) := by decide +kernel
theorem dX7_widen_24 : decode cX7_widen 24 = .ok (.aload_n 0, 1) := by decide +kernel
theorem dX7_widen_25 : decode cX7_widen 25 = .ok (.aload_n 0, 1) := by decide +kernel
theorem dX7_widen_26 : decode cX7_widen 26 = .ok (.getfield 9, 3) := by decide +kernel
theorem dX7_widen_29 : decode cX7_widen 29 = .ok (.ldc 88, 2) := by decide +kernel
theorem dX7_widen_31 : decode cX7_widen 31 = .ok (.invokestatic 89, 3) := by decide +kernel
theorem dX7_widen_34 : decode cX7_widen 34 = .ok (.putfield 9, 3) := by decide +kernel
theorem dX7_widen_37 : decode cX7_widen 37 = .ok (.aload_n 0, 1) := by decide +kernel
theorem dX7_widen_38 : decode cX7_widen 38 = .ok (.getfield 53, 3) := by decide +kernel
theorem dX7_widen_41 : decode cX7_widen 41 = .ok (.iload_n 1, 1) := by decide +kernel
theorem dX7_widen_42 : decode cX7_widen 42 = .ok (.iadd, 1) := by decide +kernel
theorem dX7_widen_43 : decode cX7_widen 43 = .ok (.aload_n 0, 1) := by decide +kernel
theorem dX7_widen_44 : decode cX7_widen 44 = .ok (.getfield 9, 3) := by decide +kernel
theorem dX7_widen_47 : decode cX7_widen 47 = .ok (.arraylength, 1) := by decide +kernel
theorem dX7_widen_48 : decode cX7_widen 48 = .ok (.if_icmp .le 11, 3) := by decide +kernel
theorem dX7_widen_51 : decode cX7_widen 51 = .ok (.new 95, 3) := by decide +kernel
theorem dX7_widen_54 : decode cX7_widen 54 = .ok (.dup, 1) := by decide +kernel
theorem dX7_widen_55 : decode cX7_widen 55 = .ok (.invokespecial 97, 3) := by decide +kernel
theorem dX7_widen_58 : decode cX7_widen 58 = .ok (.athrow, 1) := by decide +kernel
theorem dX7_widen_59 : decode cX7_widen 59 = .ok (.return_, 1) := by decide +kernel
theorem dX7_word_0 : decode cX7_word 0 = .ok (.aload_n 0, 1) := by decide +kernel
theorem dX7_word_1 : decode cX7_word 1 = .ok (.iconst 1, 1) := by decide +kernel
theorem dX7_word_2 : decode cX7_word 2 = .ok (.invokevirtual 85, 3) := by decide +kernel
theorem dX7_word_5 : decode cX7_word 5 = .ok (.aload_n 0, 1) := by decide +kernel
theorem dX7_word_6 : decode cX7_word 6 = .ok (.getfield 9, 3) := by decide +kernel
theorem dX7_word_9 : decode cX7_word 9 = .ok (.aload_n 0, 1) := by decide +kernel
theorem dX7_word_10 : decode cX7_word 10 = .ok (.getfield 53, 3) := by decide +kernel
theorem dX7_word_13 : decode cX7_word 13 = .ok (.iload_n 1, 1) := by decide +kernel
theorem dX7_word_14 : decode cX7_word 14 = .ok (.iastore, 1) := by decide +kernel
theorem dX7_word_15 : decode cX7_word 15 = .ok (.aload_n 0, 1) := by decide +kernel
theorem dX7_word_16 : decode cX7_word 16 = .ok (.dup, 1) := by decide +kernel
theorem dX7_word_17 : decode cX7_word 17 = .ok (.getfield 53, 3) := by decide +kernel
theorem dX7_word_20 : decode cX7_word 20 = .ok (.iconst 1, 1) := by decide +kernel
theorem dX7_word_21 : decode cX7_word 21 = .ok (.iadd, 1) := by decide +kernel
theorem dX7_word_22 : decode cX7_word 22 = .ok (.putfield 53, 3) := by decide +kernel
theorem dX7_word_25 : decode cX7_word 25 = .ok (.aload_n 0, 1) := by decide +kernel
theorem dX7_word_26 : decode cX7_word 26 = .ok (.getfield 53, 3) := by decide +kernel
theorem dX7_word_29 : decode cX7_word 29 = .ok (.iconst 1, 1) := by decide +kernel
theorem dX7_word_30 : decode cX7_word 30 = .ok (.isub, 1) := by decide +kernel
theorem dX7_word_31 : decode cX7_word 31 = .ok (.ireturn, 1) := by decide +kernel
theorem dX7_words_0 : decode cX7_words 0 = .ok (.aload_n 0, 1) := by decide +kernel
theorem dX7_words_1 : decode cX7_words 1 = .ok (.iload_n 3, 1) := by decide +kernel
theorem dX7_words_2 : decode cX7_words 2 = .ok (.invokevirtual 85, 3) := by decide +kernel
theorem dX7_words_5 : decode cX7_words 5 = .ok (.aload_n 1, 1) := by decide +kernel
theorem dX7_words_6 : decode cX7_words 6 = .ok (.iload_n 2, 1) := by decide +kernel
theorem dX7_words_7 : decode cX7_words 7 = .ok (.aload_n 0, 1) := by decide +kernel
theorem dX7_words_8 : decode cX7_words 8 = .ok (.getfield 9, 3) := by decide +kernel
theorem dX7_words_11 : decode cX7_words 11 = .ok (.aload_n 0, 1) := by decide +kernel
theorem dX7_words_12 : decode cX7_words 12 = .ok (.getfield 53, 3) := by decide +kernel
theorem dX7_words_15 : decode cX7_words 15 = .ok (.iload_n 3, 1) := by decide +kernel
theorem dX7_words_16 : decode cX7_words 16 = .ok (.invokestatic 76, 3) := by decide +kernel
theorem dX7_words_19 : decode cX7_words 19 = .ok (.aload_n 0, 1) := by decide +kernel
theorem dX7_words_20 : decode cX7_words 20 = .ok (.aload_n 0, 1) := by decide +kernel
theorem dX7_words_21 : decode cX7_words 21 = .ok (.getfield 53, 3) := by decide +kernel
theorem dX7_words_24 : decode cX7_words 24 = .ok (.iload_n 3, 1) := by decide +kernel
theorem dX7_words_25 : decode cX7_words 25 = .ok (.iadd, 1) := by decide +kernel
theorem dX7_words_26 : decode cX7_words 26 = .ok (.putfield 53, 3) := by decide +kernel
theorem dX7_words_29 : decode cX7_words 29 = .ok (.return_, 1) := by decide +kernel
theorem dX8_copyFrom_0 : decode cX8_copyFrom 0 = .ok (.aload_n 0, 1) := by decide +kernel
theorem dX8_copyFrom_1 : decode cX8_copyFrom 1 = .ok (.aload_n 1, 1) := by decide +kernel
theorem dX8_copyFrom_2 : decode cX8_copyFrom 2 = .ok (.getfield 7, 3) := by decide +kernel
theorem dX8_copyFrom_5 : decode cX8_copyFrom 5 = .ok (.putfield 7, 3) := by decide +kernel
theorem dX8_copyFrom_8 : decode cX8_copyFrom 8 = .ok (.aload_n 0, 1) := by decide +kernel
theorem dX8_copyFrom_9 : decode cX8_copyFrom 9 = .ok (.aload_n 1, 1) := by decide +kernel
theorem dX8_copyFrom_10 : decode cX8_copyFrom 10 = .ok (.getfield 13, 3) := by decide +kernel
theorem dX8_copyFrom_13 : decode cX8_copyFrom 13 = .ok (.putfield 13, 3) := by decide +kernel
theorem dX8_copyFrom_16 : decode cX8_copyFrom 16 = .ok (.aload_n 0, 1) := by decide +kernel
theorem dX8_copyFrom_17 : decode cX8_copyFrom 17 = .ok (.aload_n 1, 1) := by decide +kernel
theorem dX8_copyFrom_18 : decode cX8_copyFrom 18 = .ok (.getfield 16, 3) := by decide +kernel
theorem dX8_copyFrom_21 : decode cX8_copyFrom 21 = .ok (.putfield 16, 3) := by decide +kernel
theorem dX8_copyFrom_24 : decode cX8_copyFrom 24 = .ok (.aload_n 0, 1) := by decide +kernel
theorem dX8_copyFrom_25 : decode cX8_copyFrom 25 = .ok (.aload_n 1, 1) := by decide +kernel
theorem dX8_copyFrom_26 : decode cX8_copyFrom 26 = .ok (.getfield 19, 3) := by decide +kernel
theorem dX8_copyFrom_29 : decode cX8_copyFrom 29 = .ok (.putfield 19, 3) := by decide +kernel
theorem dX8_copyFrom_32 : decode cX8_copyFrom 32 = .ok (.aload_n 0, 1) := by decide +kernel
theorem dX8_copyFrom_33 : decode cX8_copyFrom 33 = .ok (.aload_n 1, 1) := by decide +kernel
theorem dX8_copyFrom_34 : decode cX8_copyFrom 34 = .ok (.getfield 22, 3) := by decide +kernel
theorem dX8_copyFrom_37 : decode cX8_copyFrom 37 = .ok (.putfield 22, 3) := by decide +kernel
theorem dX8_copyFrom_40 : decode cX8_copyFrom 40 = .ok (.aload_n 0, 1) := by decide +kernel
theorem dX8_copyFrom_41 : decode cX8_copyFrom 41 = .ok (.aload_n 1, 1) := by decide +kernel
theorem dX8_copyFrom_42 : decode cX8_copyFrom 42 = .ok (.getfield 25, 3) := by decide +kernel
theorem dX8_copyFrom_45 : decode cX8_copyFrom 45 = .ok (.putfield 25, 3) := by decide +kernel
theorem dX8_copyFrom_48 : decode cX8_copyFrom 48 = .ok (.aload_n 0, 1) := by decide +kernel
theorem dX8_copyFrom_49 : decode cX8_copyFrom 49 = .ok (.aload_n 1, 1) := by decide +kernel
theorem dX8_copyFrom_50 : decode cX8_copyFrom 50 = .ok (.getfield 28, 3) := by decide +kernel
theorem dX8_copyFrom_53 : decode cX8_copyFrom 53 = .ok (.putfield 28, 3) := by decide +kernel
theorem dX8_copyFrom_56 : decode cX8_copyFrom 56 = .ok (.aload_n 0, 1) := by decide +kernel
theorem dX8_copyFrom_57 : decode cX8_copyFrom 57 = .ok (.aload_n 1, 1) := by decide +kernel
theorem dX8_copyFrom_58 : decode cX8_copyFrom 58 = .ok (.getfield 31, 3) := by decide +kernel
theorem dX8_copyFrom_61 : decode cX8_copyFrom 61 = .ok (.putfield 31, 3) := by decide +kernel
theorem dX8_copyFrom_64 : decode cX8_copyFrom 64 = .ok (.aload_n 0, 1) := by decide +kernel
theorem dX8_copyFrom_65 : decode cX8_copyFrom 65 = .ok (.aload_n 1, 1) := by decide +kernel
theorem dX8_copyFrom_66 : decode cX8_copyFrom 66 = .ok (.getfield 34, 3) := by decide +kernel
theorem dX8_copyFrom_69 : decode cX8_copyFrom 69 = .ok (.putfield 34, 3) := by decide +kernel
theorem dX8_copyFrom_72 : decode cX8_copyFrom 72 = .ok (.aload_n 0, 1) := by decide +kernel
theorem dX8_copyFrom_73 : decode cX8_copyFrom 73 = .ok (.aload_n 1, 1) := by decide +kernel
theorem dX8_copyFrom_74 : decode cX8_copyFrom 74 = .ok (.getfield 37, 3) := by decide +kernel
theorem dX8_copyFrom_77 : decode cX8_copyFrom 77 = .ok (.putfield 37, 3) := by decide +kernel
theorem dX8_copyFrom_80 : decode cX8_copyFrom 80 = .ok (.aload_n 0, 1) := by decide +kernel
theorem dX8_copyFrom_81 : decode cX8_copyFrom 81 = .ok (.aload_n 1, 1) := by decide +kernel
theorem dX8_copyFrom_82 : decode cX8_copyFrom 82 = .ok (.getfield 40, 3) := by decide +kernel
theorem dX8_copyFrom_85 : decode cX8_copyFrom 85 = .ok (.putfield 40, 3) := by decide +kernel
theorem dX8_copyFrom_88 : decode cX8_copyFrom 88 = .ok (.aload_n 0, 1) := by decide +kernel
theorem dX8_copyFrom_89 : decode cX8_copyFrom 89 = .ok (.aload_n 1, 1) := by decide +kernel
theorem dX8_copyFrom_90 : decode cX8_copyFrom 90 = .ok (.getfield 43, 3) := by decide +kernel
theorem dX8_copyFrom_93 : decode cX8_copyFrom 93 = .ok (.putfield 43, 3) := by decide +kernel
theorem dX8_copyFrom_96 : decode cX8_copyFrom 96 = .ok (.aload_n 0, 1) := by decide +kernel
theorem dX8_copyFrom_97 : decode cX8_copyFrom 97 = .ok (.aload_n 1, 1) := by decide +kernel
theorem dX8_copyFrom_98 : decode cX8_copyFrom 98 = .ok (.getfield 46, 3) := by decide +kernel
theorem dX8_copyFrom_101 : decode cX8_copyFrom 101 = .ok (.putfield 46, 3) := by decide +kernel
theorem dX8_copyFrom_104 : decode cX8_copyFrom 104 = .ok (.aload_n 0, 1) := by decide +kernel
theorem dX8_copyFrom_105 : decode cX8_copyFrom 105 = .ok (.aload_n 1, 1) := by decide +kernel
theorem dX8_copyFrom_106 : decode cX8_copyFrom 106 = .ok (.getfield 49, 3) := by decide +kernel
theorem dX8_copyFrom_109 : decode cX8_copyFrom 109 = .ok (.putfield 49, 3) := by decide +kernel
theorem dX8_copyFrom_112 : decode cX8_copyFrom 112 = .ok (.aload_n 0, 1) := by decide +kernel
theorem dX8_copyFrom_113 : decode cX8_copyFrom 113 = .ok (.aload_n 1, 1) := by decide +kernel
theorem dX8_copyFrom_114 : decode cX8_copyFrom 114 = .ok (.getfield 52, 3) := by decide +kernel
theorem dX8_copyFrom_117 : decode cX8_copyFrom 117 = .ok (.putfield 52, 3) := by decide +kernel
theorem dX8_copyFrom_120 : decode cX8_copyFrom 120 = .ok (.aload_n 0, 1) := by decide +kernel
theorem dX8_copyFrom_121 : decode cX8_copyFrom 121 = .ok (.aload_n 1, 1) := by decide +kernel
theorem dX8_copyFrom_122 : decode cX8_copyFrom 122 = .ok (.getfield 55, 3) := by decide +kernel
theorem dX8_copyFrom_125 : decode cX8_copyFrom 125 = .ok (.putfield 55, 3) := by decide +kernel
theorem dX8_copyFrom_128 : decode cX8_copyFrom 128 = .ok (.aload_n 0, 1) := by decide +kernel
theorem dX8_copyFrom_129 : decode cX8_copyFrom 129 = .ok (.aload_n 1, 1) := by decide +kernel
theorem dX8_copyFrom_130 : decode cX8_copyFrom 130 = .ok (.getfield 58, 3) := by decide +kernel
theorem dX8_copyFrom_133 : decode cX8_copyFrom 133 = .ok (.putfield 58, 3) := by decide +kernel
theorem dX8_copyFrom_136 : decode cX8_copyFrom 136 = .ok (.return_, 1) := by decide +kernel
theorem dX9_add_0 : decode cX9_add 0 = .ok (.aload_n 0, 1) := by decide +kernel
theorem dX9_add_1 : decode cX9_add 1 = .ok (.iconst 0, 1) := by decide +kernel
theorem dX9_add_2 : decode cX9_add 2 = .ok (.putfield 44, 3) := by decide +kernel
theorem dX9_add_5 : decode cX9_add 5 = .ok (.iconst 0, 1) := by decide +kernel
theorem dX9_add_6 : decode cX9_add 6 = .ok (.istore 4, 2) := by decide +kernel
theorem dX9_add_8 : decode cX9_add 8 = .ok (.iload 4, 2) := by decide +kernel
theorem dX9_add_10 : decode cX9_add 10 = .ok (.bipush 30, 2) := by decide +kernel
theorem dX9_add_12 : decode cX9_add 12 = .ok (.if_icmp .ge 37, 3) := by decide +kernel
theorem dX9_add_15 : decode cX9_add 15 = .ok (.aload_n 0, 1) := by decide +kernel
theorem dX9_add_16 : decode cX9_add 16 = .ok (.getfield 41, 3) := by decide +kernel
theorem dX9_add_19 : decode cX9_add 19 = .ok (.ifCond .le 30, 3) := by decide +kernel
theorem dX9_add_22 : decode cX9_add 22 = .ok (.aload_n 0, 1) := by decide +kernel
theorem dX9_add_23 : decode cX9_add 23 = .ok (.getfield 41, 3) := by decide +kernel
theorem dX9_add_26 : decode cX9_add 26 = .ok (.bipush 8, 2) := by decide +kernel
theorem dX9_add_28 : decode cX9_add 28 = .ok (.if_icmp .eq 11, 3) := by decide +kernel
theorem dX9_add_31 : decode cX9_add 31 = .ok (.aload_n 0, 1) := by decide +kernel
theorem dX9_add_32 : decode cX9_add 32 = .ok (.aload_n 1, 1) := by decide +kernel
theorem dX9_add_33 : decode cX9_add 33 = .ok (.invokevirtual 64, 3) := by decide +kernel
theorem dX9_add_36 : decode cX9_add 36 = .ok (.ifCond .ne 13, 3) := by decide +kernel
theorem dX9_add_39 : decode cX9_add 39 = .ok (.aload_n 0, 1) := by decide +kernel
theorem dX9_add_40 : decode cX9_add 40 = .ok (.invokevirtual 68, 3) := by decide +kernel
theorem dX9_add_43 : decode cX9_add 43 = .ok (.iinc 4 1, 3) := by decide +kernel
theorem dX9_add_46 : decode cX9_add 46 = .ok (.goto (-38), 3) := by decide +kernel
theorem dX9_add_49 : decode cX9_add 49 = .ok (.aload_n 0, 1) := by decide +kernel
theorem dX9_add_50 : decode cX9_add 50 = .ok (.getfield 24, 3) := by decide +kernel
theorem dX9_add_53 : decode cX9_add 53 = .ok (.sipush 256, 3) := by decide +kernel
theorem dX9_add_56 : decode cX9_add 56 = .ok (.invokestatic 71, 3) := by decide +kernel
theorem dX9_add_59 : decode cX9_add 59 = .ok (.istore 4, 2) := by decide +kernel
theorem dX9_add_61 : decode cX9_add 61 = .ok (.aload_n 0, 1) := by decide +kernel
theorem dX9_add_62 : decode cX9_add 62 = .ok (.aload_n 1, 1) := by decide +kernel
theorem dX9_add_63 : decode cX9_add 63 = .ok (.getfield 48, 3) := by decide +kernel
theorem dX9_add_66 : decode cX9_add 66 = .ok (.iload 4, 2) := by decide +kernel
theorem dX9_add_68 : decode cX9_add 68 = .ok (.idiv, 1) := by decide +kernel
theorem dX9_add_69 : decode cX9_add 69 = .ok (.iconst 1, 1) := by decide +kernel
theorem dX9_add_70 : decode cX9_add 70 = .ok (.iadd, 1) := by decide +kernel
theorem dX9_add_71 : decode cX9_add 71 = .ok (.iload 4, 2) := by decide +kernel
theorem dX9_add_73 : decode cX9_add 73 = .ok (.imul, 1) := by decide +kernel
theorem dX9_add_74 : decode cX9_add 74 = .ok (.putfield 32, 3) := by decide +kernel
theorem dX9_add_77 : decode cX9_add 77 = .ok (.aload_n 1, 1) := by decide +kernel
theorem dX9_add_78 : decode cX9_add 78 = .ok (.getfield 48, 3) := by decide +kernel
theorem dX9_add_81 : decode cX9_add 81 = .ok (.iload 4, 2) := by decide +kernel
theorem dX9_add_83 : decode cX9_add 83 = .ok (.irem, 1) := by decide +kernel
theorem dX9_add_84 : decode cX9_add 84 = .ok (.ifCond .ne 50, 3) := by decide +kernel
theorem dX9_add_87 : decode cX9_add 87 = .ok (.aload_n 0, 1) := by decide +kernel
theorem dX9_add_88 : decode cX9_add 88 = .ok (.aload_n 1, 1) := by decide +kernel
theorem dX9_add_89 : decode cX9_add 89 = .ok (.invokevirtual 64, 3) := by decide +kernel
theorem dX9_add_92 : decode cX9_add 92 = .ok (.ifCond .eq 42, 3) := by decide +kernel
theorem dX9_add_95 : decode cX9_add 95 = .ok (.aload_n 0, 1) := by decide +kernel
theorem dX9_add_96 : decode cX9_add 96 = .ok (.aload_n 0, 1) := by decide +kernel
theorem dX9_add_97 : decode cX9_add 97 = .ok (.getfield 41, 3) := by decide +kernel
theorem dX9_add_100 : decode cX9_add 100 = .ok (.aload_n 1, 1) := by decide +kernel
theorem dX9_add_101 : decode cX9_add 101 = .ok (.aload_n 2, 1) := by decide +kernel
theorem dX9_add_102 : decode cX9_add 102 = .ok (.aload_n 3, 1) := by decide +kernel
theorem dX9_add_103 : decode cX9_add 103 = .ok (.invokevirtual 77, 3) := by decide +kernel
theorem dX9_add_106 : decode cX9_add 106 = .ok (.aload_n 0, 1) := by decide +kernel
theorem dX9_add_107 : decode cX9_add 107 = .ok (.aload_n 0, 1) := by decide +kernel
theorem dX9_add_108 : decode cX9_add 108 = .ok (.getfield 38, 3) := by decide +kernel
theorem dX9_add_111 : decode cX9_add 111 = .ok (.aload_n 1, 1) := by decide +kernel
theorem dX9_add_112 : decode cX9_add 112 = .ok (.getfield 57, 3) := by decide +kernel
theorem dX9_add_115 : decode cX9_add 115 = .ok (.iadd, 1) := by decide +kernel
theorem dX9_add_116 : decode cX9_add 116 = .ok (.aload_n 1, 1) := by decide +kernel
theorem dX9_add_117 : decode cX9_add 117 = .ok (.getfield 60, 3) := by decide +kernel
theorem dX9_add_120 : decode cX9_add 120 = .ok (.iadd, 1) := by decide +kernel
theorem dX9_add_121 : decode cX9_add 121 = .ok (.putfield 38, 3) := by decide +kernel
theorem dX9_add_124 : decode cX9_add 124 = .ok (.aload_n 0, 1) := by decide +kernel
theorem dX9_add_125 : decode cX9_add 125 = .ok (.dup, 1) := by decide +kernel
theorem dX9_add_126 : decode cX9_add 126 = .ok (.getfield 41, 3) := by decide +kernel
theorem dX9_add_129 : decode cX9_add 129 = .ok (.iconst 1, 1) := by decide +kernel
theorem dX9_add_130 : decode cX9_add 130 = .ok (.iadd, 1) := by decide +kernel
theorem dX9_add_131 : decode cX9_add 131 = .ok (.putfield 41, 3) := by decide +kernel
theorem dX9_add_134 : decode cX9_add 134 = .ok (.return_, 1) := by decide +kernel
theorem dX9_addNear_0 : decode cX9_addNear 0 = .ok (.aload_n 0, 1) := by decide +kernel
theorem dX9_addNear_1 : decode cX9_addNear 1 = .ok (.aload_n 0, 1) := by decide +kernel
theorem dX9_addNear_2 : decode cX9_addNear 2 = .ok (.getfield 38, 3) := by decide +kernel
theorem dX9_addNear_5 : decode cX9_addNear 5 = .ok (.aload_n 1, 1) := by decide +kernel
theorem dX9_addNear_6 : decode cX9_addNear 6 = .ok (.getfield 57, 3) := by decide +kernel
theorem dX9_addNear_9 : decode cX9_addNear 9 = .ok (.iadd, 1) := by decide +kernel
theorem dX9_addNear_10 : decode cX9_addNear 10 = .ok (.aload_n 1, 1) := by decide +kernel
theorem dX9_addNear_11 : decode cX9_addNear 11 = .ok (.getfield 60, 3) := by decide +kernel
theorem dX9_addNear_14 : decode cX9_addNear 14 = .ok (.iadd, 1) := by decide +kernel
theorem dX9_addNear_15 : decode cX9_addNear 15 = .ok (.sipush 20000, 3) := by decide +kernel
theorem dX9_addNear_18 : decode cX9_addNear 18 = .ok (.if_icmp .gt 7, 3) := by decide +kernel
theorem dX9_addNear_21 : decode cX9_addNear 21 = .ok (.iconst 1, 1) := by decide +kernel
theorem dX9_addNear_22 : decode cX9_addNear 22 = .ok (.goto 4, 3) := by decide +kernel
theorem dX9_addNear_25 : decode cX9_addNear 25 = .ok (.iconst 0, 1) := by decide +kernel
theorem dX9_addNear_26 : decode cX9_addNear 26 = .ok (.putfield 44, 3) := by decide +kernel
theorem dX9_addNear_29 : decode cX9_addNear 29 = .ok (.aload_n 0, 1) := by decide +kernel
theorem dX9_addNear_30 : decode cX9_addNear 30 = .ok (.getfield 44, 3) := by decide +kernel
theorem dX9_addNear_33 : decode cX9_addNear 33 = .ok (.ifCond .eq 12, 3) := by decide +kernel
theorem dX9_addNear_36 : decode cX9_addNear 36 = .ok (.aload_n 0, 1) := by decide +kernel
theorem dX9_addNear_37 : decode cX9_addNear 37 = .ok (.bipush 8, 2) := by decide +kernel
theorem dX9_addNear_39 : decode cX9_addNear 39 = .ok (.aload_n 1, 1) := by decide +kernel
theorem dX9_addNear_40 : decode cX9_addNear 40 = .ok (.aload_n 2, 1) := by decide +kernel
theorem dX9_addNear_41 : decode cX9_addNear 41 = .ok (.aload_n 3, 1) := by decide +kernel
theorem dX9_addNear_42 : decode cX9_addNear 42 = .ok (.invokevirtual 77, 3) := by decide +kernel
theorem dX9_addNear_45 : decode cX9_addNear 45 = .ok (.return_, 1) := by decide +kernel
theorem dX9_isRoomFor_0 : decode cX9_isRoomFor 0 = .ok (.aload_n 1, 1) := by decide +kernel
theorem dX9_isRoomFor_1 : decode cX9_isRoomFor 1 = .ok (.getfield 51, 3) := by decide +kernel
theorem dX9_isRoomFor_4 : decode cX9_isRoomFor 4 = .ok (.aload_n 1, 1) := by decide +kernel
theorem dX9_isRoomFor_5 : decode cX9_isRoomFor 5 = .ok (.getfield 54, 3) := by decide +kernel
theorem dX9_isRoomFor_8 : decode cX9_isRoomFor 8 = .ok (.iadd, 1) := by decide +kernel
theorem dX9_isRoomFor_9 : decode cX9_isRoomFor 9 = .ok (.istore_n 2, 1) := by decide +kernel
theorem dX9_isRoomFor_10 : decode cX9_isRoomFor 10 = .ok (.iconst 0, 1) := by decide +kernel
theorem dX9_isRoomFor_11 : decode cX9_isRoomFor 11 = .ok (.istore_n 3, 1) := by decide +kernel
theorem dX9_isRoomFor_12 : decode cX9_isRoomFor 12 = .ok (.iload_n 3, 1) := by decide +kernel
theorem dX9_isRoomFor_13 : decode cX9_isRoomFor 13 = .ok (.aload_n 0, 1) := by decide +kernel
theorem dX9_isRoomFor_14 : decode cX9_isRoomFor 14 = .ok (.getfield 41, 3) := by decide +kernel
theorem dX9_isRoomFor_17 : decode cX9_isRoomFor 17 = .ok (.if_icmp .ge 31, 3) := by decide +kernel
theorem dX9_isRoomFor_20 : decode cX9_isRoomFor 20 = .ok (.iload_n 2, 1) := by decide +kernel
theorem dX9_isRoomFor_21 : decode cX9_isRoomFor 21 = .ok (.aload_n 0, 1) := by decide +kernel
theorem dX9_isRoomFor_22 : decode cX9_isRoomFor 22 = .ok (.getfield 13, 3) := by decide +kernel
theorem dX9_isRoomFor_25 : decode cX9_isRoomFor 25 = .ok (.iload_n 3, 1) := by decide +kernel
theorem dX9_isRoomFor_26 : decode cX9_isRoomFor 26 = .ok (.aaload, 1) := by decide +kernel
theorem dX9_isRoomFor_27 : decode cX9_isRoomFor 27 = .ok (.getfield 51, 3) := by decide +kernel
theorem dX9_isRoomFor_30 : decode cX9_isRoomFor 30 = .ok (.iadd, 1) := by decide +kernel
theorem dX9_isRoomFor_31 : decode cX9_isRoomFor 31 = .ok (.aload_n 0, 1) := by decide +kernel
theorem dX9_isRoomFor_32 : decode cX9_isRoomFor 32 = .ok (.getfield 13, 3) := by decide +kernel
theorem dX9_isRoomFor_35 : decode cX9_isRoomFor 35 = .ok (.iload_n 3, 1) := by decide +kernel
theorem dX9_isRoomFor_36 : decode cX9_isRoomFor 36 = .ok (.aaload, 1) := by decide +kernel
theorem dX9_isRoomFor_37 : decode cX9_isRoomFor 37 = .ok (.getfield 54, 3) := by decide +kernel
theorem dX9_isRoomFor_40 : decode cX9_isRoomFor 40 = .ok (.iadd, 1) := by decide +kernel
theorem dX9_isRoomFor_41 : decode cX9_isRoomFor 41 = .ok (.istore_n 2, 1) := by decide +kernel
theorem dX9_isRoomFor_42 : decode cX9_isRoomFor 42 = .ok (.iinc 3 1, 3) := by decide +kernel
theorem dX9_isRoomFor_45 : decode cX9_isRoomFor 45 = .ok (.goto (-33), 3) := by decide +kernel
theorem dX9_isRoomFor_48 : decode cX9_isRoomFor 48 = .ok (.aload_n 0, 1) := by decide +kernel
theorem dX9_isRoomFor_49 : decode cX9_isRoomFor 49 = .ok (.getfield 38, 3) := by decide +kernel
theorem dX9_isRoomFor_52 : decode cX9_isRoomFor 52 = .ok (.aload_n 1, 1) := by decide +kernel
theorem dX9_isRoomFor_53 : decode cX9_isRoomFor 53 = .ok (.getfield 57, 3) := by decide +kernel
theorem dX9_isRoomFor_56 : decode cX9_isRoomFor 56 = .ok (.iadd, 1) := by decide +kernel
theorem dX9_isRoomFor_57 : decode cX9_isRoomFor 57 = .ok (.aload_n 1, 1) := by decide +kernel
theorem dX9_isRoomFor_58 : decode cX9_isRoomFor 58 = .ok (.getfield 60, 3) := by decide +kernel
theorem dX9_isRoomFor_61 : decode cX9_isRoomFor 61 = .ok (.iadd, 1) := by decide +kernel
theorem dX9_isRoomFor_62 : decode cX9_isRoomFor 62 = .ok (.sipush 20000, 3) := by decide +kernel
theorem dX9_isRoomFor_65 : decode cX9_isRoomFor 65 = .ok (.if_icmp .gt 13, 3) := by decide +kernel
theorem dX9_isRoomFor_68 : decode cX9_isRoomFor 68 = .ok (.iload_n 2, 1) := by decide +kernel
theorem dX9_isRoomFor_69 : decode cX9_isRoomFor 69 = .ok (.ldc 63, 2) := by decide +kernel
theorem dX9_isRoomFor_71 : decode cX9_isRoomFor 71 = .ok (.if_icmp .gt 7, 3) := by decide +kernel
theorem dX9_isRoomFor_74 : decode cX9_isRoomFor 74 = .ok (.iconst 1, 1) := by decide +kernel
theorem dX9_isRoomFor_75 : decode cX9_isRoomFor 75 = .ok (.goto 4, 3) := by decide +kernel
theorem dX9_isRoomFor_78 : decode cX9_isRoomFor 78 = .ok (.iconst 0, 1) := by decide +kernel
theorem dX9_isRoomFor_79 : decode cX9_isRoomFor 79 = .ok (.ireturn, 1) := by decide +kernel
theorem dX9_store_0 : decode cX9_store 0 = .ok (.aload_n 0, 1) := by decide +kernel
theorem dX9_store_1 : decode cX9_store 1 = .ok (.aload_n 0, 1) := by decide +kernel
theorem dX9_store_2 : decode cX9_store 2 = .ok (.getfield 17, 3) := by decide +kernel
theorem dX9_store_5 : decode cX9_store 5 = .ok (.aload_n 0, 1) := by decide +kernel
theorem dX9_store_6 : decode cX9_store 6 = .ok (.getfield 38, 3) := by decide +kernel
theorem dX9_store_9 : decode cX9_store 9 = .ok (.aload_n 2, 1) := by decide +kernel
theorem dX9_store_10 : decode cX9_store 10 = .ok (.getfield 57, 3) := by decide +kernel
theorem dX9_store_13 : decode cX9_store 13 = .ok (.iadd, 1) := by decide +kernel
theorem dX9_store_14 : decode cX9_store 14 = .ok (.aload_n 2, 1) := by decide +kernel
theorem dX9_store_15 : decode cX9_store 15 = .ok (.getfield 60, 3) := by decide +kernel
theorem dX9_store_18 : decode cX9_store 18 = .ok (.iadd, 1) := by decide +kernel
theorem dX9_store_19 : decode cX9_store 19 = .ok (.sipush 20000, 3) := by decide +kernel
theorem dX9_store_22 : decode cX9_store 22 = .ok (.invokestatic 81, 3) := by decide +kernel
theorem dX9_store_25 : decode cX9_store 25 = .ok (.putfield 17, 3) := by decide +kernel
theorem dX9_store_28 : decode cX9_store 28 = .ok (.aload_n 0, 1) := by decide +kernel
theorem dX9_store_29 : decode cX9_store 29 = .ok (.getfield 21, 3) := by decide +kernel
theorem dX9_store_32 : decode cX9_store 32 = .ok (.iload_n 1, 1) := by decide +kernel
theorem dX9_store_33 : decode cX9_store 33 = .ok (.aload_n 0, 1) := by decide +kernel
theorem dX9_store_34 : decode cX9_store 34 = .ok (.getfield 38, 3) := by decide +kernel
theorem dX9_store_37 : decode cX9_store 37 = .ok (.iastore, 1) := by decide +kernel
theorem dX9_store_38 : decode cX9_store 38 = .ok (.aload_n 0, 1) := by decide +kernel
theorem dX9_store_39 : decode cX9_store 39 = .ok (.getfield 13, 3) := by decide +kernel
theorem dX9_store_42 : decode cX9_store 42 = .ok (.iload_n 1, 1) := by decide +kernel
theorem dX9_store_43 : decode cX9_store 43 = .ok (.aaload, 1) := by decide +kernel
theorem dX9_store_44 : decode cX9_store 44 = .ok (.aload_n 2, 1) := by decide +kernel
theorem dX9_store_45 : decode cX9_store 45 = .ok (.invokevirtual 85, 3) := by decide +kernel
theorem dX9_store_48 : decode cX9_store 48 = .ok (.aload_n 3, 1) := by decide +kernel
theorem dX9_store_49 : decode cX9_store 49 = .ok (.iconst 0, 1) := by decide +kernel
theorem dX9_store_50 : decode cX9_store 50 = .ok (.aload_n 0, 1) := by decide +kernel
theorem dX9_store_51 : decode cX9_store 51 = .ok (.getfield 17, 3) := by decide +kernel
theorem dX9_store_54 : decode cX9_store 54 = .ok (.aload_n 0, 1) := by decide +kernel
theorem dX9_store_55 : decode cX9_store 55 = .ok (.getfield 38, 3) := by decide +kernel
theorem dX9_store_58 : decode cX9_store 58 = .ok (.aload_n 2, 1) := by decide +kernel
theorem dX9_store_59 : decode cX9_store 59 = .ok (.getfield 57, 3) := by decide +kernel
theorem dX9_store_62 : decode cX9_store 62 = .ok (.invokestatic 89, 3) := by decide +kernel
theorem dX9_store_65 : decode cX9_store 65 = .ok (.aload 4, 2) := by decide +kernel
theorem dX9_store_67 : decode cX9_store 67 = .ok (.iconst 0, 1) := by decide +kernel
theorem dX9_store_68 : decode cX9_store 68 = .ok (.aload_n 0, 1) := by decide +kernel
theorem dX9_store_69 : decode cX9_store 69 = .ok (.getfield 17, 3) := by decide +kernel
theorem dX9_store_72 : decode cX9_store 72 = .ok (.aload_n 0, 1) := by decide +kernel
theorem dX9_store_73 : decode cX9_store 73 = .ok (.getfield 38, 3) := by decide +kernel
theorem dX9_store_76 : decode cX9_store 76 = .ok (.aload_n 2, 1) := by decide +kernel
theorem dX9_store_77 : decode cX9_store 77 = .ok (.getfield 57, 3) := by decide +kernel
theorem dX9_store_80 : decode cX9_store 80 = .ok (.iadd, 1) := by decide +kernel
theorem dX9_store_81 : decode cX9_store 81 = .ok (.aload_n 2, 1) := by decide +kernel
theorem dX9_store_82 : decode cX9_store 82 = .ok (.getfield 60, 3) := by decide +kernel
theorem dX9_store_85 : decode cX9_store 85 = .ok (.invokestatic 89, 3) := by decide +kernel
theorem dX9_store_88 : decode cX9_store 88 = .ok (.return_, 1) := by decide +kernel
theorem dX9_thinOut_0 : decode cX9_thinOut 0 = .ok (.aload_n 0, 1) := by decide +kernel
theorem dX9_thinOut_1 : decode cX9_thinOut 1 = .ok (.getfield 41, 3) := by decide +kernel
theorem dX9_thinOut_4 : decode cX9_thinOut 4 = .ok (.istore_n 1, 1) := by decide +kernel
theorem dX9_thinOut_5 : decode cX9_thinOut 5 = .ok (.aload_n 0, 1) := by decide +kernel
theorem dX9_thinOut_6 : decode cX9_thinOut 6 = .ok (.iconst 2, 1) := by decide +kernel
theorem dX9_thinOut_7 : decode cX9_thinOut 7 = .ok (.aload_n 0, 1) := by decide +kernel
theorem dX9_thinOut_8 : decode cX9_thinOut 8 = .ok (.getfield 24, 3) := by decide +kernel
theorem dX9_thinOut_11 : decode cX9_thinOut 11 = .ok (.sipush 256, 3) := by decide +kernel
theorem dX9_thinOut_14 : decode cX9_thinOut 14 = .ok (.invokestatic 71, 3) := by decide +kernel
theorem dX9_thinOut_17 : decode cX9_thinOut 17 = .ok (.imul, 1) := by decide +kernel
theorem dX9_thinOut_18 : decode cX9_thinOut 18 = .ok (.putfield 24, 3) := by decide +kernel
theorem dX9_thinOut_21 : decode cX9_thinOut 21 = .ok (.aload_n 0, 1) := by decide +kernel
theorem dX9_thinOut_22 : decode cX9_thinOut 22 = .ok (.iconst 0, 1) := by decide +kernel
theorem dX9_thinOut_23 : decode cX9_thinOut 23 = .ok (.putfield 38, 3) := by decide +kernel
theorem dX9_thinOut_26 : decode cX9_thinOut 26 = .ok (.aload_n 0, 1) := by decide +kernel
theorem dX9_thinOut_27 : decode cX9_thinOut 27 = .ok (.iconst 0, 1) := by decide +kernel
theorem dX9_thinOut_28 : decode cX9_thinOut 28 = .ok (.putfield 41, 3) := by decide +kernel
theorem dX9_thinOut_31 : decode cX9_thinOut 31 = .ok (.iconst 0, 1) := by decide +kernel
theorem dX9_thinOut_32 : decode cX9_thinOut 32 = .ok (.istore_n 2, 1) := by decide +kernel
theorem dX9_thinOut_33 : decode cX9_thinOut 33 = .ok (.iload_n 2, 1) := by decide +kernel
theorem dX9_thinOut_34 : decode cX9_thinOut 34 = .ok (.iload_n 1, 1) := by decide +kernel
theorem dX9_thinOut_35 : decode cX9_thinOut 35 = .ok (.if_icmp .ge 130, 3) := by decide +kernel
theorem dX9_thinOut_38 : decode cX9_thinOut 38 = .ok (.aload_n 0, 1) := by decide +kernel
theorem dX9_thinOut_39 : decode cX9_thinOut 39 = .ok (.getfield 13, 3) := by decide +kernel
theorem dX9_thinOut_42 : decode cX9_thinOut 42 = .ok (.iload_n 2, 1) := by decide +kernel
theorem dX9_thinOut_43 : decode cX9_thinOut 43 = .ok (.aaload, 1) := by decide +kernel
theorem dX9_thinOut_44 : decode cX9_thinOut 44 = .ok (.astore_n 3, 1) := by decide +kernel
theorem dX9_thinOut_45 : decode cX9_thinOut 45 = .ok (.aload_n 3, 1) := by decide +kernel
theorem dX9_thinOut_46 : decode cX9_thinOut 46 = .ok (.getfield 48, 3) := by decide +kernel
theorem dX9_thinOut_49 : decode cX9_thinOut 49 = .ok (.aload_n 0, 1) := by decide +kernel
theorem dX9_thinOut_50 : decode cX9_thinOut 50 = .ok (.getfield 24, 3) := by decide +kernel
theorem dX9_thinOut_53 : decode cX9_thinOut 53 = .ok (.sipush 256, 3) := by decide +kernel
theorem dX9_thinOut_56 : decode cX9_thinOut 56 = .ok (.invokestatic 71, 3) := by decide +kernel
theorem dX9_thinOut_59 : decode cX9_thinOut 59 = .ok (.irem, 1) := by decide +kernel
theorem dX9_thinOut_60 : decode cX9_thinOut 60 = .ok (.ifCond .ne 99, 3) := by decide +kernel
theorem dX9_thinOut_63 : decode cX9_thinOut 63 = .ok (.aload_n 0, 1) := by decide +kernel
theorem dX9_thinOut_64 : decode cX9_thinOut 64 = .ok (.getfield 17, 3) := by decide +kernel
theorem dX9_thinOut_67 : decode cX9_thinOut 67 = .ok (.aload_n 0, 1) := by decide +kernel
theorem dX9_thinOut_68 : decode cX9_thinOut 68 = .ok (.getfield 21, 3) := by decide +kernel
theorem dX9_thinOut_71 : decode cX9_thinOut 71 = .ok (.iload_n 2, 1) := by decide +kernel
theorem dX9_thinOut_72 : decode cX9_thinOut 72 = .ok (.iaload, 1) := by decide +kernel
theorem dX9_thinOut_73 : decode cX9_thinOut 73 = .ok (.aload_n 0, 1) := by decide +kernel
theorem dX9_thinOut_74 : decode cX9_thinOut 74 = .ok (.getfield 17, 3) := by decide +kernel
theorem dX9_thinOut_77 : decode cX9_thinOut 77 = .ok (.aload_n 0, 1) := by decide +kernel
theorem dX9_thinOut_78 : decode cX9_thinOut 78 = .ok (.getfield 38, 3) := by decide +kernel
theorem dX9_thinOut_81 : decode cX9_thinOut 81 = .ok (.aload_n 3, 1) := by decide +kernel
theorem dX9_thinOut_82 : decode cX9_thinOut 82 = .ok (.getfield 57, 3) := by decide +kernel
theorem dX9_thinOut_85 : decode cX9_thinOut 85 = .ok (.aload_n 3, 1) := by decide +kernel
theorem dX9_thinOut_86 : decode cX9_thinOut 86 = .ok (.getfield 60, 3) := by decide +kernel
theorem dX9_thinOut_89 : decode cX9_thinOut 89 = .ok (.iadd, 1) := by decide +kernel
theorem dX9_thinOut_90 : decode cX9_thinOut 90 = .ok (.invokestatic 89, 3) := by decide +kernel
theorem dX9_thinOut_93 : decode cX9_thinOut 93 = .ok (.aload_n 0, 1) := by decide +kernel
theorem dX9_thinOut_94 : decode cX9_thinOut 94 = .ok (.getfield 13, 3) := by decide +kernel
theorem dX9_thinOut_97 : decode cX9_thinOut 97 = .ok (.iload_n 2, 1) := by decide +kernel
theorem dX9_thinOut_98 : decode cX9_thinOut 98 = .ok (.aload_n 0, 1) := by decide +kernel
theorem dX9_thinOut_99 : decode cX9_thinOut 99 = .ok (.getfield 13, 3) := by decide +kernel
theorem dX9_thinOut_102 : decode cX9_thinOut 102 = .ok (.aload_n 0, 1) := by decide +kernel
theorem dX9_thinOut_103 : decode cX9_thinOut 103 = .ok (.getfield 41, 3) := by decide +kernel
theorem dX9_thinOut_106 : decode cX9_thinOut 106 = .ok (.aaload, 1) := by decide +kernel
theorem dX9_thinOut_107 : decode cX9_thinOut 107 = .ok (.aastore, 1) := by decide +kernel
theorem dX9_thinOut_108 : decode cX9_thinOut 108 = .ok (.aload_n 0, 1) := by decide +kernel
theorem dX9_thinOut_109 : decode cX9_thinOut 109 = .ok (.getfield 13, 3) := by decide +kernel
theorem dX9_thinOut_112 : decode cX9_thinOut 112 = .ok (.aload_n 0, 1) := by decide +kernel
theorem dX9_thinOut_113 : decode cX9_thinOut 113 = .ok (.getfield 41, 3) := by decide +kernel
theorem dX9_thinOut_116 : decode cX9_thinOut 116 = .ok (.aload_n 3, 1) := by decide +kernel
theorem dX9_thinOut_117 : decode cX9_thinOut 117 = .ok (.aastore, 1) := by decide +kernel
theorem dX9_thinOut_118 : decode cX9_thinOut 118 = .ok (.aload_n 0, 1) := by decide +kernel
theorem dX9_thinOut_119 : decode cX9_thinOut 119 = .ok (.getfield 21, 3) := by decide +kernel
theorem dX9_thinOut_122 : decode cX9_thinOut 122 = .ok (.aload_n 0, 1) := by decide +kernel
theorem dX9_thinOut_123 : decode cX9_thinOut 123 = .ok (.getfield 41, 3) := by decide +kernel
theorem dX9_thinOut_126 : decode cX9_thinOut 126 = .ok (.aload_n 0, 1) := by decide +kernel
theorem dX9_thinOut_127 : decode cX9_thinOut 127 = .ok (.getfield 38, 3) := by decide +kernel
theorem dX9_thinOut_130 : decode cX9_thinOut 130 = .ok (.iastore, 1) := by decide +kernel
theorem dX9_thinOut_131 : decode cX9_thinOut 131 = .ok (.aload_n 0, 1) := by decide +kernel
theorem dX9_thinOut_132 : decode cX9_thinOut 132 = .ok (.aload_n 0, 1) := by decide +kernel
theorem dX9_thinOut_133 : decode cX9_thinOut 133 = .ok (.getfield 38, 3) := by decide +kernel
theorem dX9_thinOut_136 : decode cX9_thinOut 136 = .ok (.aload_n 3, 1) := by decide +kernel
theorem dX9_thinOut_137 : decode cX9_thinOut 137 = .ok (.getfield 57, 3) := by decide +kernel
theorem dX9_thinOut_140 : decode cX9_thinOut 140 = .ok (.iadd, 1) := by decide +kernel
theorem dX9_thinOut_141 : decode cX9_thinOut 141 = .ok (.aload_n 3, 1) := by decide +kernel
theorem dX9_thinOut_142 : decode cX9_thinOut 142 = .ok (.getfield 60, 3) := by decide +kernel
theorem dX9_thinOut_145 : decode cX9_thinOut 145 = .ok (.iadd, 1) := by decide +kernel
theorem dX9_thinOut_146 : decode cX9_thinOut 146 = .ok (.putfield 38, 3) := by decide +kernel
theorem dX9_thinOut_149 : decode cX9_thinOut 149 = .ok (.aload_n 0, 1) := by decide +kernel
theorem dX9_thinOut_150 : decode cX9_thinOut 150 = .ok (.dup, 1) := by decide +kernel
theorem dX9_thinOut_151 : decode cX9_thinOut 151 = .ok (.getfield 41, 3) := by decide +kernel
theorem dX9_thinOut_154 : decode cX9_thinOut 154 = .ok (.iconst 1, 1) := by decide +kernel
theorem dX9_thinOut_155 : decode cX9_thinOut 155 = .ok (.iadd, 1) := by decide +kernel
theorem dX9_thinOut_156 : decode cX9_thinOut 156 = .ok (.putfield 41, 3) := by decide +kernel
theorem dX9_thinOut_159 : decode cX9_thinOut 159 = .ok (.iinc 2 1, 3) := by decide +kernel
theorem dX9_thinOut_162 : decode cX9_thinOut 162 = .ok (.goto (-129), 3) := by decide +kernel
theorem dX9_thinOut_165 : decode cX9_thinOut 165 = .ok (.return_, 1) := by decide +kernel
