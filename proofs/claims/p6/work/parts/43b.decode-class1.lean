/-! decode rows -/
theorem dJ6_bitCount_0f7a4_0 : decode cJ6_bitCount_0f7a4 0 = .ok (.iload_n 0, 1) := by decide +kernel
theorem dJ6_bitCount_0f7a4_1 : decode cJ6_bitCount_0f7a4 1 = .ok (.iload_n 0, 1) := by decide +kernel
theorem dJ6_bitCount_0f7a4_2 : decode cJ6_bitCount_0f7a4 2 = .ok (.iconst 1, 1) := by decide +kernel
theorem dJ6_bitCount_0f7a4_3 : decode cJ6_bitCount_0f7a4 3 = .ok (.iushr, 1) := by decide +kernel
theorem dJ6_bitCount_0f7a4_4 : decode cJ6_bitCount_0f7a4 4 = .ok (.ldc_w 265, 3) := by decide +kernel
theorem dJ6_bitCount_0f7a4_7 : decode cJ6_bitCount_0f7a4 7 = .ok (.iand, 1) := by decide +kernel
theorem dJ6_bitCount_0f7a4_8 : decode cJ6_bitCount_0f7a4 8 = .ok (.isub, 1) := by decide +kernel
theorem dJ6_bitCount_0f7a4_9 : decode cJ6_bitCount_0f7a4 9 = .ok (.istore_n 0, 1) := by decide +kernel
theorem dJ6_bitCount_0f7a4_10 : decode cJ6_bitCount_0f7a4 10 = .ok (.iload_n 0, 1) := by decide +kernel
theorem dJ6_bitCount_0f7a4_11 : decode cJ6_bitCount_0f7a4 11 = .ok (.ldc_w 266, 3) := by decide +kernel
theorem dJ6_bitCount_0f7a4_14 : decode cJ6_bitCount_0f7a4 14 = .ok (.iand, 1) := by decide +kernel
theorem dJ6_bitCount_0f7a4_15 : decode cJ6_bitCount_0f7a4 15 = .ok (.iload_n 0, 1) := by decide +kernel
theorem dJ6_bitCount_0f7a4_16 : decode cJ6_bitCount_0f7a4 16 = .ok (.iconst 2, 1) := by decide +kernel
theorem dJ6_bitCount_0f7a4_17 : decode cJ6_bitCount_0f7a4 17 = .ok (.iushr, 1) := by decide +kernel
theorem dJ6_bitCount_0f7a4_18 : decode cJ6_bitCount_0f7a4 18 = .ok (.ldc_w 266, 3) := by decide +kernel
theorem dJ6_bitCount_0f7a4_21 : decode cJ6_bitCount_0f7a4 21 = .ok (.iand, 1) := by decide +kernel
theorem dJ6_bitCount_0f7a4_22 : decode cJ6_bitCount_0f7a4 22 = .ok (.iadd, 1) := by decide +kernel
theorem dJ6_bitCount_0f7a4_23 : decode cJ6_bitCount_0f7a4 23 = .ok (.istore_n 0, 1) := by decide +kernel
theorem dJ6_bitCount_0f7a4_24 : decode cJ6_bitCount_0f7a4 24 = .ok (.iload_n 0, 1) := by decide +kernel
theorem dJ6_bitCount_0f7a4_25 : decode cJ6_bitCount_0f7a4 25 = .ok (.iload_n 0, 1) := by decide +kernel
theorem dJ6_bitCount_0f7a4_26 : decode cJ6_bitCount_0f7a4 26 = .ok (.iconst 4, 1) := by decide +kernel
theorem dJ6_bitCount_0f7a4_27 : decode cJ6_bitCount_0f7a4 27 = .ok (.iushr, 1) := by decide +kernel
theorem dJ6_bitCount_0f7a4_28 : decode cJ6_bitCount_0f7a4 28 = .ok (.iadd, 1) := by decide +kernel
theorem dJ6_bitCount_0f7a4_29 : decode cJ6_bitCount_0f7a4 29 = .ok (.ldc_w 267, 3) := by decide +kernel
theorem dJ6_bitCount_0f7a4_32 : decode cJ6_bitCount_0f7a4 32 = .ok (.iand, 1) := by decide +kernel
theorem dJ6_bitCount_0f7a4_33 : decode cJ6_bitCount_0f7a4 33 = .ok (.istore_n 0, 1) := by decide +kernel
theorem dJ6_bitCount_0f7a4_34 : decode cJ6_bitCount_0f7a4 34 = .ok (.iload_n 0, 1) := by decide +kernel
theorem dJ6_bitCount_0f7a4_35 : decode cJ6_bitCount_0f7a4 35 = .ok (.iload_n 0, 1) := by decide +kernel
theorem dJ6_bitCount_0f7a4_36 : decode cJ6_bitCount_0f7a4 36 = .ok (.bipush 8, 2) := by decide +kernel
theorem dJ6_bitCount_0f7a4_38 : decode cJ6_bitCount_0f7a4 38 = .ok (.iushr, 1) := by decide +kernel
theorem dJ6_bitCount_0f7a4_39 : decode cJ6_bitCount_0f7a4 39 = .ok (.iadd, 1) := by decide +kernel
theorem dJ6_bitCount_0f7a4_40 : decode cJ6_bitCount_0f7a4 40 = .ok (.istore_n 0, 1) := by decide +kernel
theorem dJ6_bitCount_0f7a4_41 : decode cJ6_bitCount_0f7a4 41 = .ok (.iload_n 0, 1) := by decide +kernel
theorem dJ6_bitCount_0f7a4_42 : decode cJ6_bitCount_0f7a4 42 = .ok (.iload_n 0, 1) := by decide +kernel
theorem dJ6_bitCount_0f7a4_43 : decode cJ6_bitCount_0f7a4 43 = .ok (.bipush 16, 2) := by decide +kernel
theorem dJ6_bitCount_0f7a4_45 : decode cJ6_bitCount_0f7a4 45 = .ok (.iushr, 1) := by decide +kernel
theorem dJ6_bitCount_0f7a4_46 : decode cJ6_bitCount_0f7a4 46 = .ok (.iadd, 1) := by decide +kernel
theorem dJ6_bitCount_0f7a4_47 : decode cJ6_bitCount_0f7a4 47 = .ok (.istore_n 0, 1) := by decide +kernel
theorem dJ6_bitCount_0f7a4_48 : decode cJ6_bitCount_0f7a4 48 = .ok (.iload_n 0, 1) := by decide +kernel
theorem dJ6_bitCount_0f7a4_49 : decode cJ6_bitCount_0f7a4 49 = .ok (.bipush 63, 2) := by decide +kernel
theorem dJ6_bitCount_0f7a4_51 : decode cJ6_bitCount_0f7a4 51 = .ok (.iand, 1) := by decide +kernel
theorem dJ6_bitCount_0f7a4_52 : decode cJ6_bitCount_0f7a4 52 = .ok (.ireturn, 1) := by decide +kernel
theorem dJ6_compare_7cf53_0 : decode cJ6_compare_7cf53 0 = .ok (.iload_n 0, 1) := by decide +kernel
theorem dJ6_compare_7cf53_1 : decode cJ6_compare_7cf53 1 = .ok (.iload_n 1, 1) := by decide +kernel
theorem dJ6_compare_7cf53_2 : decode cJ6_compare_7cf53 2 = .ok (.if_icmp .ge 7, 3) := by decide +kernel
theorem dJ6_compare_7cf53_5 : decode cJ6_compare_7cf53 5 = .ok (.iconst (-1), 1) := by decide +kernel
theorem dJ6_compare_7cf53_6 : decode cJ6_compare_7cf53 6 = .ok (.goto 13, 3) := by decide +kernel
theorem dJ6_compare_7cf53_9 : decode cJ6_compare_7cf53 9 = .ok (.iload_n 0, 1) := by decide +kernel
theorem dJ6_compare_7cf53_10 : decode cJ6_compare_7cf53 10 = .ok (.iload_n 1, 1) := by decide +kernel
theorem dJ6_compare_7cf53_11 : decode cJ6_compare_7cf53 11 = .ok (.if_icmp .ne 7, 3) := by decide +kernel
theorem dJ6_compare_7cf53_14 : decode cJ6_compare_7cf53 14 = .ok (.iconst 0, 1) := by decide +kernel
theorem dJ6_compare_7cf53_15 : decode cJ6_compare_7cf53 15 = .ok (.goto 4, 3) := by decide +kernel
theorem dJ6_compare_7cf53_18 : decode cJ6_compare_7cf53 18 = .ok (.iconst 1, 1) := by decide +kernel
theorem dJ6_compare_7cf53_19 : decode cJ6_compare_7cf53 19 = .ok (.ireturn, 1) := by decide +kernel
theorem dJ7_fill_53178_0 : decode cJ7_fill_53178 0 = .ok (.iconst 0, 1) := by decide +kernel
theorem dJ7_fill_53178_1 : decode cJ7_fill_53178 1 = .ok (.istore_n 2, 1) := by decide +kernel
theorem dJ7_fill_53178_2 : decode cJ7_fill_53178 2 = .ok (.aload_n 0, 1) := by decide +kernel
theorem dJ7_fill_53178_3 : decode cJ7_fill_53178 3 = .ok (.arraylength, 1) := by decide +kernel
theorem dJ7_fill_53178_4 : decode cJ7_fill_53178 4 = .ok (.istore_n 3, 1) := by decide +kernel
theorem dJ7_fill_53178_5 : decode cJ7_fill_53178 5 = .ok (.iload_n 2, 1) := by decide +kernel
theorem dJ7_fill_53178_6 : decode cJ7_fill_53178 6 = .ok (.iload_n 3, 1) := by decide +kernel
theorem dJ7_fill_53178_7 : decode cJ7_fill_53178 7 = .ok (.if_icmp .ge 13, 3) := by decide +kernel
theorem dJ7_fill_53178_10 : decode cJ7_fill_53178 10 = .ok (.aload_n 0, 1) := by decide +kernel
theorem dJ7_fill_53178_11 : decode cJ7_fill_53178 11 = .ok (.iload_n 2, 1) := by decide +kernel
theorem dJ7_fill_53178_12 : decode cJ7_fill_53178 12 = .ok (.iload_n 1, 1) := by decide +kernel
theorem dJ7_fill_53178_13 : decode cJ7_fill_53178 13 = .ok (.iastore, 1) := by decide +kernel
theorem dJ7_fill_53178_14 : decode cJ7_fill_53178 14 = .ok (.iinc 2 1, 3) := by decide +kernel
theorem dJ7_fill_53178_17 : decode cJ7_fill_53178 17 = .ok (.goto (-12), 3) := by decide +kernel
theorem dJ7_fill_53178_20 : decode cJ7_fill_53178 20 = .ok (.return_, 1) := by decide +kernel
theorem dX0_areSets_0 : decode cX0_areSets 0 = .ok (.aload_n 0, 1) := by decide +kernel
theorem dX0_areSets_1 : decode cX0_areSets 1 = .ok (.getfield 22, 3) := by decide +kernel
theorem dX0_areSets_4 : decode cX0_areSets 4 = .ok (.iload_n 1, 1) := by decide +kernel
theorem dX0_areSets_5 : decode cX0_areSets 5 = .ok (.invokevirtual 87, 3) := by decide +kernel
theorem dX0_areSets_8 : decode cX0_areSets 8 = .ok (.bipush 6, 2) := by decide +kernel
theorem dX0_areSets_10 : decode cX0_areSets 10 = .ok (.if_icmp .ne 20, 3) := by decide +kernel
theorem dX0_areSets_13 : decode cX0_areSets 13 = .ok (.aload_n 0, 1) := by decide +kernel
theorem dX0_areSets_14 : decode cX0_areSets 14 = .ok (.getfield 22, 3) := by decide +kernel
theorem dX0_areSets_17 : decode cX0_areSets 17 = .ok (.iload_n 2, 1) := by decide +kernel
theorem dX0_areSets_18 : decode cX0_areSets 18 = .ok (.invokevirtual 87, 3) := by decide +kernel
theorem dX0_areSets_21 : decode cX0_areSets 21 = .ok (.bipush 6, 2) := by decide +kernel
theorem dX0_areSets_23 : decode cX0_areSets 23 = .ok (.if_icmp .ne 7, 3) := by decide +kernel
theorem dX0_areSets_26 : decode cX0_areSets 26 = .ok (.iconst 1, 1) := by decide +kernel
theorem dX0_areSets_27 : decode cX0_areSets 27 = .ok (.goto 4, 3) := by decide +kernel
theorem dX0_areSets_30 : decode cX0_areSets 30 = .ok (.iconst 0, 1) := by decide +kernel
theorem dX0_areSets_31 : decode cX0_areSets 31 = .ok (.ireturn, 1) := by decide +kernel
theorem dX0_areWholes_0 : decode cX0_areWholes 0 = .ok (.aload_n 0, 1) := by decide +kernel
theorem dX0_areWholes_1 : decode cX0_areWholes 1 = .ok (.getfield 22, 3) := by decide +kernel
theorem dX0_areWholes_4 : decode cX0_areWholes 4 = .ok (.iload_n 1, 1) := by decide +kernel
theorem dX0_areWholes_5 : decode cX0_areWholes 5 = .ok (.invokevirtual 87, 3) := by decide +kernel
theorem dX0_areWholes_8 : decode cX0_areWholes 8 = .ok (.iconst 2, 1) := by decide +kernel
theorem dX0_areWholes_9 : decode cX0_areWholes 9 = .ok (.if_icmp .ne 19, 3) := by decide +kernel
theorem dX0_areWholes_12 : decode cX0_areWholes 12 = .ok (.aload_n 0, 1) := by decide +kernel
theorem dX0_areWholes_13 : decode cX0_areWholes 13 = .ok (.getfield 22, 3) := by decide +kernel
theorem dX0_areWholes_16 : decode cX0_areWholes 16 = .ok (.iload_n 2, 1) := by decide +kernel
theorem dX0_areWholes_17 : decode cX0_areWholes 17 = .ok (.invokevirtual 87, 3) := by decide +kernel
theorem dX0_areWholes_20 : decode cX0_areWholes 20 = .ok (.iconst 2, 1) := by decide +kernel
theorem dX0_areWholes_21 : decode cX0_areWholes 21 = .ok (.if_icmp .ne 7, 3) := by decide +kernel
theorem dX0_areWholes_24 : decode cX0_areWholes 24 = .ok (.iconst 1, 1) := by decide +kernel
theorem dX0_areWholes_25 : decode cX0_areWholes 25 = .ok (.goto 4, 3) := by decide +kernel
theorem dX0_areWholes_28 : decode cX0_areWholes 28 = .ok (.iconst 0, 1) := by decide +kernel
theorem dX0_areWholes_29 : decode cX0_areWholes 29 = .ok (.ireturn, 1) := by decide +kernel
theorem dX0_binary_0 : decode cX0_binary 0 = .ok (.iload_n 1, 1) := by decide +kernel
theorem dX0_binary_1 : decode cX0_binary 1 = .ok (.tableswitch 258 128 142 #[75, 82, 89, 96, 96, 132, 156, 169, 258, 258, 258, 258, 190, 197, 234], 75) := by decide +kernel
theorem dX0_binary_76 : decode cX0_binary 76 = .ok (.aload_n 0, 1) := by decide +kernel
theorem dX0_binary_77 : decode cX0_binary 77 = .ok (.iload_n 2, 1) := by decide +kernel
theorem dX0_binary_78 : decode cX0_binary 78 = .ok (.iload_n 3, 1) := by decide +kernel
theorem dX0_binary_79 : decode cX0_binary 79 = .ok (.invokevirtual 34, 3) := by decide +kernel
theorem dX0_binary_82 : decode cX0_binary 82 = .ok (.ireturn, 1) := by decide +kernel
theorem dX0_binary_83 : decode cX0_binary 83 = .ok (.aload_n 0, 1) := by decide +kernel
theorem dX0_binary_84 : decode cX0_binary 84 = .ok (.iload_n 2, 1) := by decide +kernel
theorem dX0_binary_85 : decode cX0_binary 85 = .ok (.iload_n 3, 1) := by decide +kernel
theorem dX0_binary_86 : decode cX0_binary 86 = .ok (.invokevirtual 38, 3) := by decide +kernel
theorem dX0_binary_89 : decode cX0_binary 89 = .ok (.ireturn, 1) := by decide +kernel
theorem dX0_binary_90 : decode cX0_binary 90 = .ok (.aload_n 0, 1) := by decide +kernel
theorem dX0_binary_91 : decode cX0_binary 91 = .ok (.iload_n 2, 1) := by decide +kernel
theorem dX0_binary_92 : decode cX0_binary 92 = .ok (.iload_n 3, 1) := by decide +kernel
theorem dX0_binary_93 : decode cX0_binary 93 = .ok (.invokevirtual 41, 3) := by decide +kernel
theorem dX0_binary_96 : decode cX0_binary 96 = .ok (.ireturn, 1) := by decide +kernel
theorem dX0_binary_97 : decode cX0_binary 97 = .ok (.aload_n 0, 1) := by decide +kernel
theorem dX0_binary_98 : decode cX0_binary 98 = .ok (.iload_n 2, 1) := by decide +kernel
theorem dX0_binary_99 : decode cX0_binary 99 = .ok (.iload_n 3, 1) := by decide +kernel
theorem dX0_binary_100 : decode cX0_binary 100 = .ok (.invokevirtual 44, 3) := by decide +kernel
theorem dX0_binary_103 : decode cX0_binary 103 = .ok (.ifCond .eq 27, 3) := by decide +kernel
theorem dX0_binary_106 : decode cX0_binary 106 = .ok (.aload_n 0, 1) := by decide +kernel
theorem dX0_binary_107 : decode cX0_binary 107 = .ok (.getfield 26, 3) := by decide +kernel
theorem dX0_binary_110 : decode cX0_binary 110 = .ok (.iload_n 2, 1) := by decide +kernel
theorem dX0_binary_111 : decode cX0_binary 111 = .ok (.iload_n 3, 1) := by decide +kernel
theorem dX0_binary_112 : decode cX0_binary 112 = .ok (.iload_n 1, 1) := by decide +kernel
theorem dX0_binary_113 : decode cX0_binary 113 = .ok (.sipush 132, 3) := by decide +kernel
theorem dX0_binary_116 : decode cX0_binary 116 = .ok (.if_icmp .ne 7, 3) := by decide +kernel
theorem dX0_binary_119 : decode cX0_binary 119 = .ok (.iconst 1, 1) := by decide +kernel
theorem dX0_binary_120 : decode cX0_binary 120 = .ok (.goto 4, 3) := by decide +kernel
theorem dX0_binary_123 : decode cX0_binary 123 = .ok (.iconst 0, 1) := by decide +kernel
theorem dX0_binary_124 : decode cX0_binary 124 = .ok (.invokevirtual 50, 3) := by decide +kernel
theorem dX0_binary_127 : decode cX0_binary 127 = .ok (.goto 5, 3) := by decide +kernel
theorem dX0_binary_130 : decode cX0_binary 130 = .ok (.ldc 56, 2) := by decide +kernel
theorem dX0_binary_132 : decode cX0_binary 132 = .ok (.ireturn, 1) := by decide +kernel
theorem dX0_binary_133 : decode cX0_binary 133 = .ok (.aload_n 0, 1) := by decide +kernel
theorem dX0_binary_134 : decode cX0_binary 134 = .ok (.iload_n 2, 1) := by decide +kernel
theorem dX0_binary_135 : decode cX0_binary 135 = .ok (.iload_n 3, 1) := by decide +kernel
theorem dX0_binary_136 : decode cX0_binary 136 = .ok (.invokevirtual 44, 3) := by decide +kernel
theorem dX0_binary_139 : decode cX0_binary 139 = .ok (.ifCond .eq 15, 3) := by decide +kernel
theorem dX0_binary_142 : decode cX0_binary 142 = .ok (.aload_n 0, 1) := by decide +kernel
theorem dX0_binary_143 : decode cX0_binary 143 = .ok (.getfield 26, 3) := by decide +kernel
theorem dX0_binary_146 : decode cX0_binary 146 = .ok (.iload_n 2, 1) := by decide +kernel
theorem dX0_binary_147 : decode cX0_binary 147 = .ok (.iload_n 3, 1) := by decide +kernel
theorem dX0_binary_148 : decode cX0_binary 148 = .ok (.invokevirtual 57, 3) := by decide +kernel
theorem dX0_binary_151 : decode cX0_binary 151 = .ok (.goto 5, 3) := by decide +kernel
theorem dX0_binary_154 : decode cX0_binary 154 = .ok (.ldc 56, 2) := by decide +kernel
theorem dX0_binary_156 : decode cX0_binary 156 = .ok (.ireturn, 1) := by decide +kernel
theorem dX0_binary_157 : decode cX0_binary 157 = .ok (.aload_n 0, 1) := by decide +kernel
theorem dX0_binary_158 : decode cX0_binary 158 = .ok (.getfield 22, 3) := by decide +kernel
theorem dX0_binary_161 : decode cX0_binary 161 = .ok (.iload_n 2, 1) := by decide +kernel
theorem dX0_binary_162 : decode cX0_binary 162 = .ok (.iload_n 3, 1) := by decide +kernel
theorem dX0_binary_163 : decode cX0_binary 163 = .ok (.invokevirtual 60, 3) := by decide +kernel
theorem dX0_binary_166 : decode cX0_binary 166 = .ok (.invokestatic 65, 3) := by decide +kernel
theorem dX0_binary_169 : decode cX0_binary 169 = .ok (.ireturn, 1) := by decide +kernel
theorem dX0_binary_170 : decode cX0_binary 170 = .ok (.aload_n 0, 1) := by decide +kernel
theorem dX0_binary_171 : decode cX0_binary 171 = .ok (.getfield 22, 3) := by decide +kernel
theorem dX0_binary_174 : decode cX0_binary 174 = .ok (.iload_n 2, 1) := by decide +kernel
theorem dX0_binary_175 : decode cX0_binary 175 = .ok (.iload_n 3, 1) := by decide +kernel
theorem dX0_binary_176 : decode cX0_binary 176 = .ok (.invokevirtual 60, 3) := by decide +kernel
theorem dX0_binary_179 : decode cX0_binary 179 = .ok (.ifCond .ne 7, 3) := by decide +kernel
theorem dX0_binary_182 : decode cX0_binary 182 = .ok (.iconst 1, 1) := by decide +kernel
theorem dX0_binary_183 : decode cX0_binary 183 = .ok (.goto 4, 3) := by decide +kernel
theorem dX0_binary_186 : decode cX0_binary 186 = .ok (.iconst 0, 1) := by decide +kernel
theorem dX0_binary_187 : decode cX0_binary 187 = .ok (.invokestatic 65, 3) := by decide +kernel
theorem dX0_binary_190 : decode cX0_binary 190 = .ok (.ireturn, 1) := by decide +kernel
theorem dX0_binary_191 : decode cX0_binary 191 = .ok (.aload_n 0, 1) := by decide +kernel
theorem dX0_binary_192 : decode cX0_binary 192 = .ok (.iload_n 3, 1) := by decide +kernel
theorem dX0_binary_193 : decode cX0_binary 193 = .ok (.iload_n 2, 1) := by decide +kernel
theorem dX0_binary_194 : decode cX0_binary 194 = .ok (.invokevirtual 69, 3) := by decide +kernel
theorem dX0_binary_197 : decode cX0_binary 197 = .ok (.ireturn, 1) := by decide +kernel
theorem dX0_binary_198 : decode cX0_binary 198 = .ok (.aload_n 0, 1) := by decide +kernel
theorem dX0_binary_199 : decode cX0_binary 199 = .ok (.iload_n 3, 1) := by decide +kernel
theorem dX0_binary_200 : decode cX0_binary 200 = .ok (.iload_n 2, 1) := by decide +kernel
theorem dX0_binary_201 : decode cX0_binary 201 = .ok (.invokevirtual 69, 3) := by decide +kernel
theorem dX0_binary_204 : decode cX0_binary 204 = .ok (.istore 4, 2) := by decide +kernel
theorem dX0_binary_206 : decode cX0_binary 206 = .ok (.iload 4, 2) := by decide +kernel
theorem dX0_binary_208 : decode cX0_binary 208 = .ok (.invokestatic 72, 3) := by decide +kernel
theorem dX0_binary_211 : decode cX0_binary 211 = .ok (.ifCond .eq 8, 3) := by decide +kernel
theorem dX0_binary_214 : decode cX0_binary 214 = .ok (.iload 4, 2) := by decide +kernel
theorem dX0_binary_216 : decode cX0_binary 216 = .ok (.goto 18, 3) := by decide +kernel
theorem dX0_binary_219 : decode cX0_binary 219 = .ok (.iload 4, 2) := by decide +kernel
theorem dX0_binary_221 : decode cX0_binary 221 = .ok (.ldc 76, 2) := by decide +kernel
theorem dX0_binary_223 : decode cX0_binary 223 = .ok (.if_icmp .ne 7, 3) := by decide +kernel
theorem dX0_binary_226 : decode cX0_binary 226 = .ok (.iconst 1, 1) := by decide +kernel
theorem dX0_binary_227 : decode cX0_binary 227 = .ok (.goto 4, 3) := by decide +kernel
theorem dX0_binary_230 : decode cX0_binary 230 = .ok (.iconst 0, 1) := by decide +kernel
theorem dX0_binary_231 : decode cX0_binary 231 = .ok (.invokestatic 65, 3) := by decide +kernel
theorem dX0_binary_234 : decode cX0_binary 234 = .ok (.ireturn, 1) := by decide +kernel
theorem dX0_binary_235 : decode cX0_binary 235 = .ok (.aload_n 0, 1) := by decide +kernel
theorem dX0_binary_236 : decode cX0_binary 236 = .ok (.iload_n 2, 1) := by decide +kernel
theorem dX0_binary_237 : decode cX0_binary 237 = .ok (.iload_n 3, 1) := by decide +kernel
theorem dX0_binary_238 : decode cX0_binary 238 = .ok (.invokevirtual 77, 3) := by decide +kernel
theorem dX0_binary_241 : decode cX0_binary 241 = .ok (.ifCond .eq 15, 3) := by decide +kernel
theorem dX0_binary_244 : decode cX0_binary 244 = .ok (.aload_n 0, 1) := by decide +kernel
theorem dX0_binary_245 : decode cX0_binary 245 = .ok (.iload_n 2, 1) := by decide +kernel
theorem dX0_binary_246 : decode cX0_binary 246 = .ok (.iload_n 3, 1) := by decide +kernel
theorem dX0_binary_247 : decode cX0_binary 247 = .ok (.invokevirtual 80, 3) := by decide +kernel
theorem dX0_binary_250 : decode cX0_binary 250 = .ok (.invokestatic 65, 3) := by decide +kernel
theorem dX0_binary_253 : decode cX0_binary 253 = .ok (.goto 5, 3) := by decide +kernel
theorem dX0_binary_256 : decode cX0_binary 256 = .ok (.ldc 56, 2) := by decide +kernel
theorem dX0_binary_258 : decode cX0_binary 258 = .ok (.ireturn, 1) := by decide +kernel
theorem dX0_binary_259 : decode cX0_binary 259 = .ok (.aload_n 0, 1) := by decide +kernel
theorem dX0_binary_260 : decode cX0_binary 260 = .ok (.iload_n 1, 1) := by decide +kernel
theorem dX0_binary_261 : decode cX0_binary 261 = .ok (.iload_n 2, 1) := by decide +kernel
theorem dX0_binary_262 : decode cX0_binary 262 = .ok (.iload_n 3, 1) := by decide +kernel
theorem dX0_binary_263 : decode cX0_binary 263 = .ok (.invokevirtual 83, 3) := by decide +kernel
theorem dX0_binary_266 : decode cX0_binary 266 = .ok (.ireturn, 1) := by decide +kernel
theorem dX0_charOf_0 : decode cX0_charOf 0 = .ok (.aload_n 0, 1) := by decide +kernel
theorem dX0_charOf_1 : decode cX0_charOf 1 = .ok (.getfield 26, 3) := by decide +kernel
theorem dX0_charOf_4 : decode cX0_charOf 4 = .ok (.iload_n 1, 1) := by decide +kernel
theorem dX0_charOf_5 : decode cX0_charOf 5 = .ok (.invokevirtual 133, 3) := by decide +kernel
theorem dX0_charOf_8 : decode cX0_charOf 8 = .ok (.istore_n 2, 1) := by decide +kernel
theorem dX0_charOf_9 : decode cX0_charOf 9 = .ok (.iload_n 2, 1) := by decide +kernel
theorem dX0_charOf_10 : decode cX0_charOf 10 = .ok (.ifCond .lt 17, 3) := by decide +kernel
theorem dX0_charOf_13 : decode cX0_charOf 13 = .ok (.iload_n 2, 1) := by decide +kernel
theorem dX0_charOf_14 : decode cX0_charOf 14 = .ok (.sipush 255, 3) := by decide +kernel
theorem dX0_charOf_17 : decode cX0_charOf 17 = .ok (.if_icmp .gt 10, 3) := by decide +kernel
theorem dX0_charOf_20 : decode cX0_charOf 20 = .ok (.ldc 243, 2) := by decide +kernel
theorem dX0_charOf_22 : decode cX0_charOf 22 = .ok (.iload_n 2, 1) := by decide +kernel
theorem dX0_charOf_23 : decode cX0_charOf 23 = .ok (.ior, 1) := by decide +kernel
theorem dX0_charOf_24 : decode cX0_charOf 24 = .ok (.goto 5, 3) := by decide +kernel
theorem dX0_charOf_27 : decode cX0_charOf 27 = .ok (.ldc 132, 2) := by decide +kernel
theorem dX0_charOf_29 : decode cX0_charOf 29 = .ok (.ireturn, 1) := by decide +kernel
theorem dX0_chosen_0 : decode cX0_chosen 0 = .ok (.iconst 0, 1) := by decide +kernel
theorem dX0_chosen_1 : decode cX0_chosen 1 = .ok (.istore 4, 2) := by decide +kernel
theorem dX0_chosen_3 : decode cX0_chosen 3 = .ok (.iconst 0, 1) := by decide +kernel
theorem dX0_chosen_4 : decode cX0_chosen 4 = .ok (.istore 5, 2) := by decide +kernel
theorem dX0_chosen_6 : decode cX0_chosen 6 = .ok (.iload 5, 2) := by decide +kernel
theorem dX0_chosen_8 : decode cX0_chosen 8 = .ok (.aload_n 0, 1) := by decide +kernel
theorem dX0_chosen_9 : decode cX0_chosen 9 = .ok (.getfield 22, 3) := by decide +kernel
theorem dX0_chosen_12 : decode cX0_chosen 12 = .ok (.iload_n 1, 1) := by decide +kernel
theorem dX0_chosen_13 : decode cX0_chosen 13 = .ok (.invokevirtual 100, 3) := by decide +kernel
theorem dX0_chosen_16 : decode cX0_chosen 16 = .ok (.if_icmp .ge 97, 3) := by decide +kernel
theorem dX0_chosen_19 : decode cX0_chosen 19 = .ok (.iload 4, 2) := by decide +kernel
theorem dX0_chosen_21 : decode cX0_chosen 21 = .ok (.aload_n 0, 1) := by decide +kernel
theorem dX0_chosen_22 : decode cX0_chosen 22 = .ok (.getfield 15, 3) := by decide +kernel
theorem dX0_chosen_25 : decode cX0_chosen 25 = .ok (.arraylength, 1) := by decide +kernel
theorem dX0_chosen_26 : decode cX0_chosen 26 = .ok (.if_icmp .ge 87, 3) := by decide +kernel
theorem dX0_chosen_29 : decode cX0_chosen 29 = .ok (.aload_n 0, 1) := by decide +kernel
theorem dX0_chosen_30 : decode cX0_chosen 30 = .ok (.getfield 22, 3) := by decide +kernel
theorem dX0_chosen_33 : decode cX0_chosen 33 = .ok (.iload_n 1, 1) := by decide +kernel
theorem dX0_chosen_34 : decode cX0_chosen 34 = .ok (.iload 5, 2) := by decide +kernel
theorem dX0_chosen_36 : decode cX0_chosen 36 = .ok (.invokevirtual 154, 3) := by decide +kernel
theorem dX0_chosen_39 : decode cX0_chosen 39 = .ok (.istore 6, 2) := by decide +kernel
theorem dX0_chosen_41 : decode cX0_chosen 41 = .ok (.aload_n 0, 1) := by decide +kernel
theorem dX0_chosen_42 : decode cX0_chosen 42 = .ok (.iload_n 2, 1) := by decide +kernel
theorem dX0_chosen_43 : decode cX0_chosen 43 = .ok (.iconst 0, 1) := by decide +kernel
theorem dX0_chosen_44 : decode cX0_chosen 44 = .ok (.iload 6, 2) := by decide +kernel
theorem dX0_chosen_46 : decode cX0_chosen 46 = .ok (.invokevirtual 157, 3) := by decide +kernel
theorem dX0_chosen_49 : decode cX0_chosen 49 = .ok (.istore 7, 2) := by decide +kernel
theorem dX0_chosen_51 : decode cX0_chosen 51 = .ok (.iload 7, 2) := by decide +kernel
theorem dX0_chosen_53 : decode cX0_chosen 53 = .ok (.aload_n 0, 1) := by decide +kernel
theorem dX0_chosen_54 : decode cX0_chosen 54 = .ok (.getfield 22, 3) := by decide +kernel
theorem dX0_chosen_57 : decode cX0_chosen 57 = .ok (.iload_n 2, 1) := by decide +kernel
theorem dX0_chosen_58 : decode cX0_chosen 58 = .ok (.invokevirtual 100, 3) := by decide +kernel
theorem dX0_chosen_61 : decode cX0_chosen 61 = .ok (.if_icmp .ge 29, 3) := by decide +kernel
theorem dX0_chosen_64 : decode cX0_chosen 64 = .ok (.aload_n 0, 1) := by decide +kernel
theorem dX0_chosen_65 : decode cX0_chosen 65 = .ok (.getfield 22, 3) := by decide +kernel
theorem dX0_chosen_68 : decode cX0_chosen 68 = .ok (.aload_n 0, 1) := by decide +kernel
theorem dX0_chosen_69 : decode cX0_chosen 69 = .ok (.getfield 22, 3) := by decide +kernel
theorem dX0_chosen_72 : decode cX0_chosen 72 = .ok (.iload_n 2, 1) := by decide +kernel
theorem dX0_chosen_73 : decode cX0_chosen 73 = .ok (.iload 7, 2) := by decide +kernel
theorem dX0_chosen_75 : decode cX0_chosen 75 = .ok (.invokevirtual 154, 3) := by decide +kernel
theorem dX0_chosen_78 : decode cX0_chosen 78 = .ok (.iload 6, 2) := by decide +kernel
theorem dX0_chosen_80 : decode cX0_chosen 80 = .ok (.invokevirtual 60, 3) := by decide +kernel
theorem dX0_chosen_83 : decode cX0_chosen 83 = .ok (.ifCond .eq 7, 3) := by decide +kernel
theorem dX0_chosen_86 : decode cX0_chosen 86 = .ok (.iconst 1, 1) := by decide +kernel
theorem dX0_chosen_87 : decode cX0_chosen 87 = .ok (.goto 4, 3) := by decide +kernel
theorem dX0_chosen_90 : decode cX0_chosen 90 = .ok (.iconst 0, 1) := by decide +kernel
theorem dX0_chosen_91 : decode cX0_chosen 91 = .ok (.iload_n 3, 1) := by decide +kernel
theorem dX0_chosen_92 : decode cX0_chosen 92 = .ok (.if_icmp .ne 15, 3) := by decide +kernel
theorem dX0_chosen_95 : decode cX0_chosen 95 = .ok (.aload_n 0, 1) := by decide +kernel
theorem dX0_chosen_96 : decode cX0_chosen 96 = .ok (.getfield 15, 3) := by decide +kernel
theorem dX0_chosen_99 : decode cX0_chosen 99 = .ok (.iload 4, 2) := by decide +kernel
theorem dX0_chosen_101 : decode cX0_chosen 101 = .ok (.iload 6, 2) := by decide +kernel
theorem dX0_chosen_103 : decode cX0_chosen 103 = .ok (.iastore, 1) := by decide +kernel
theorem dX0_chosen_104 : decode cX0_chosen 104 = .ok (.iinc 4 1, 3) := by decide +kernel
theorem dX0_chosen_107 : decode cX0_chosen 107 = .ok (.iinc 5 1, 3) := by decide +kernel
theorem dX0_chosen_110 : decode cX0_chosen 110 = .ok (.goto (-104), 3) := by decide +kernel
theorem dX0_chosen_113 : decode cX0_chosen 113 = .ok (.aload_n 0, 1) := by decide +kernel
theorem dX0_chosen_114 : decode cX0_chosen 114 = .ok (.getfield 22, 3) := by decide +kernel
theorem dX0_chosen_117 : decode cX0_chosen 117 = .ok (.bipush 6, 2) := by decide +kernel
theorem dX0_chosen_119 : decode cX0_chosen 119 = .ok (.aload_n 0, 1) := by decide +kernel
theorem dX0_chosen_120 : decode cX0_chosen 120 = .ok (.getfield 15, 3) := by decide +kernel
theorem dX0_chosen_123 : decode cX0_chosen 123 = .ok (.iconst 0, 1) := by decide +kernel
theorem dX0_chosen_124 : decode cX0_chosen 124 = .ok (.iload 4, 2) := by decide +kernel
theorem dX0_chosen_126 : decode cX0_chosen 126 = .ok (.invokevirtual 160, 3) := by decide +kernel
theorem dX0_chosen_129 : decode cX0_chosen 129 = .ok (.ireturn, 1) := by decide +kernel
theorem dX0_codeOf_0 : decode cX0_codeOf 0 = .ok (.aload_n 0, 1) := by decide +kernel
theorem dX0_codeOf_1 : decode cX0_codeOf 1 = .ok (.getfield 22, 3) := by decide +kernel
theorem dX0_codeOf_4 : decode cX0_codeOf 4 = .ok (.iload_n 1, 1) := by decide +kernel
theorem dX0_codeOf_5 : decode cX0_codeOf 5 = .ok (.invokevirtual 100, 3) := by decide +kernel
theorem dX0_codeOf_8 : decode cX0_codeOf 8 = .ok (.iconst 1, 1) := by decide +kernel
theorem dX0_codeOf_9 : decode cX0_codeOf 9 = .ok (.if_icmp .ne 18, 3) := by decide +kernel
theorem dX0_codeOf_12 : decode cX0_codeOf 12 = .ok (.aload_n 0, 1) := by decide +kernel
theorem dX0_codeOf_13 : decode cX0_codeOf 13 = .ok (.getfield 22, 3) := by decide +kernel
theorem dX0_codeOf_16 : decode cX0_codeOf 16 = .ok (.iload_n 1, 1) := by decide +kernel
theorem dX0_codeOf_17 : decode cX0_codeOf 17 = .ok (.iconst 0, 1) := by decide +kernel
theorem dX0_codeOf_18 : decode cX0_codeOf 18 = .ok (.invokevirtual 171, 3) := by decide +kernel
theorem dX0_codeOf_21 : decode cX0_codeOf 21 = .ok (.invokestatic 188, 3) := by decide +kernel
theorem dX0_codeOf_24 : decode cX0_codeOf 24 = .ok (.goto 5, 3) := by decide +kernel
theorem dX0_codeOf_27 : decode cX0_codeOf 27 = .ok (.ldc 132, 2) := by decide +kernel
theorem dX0_codeOf_29 : decode cX0_codeOf 29 = .ok (.ireturn, 1) := by decide +kernel
theorem dX0_compared_0 : decode cX0_compared 0 = .ok (.aload_n 0, 1) := by decide +kernel
theorem dX0_compared_1 : decode cX0_compared 1 = .ok (.getfield 22, 3) := by decide +kernel
theorem dX0_compared_4 : decode cX0_compared 4 = .ok (.iload_n 2, 1) := by decide +kernel
theorem dX0_compared_5 : decode cX0_compared 5 = .ok (.invokevirtual 87, 3) := by decide +kernel
theorem dX0_compared_8 : decode cX0_compared 8 = .ok (.istore 4, 2) := by decide +kernel
theorem dX0_compared_10 : decode cX0_compared 10 = .ok (.iload 4, 2) := by decide +kernel
theorem dX0_compared_12 : decode cX0_compared 12 = .ok (.aload_n 0, 1) := by decide +kernel
theorem dX0_compared_13 : decode cX0_compared 13 = .ok (.getfield 22, 3) := by decide +kernel
theorem dX0_compared_16 : decode cX0_compared 16 = .ok (.iload_n 3, 1) := by decide +kernel
theorem dX0_compared_17 : decode cX0_compared 17 = .ok (.invokevirtual 87, 3) := by decide +kernel
theorem dX0_compared_20 : decode cX0_compared 20 = .ok (.if_icmp .ne 15, 3) := by decide +kernel
theorem dX0_compared_23 : decode cX0_compared 23 = .ok (.iload 4, 2) := by decide +kernel
theorem dX0_compared_25 : decode cX0_compared 25 = .ok (.iconst 2, 1) := by decide +kernel
theorem dX0_compared_26 : decode cX0_compared 26 = .ok (.if_icmp .eq 12, 3) := by decide +kernel
theorem dX0_compared_29 : decode cX0_compared 29 = .ok (.iload 4, 2) := by decide +kernel
theorem dX0_compared_31 : decode cX0_compared 31 = .ok (.iconst 4, 1) := by decide +kernel
theorem dX0_compared_32 : decode cX0_compared 32 = .ok (.if_icmp .eq 6, 3) := by decide +kernel
theorem dX0_compared_35 : decode cX0_compared 35 = .ok (.ldc 56, 2) := by decide +kernel
theorem dX0_compared_37 : decode cX0_compared 37 = .ok (.ireturn, 1) := by decide +kernel
theorem dX0_compared_38 : decode cX0_compared 38 = .ok (.aload_n 0, 1) := by decide +kernel
theorem dX0_compared_39 : decode cX0_compared 39 = .ok (.getfield 22, 3) := by decide +kernel
theorem dX0_compared_42 : decode cX0_compared 42 = .ok (.iload_n 2, 1) := by decide +kernel
theorem dX0_compared_43 : decode cX0_compared 43 = .ok (.iload_n 3, 1) := by decide +kernel
theorem dX0_compared_44 : decode cX0_compared 44 = .ok (.invokevirtual 91, 3) := by decide +kernel
theorem dX0_compared_47 : decode cX0_compared 47 = .ok (.istore 5, 2) := by decide +kernel
theorem dX0_compared_49 : decode cX0_compared 49 = .ok (.iload_n 1, 1) := by decide +kernel
theorem dX0_compared_50 : decode cX0_compared 50 = .ok (.tableswitch 68 136 138 #[26, 40, 54], 26) := by decide +kernel
theorem dX0_compared_76 : decode cX0_compared 76 = .ok (.iload 5, 2) := by decide +kernel
theorem dX0_compared_78 : decode cX0_compared 78 = .ok (.ifCond .ge 7, 3) := by decide +kernel
theorem dX0_compared_81 : decode cX0_compared 81 = .ok (.iconst 1, 1) := by decide +kernel
theorem dX0_compared_82 : decode cX0_compared 82 = .ok (.goto 4, 3) := by decide +kernel
theorem dX0_compared_85 : decode cX0_compared 85 = .ok (.iconst 0, 1) := by decide +kernel
theorem dX0_compared_86 : decode cX0_compared 86 = .ok (.invokestatic 65, 3) := by decide +kernel
theorem dX0_compared_89 : decode cX0_compared 89 = .ok (.ireturn, 1) := by decide +kernel
theorem dX0_compared_90 : decode cX0_compared 90 = .ok (.iload 5, 2) := by decide +kernel
theorem dX0_compared_92 : decode cX0_compared 92 = .ok (.ifCond .gt 7, 3) := by decide +kernel
theorem dX0_compared_95 : decode cX0_compared 95 = .ok (.iconst 1, 1) := by decide +kernel
theorem dX0_compared_96 : decode cX0_compared 96 = .ok (.goto 4, 3) := by decide +kernel
theorem dX0_compared_99 : decode cX0_compared 99 = .ok (.iconst 0, 1) := by decide +kernel
theorem dX0_compared_100 : decode cX0_compared 100 = .ok (.invokestatic 65, 3) := by decide +kernel
theorem dX0_compared_103 : decode cX0_compared 103 = .ok (.ireturn, 1) := by decide +kernel
theorem dX0_compared_104 : decode cX0_compared 104 = .ok (.iload 5, 2) := by decide +kernel
theorem dX0_compared_106 : decode cX0_compared 106 = .ok (.ifCond .le 7, 3) := by decide +kernel
theorem dX0_compared_109 : decode cX0_compared 109 = .ok (.iconst 1, 1) := by decide +kernel
theorem dX0_compared_110 : decode cX0_compared 110 = .ok (.goto 4, 3) := by decide +kernel
theorem dX0_compared_113 : decode cX0_compared 113 = .ok (.iconst 0, 1) := by decide +kernel
theorem dX0_compared_114 : decode cX0_compared 114 = .ok (.invokestatic 65, 3) := by decide +kernel
theorem dX0_compared_117 : decode cX0_compared 117 = .ok (.ireturn, 1) := by decide +kernel
theorem dX0_compared_118 : decode cX0_compared 118 = .ok (.iload 5, 2) := by decide +kernel
theorem dX0_compared_120 : decode cX0_compared 120 = .ok (.ifCond .lt 7, 3) := by decide +kernel
theorem dX0_compared_123 : decode cX0_compared 123 = .ok (.iconst 1, 1) := by decide +kernel
theorem dX0_compared_124 : decode cX0_compared 124 = .ok (.goto 4, 3) := by decide +kernel
theorem dX0_compared_127 : decode cX0_compared 127 = .ok (.iconst 0, 1) := by decide +kernel
theorem dX0_compared_128 : decode cX0_compared 128 = .ok (.invokestatic 65, 3) := by decide +kernel
theorem dX0_compared_131 : decode cX0_compared 131 = .ok (.ireturn, 1) := by decide +kernel
theorem dX0_contains_0 : decode cX0_contains 0 = .ok (.aload_n 0, 1) := by decide +kernel
theorem dX0_contains_1 : decode cX0_contains 1 = .ok (.getfield 22, 3) := by decide +kernel
theorem dX0_contains_4 : decode cX0_contains 4 = .ok (.iload_n 1, 1) := by decide +kernel
theorem dX0_contains_5 : decode cX0_contains 5 = .ok (.invokevirtual 87, 3) := by decide +kernel
theorem dX0_contains_8 : decode cX0_contains 8 = .ok (.tableswitch 123 4 6 #[96, 38, 28], 28) := by decide +kernel
theorem dX0_contains_36 : decode cX0_contains 36 = .ok (.aload_n 0, 1) := by decide +kernel
theorem dX0_contains_37 : decode cX0_contains 37 = .ok (.iload_n 1, 1) := by decide +kernel
theorem dX0_contains_38 : decode cX0_contains 38 = .ok (.iload_n 2, 1) := by decide +kernel
theorem dX0_contains_39 : decode cX0_contains 39 = .ok (.invokevirtual 164, 3) := by decide +kernel
theorem dX0_contains_42 : decode cX0_contains 42 = .ok (.invokestatic 65, 3) := by decide +kernel
theorem dX0_contains_45 : decode cX0_contains 45 = .ok (.ireturn, 1) := by decide +kernel
theorem dX0_contains_46 : decode cX0_contains 46 = .ok (.iconst 0, 1) := by decide +kernel
theorem dX0_contains_47 : decode cX0_contains 47 = .ok (.istore_n 3, 1) := by decide +kernel
theorem dX0_contains_48 : decode cX0_contains 48 = .ok (.iconst 0, 1) := by decide +kernel
theorem dX0_contains_49 : decode cX0_contains 49 = .ok (.istore 4, 2) := by decide +kernel
theorem dX0_contains_51 : decode cX0_contains 51 = .ok (.iload 4, 2) := by decide +kernel
theorem dX0_contains_53 : decode cX0_contains 53 = .ok (.aload_n 0, 1) := by decide +kernel
theorem dX0_contains_54 : decode cX0_contains 54 = .ok (.getfield 22, 3) := by decide +kernel
theorem dX0_contains_57 : decode cX0_contains 57 = .ok (.iload_n 1, 1) := by decide +kernel
theorem dX0_contains_58 : decode cX0_contains 58 = .ok (.invokevirtual 100, 3) := by decide +kernel
theorem dX0_contains_61 : decode cX0_contains 61 = .ok (.if_icmp .ge 38, 3) := by decide +kernel
theorem dX0_contains_64 : decode cX0_contains 64 = .ok (.iload_n 3, 1) := by decide +kernel
theorem dX0_contains_65 : decode cX0_contains 65 = .ok (.ifCond .ne 34, 3) := by decide +kernel
theorem dX0_contains_68 : decode cX0_contains 68 = .ok (.iload_n 2, 1) := by decide +kernel
theorem dX0_contains_69 : decode cX0_contains 69 = .ok (.ldc 167, 2) := by decide +kernel
theorem dX0_contains_71 : decode cX0_contains 71 = .ok (.if_icmp .eq 28, 3) := by decide +kernel
theorem dX0_contains_74 : decode cX0_contains 74 = .ok (.aload_n 0, 1) := by decide +kernel
theorem dX0_contains_75 : decode cX0_contains 75 = .ok (.getfield 22, 3) := by decide +kernel
theorem dX0_contains_78 : decode cX0_contains 78 = .ok (.aload_n 0, 1) := by decide +kernel
theorem dX0_contains_79 : decode cX0_contains 79 = .ok (.getfield 22, 3) := by decide +kernel
theorem dX0_contains_82 : decode cX0_contains 82 = .ok (.iload_n 1, 1) := by decide +kernel
theorem dX0_contains_83 : decode cX0_contains 83 = .ok (.iload 4, 2) := by decide +kernel
theorem dX0_contains_85 : decode cX0_contains 85 = .ok (.invokevirtual 154, 3) := by decide +kernel
theorem dX0_contains_88 : decode cX0_contains 88 = .ok (.iload_n 2, 1) := by decide +kernel
theorem dX0_contains_89 : decode cX0_contains 89 = .ok (.invokevirtual 60, 3) := by decide +kernel
theorem dX0_contains_92 : decode cX0_contains 92 = .ok (.istore_n 3, 1) := by decide +kernel
theorem dX0_contains_93 : decode cX0_contains 93 = .ok (.iinc 4 1, 3) := by decide +kernel
theorem dX0_contains_96 : decode cX0_contains 96 = .ok (.goto (-45), 3) := by decide +kernel
theorem dX0_contains_99 : decode cX0_contains 99 = .ok (.iload_n 3, 1) := by decide +kernel
theorem dX0_contains_100 : decode cX0_contains 100 = .ok (.invokestatic 65, 3) := by decide +kernel
theorem dX0_contains_103 : decode cX0_contains 103 = .ok (.ireturn, 1) := by decide +kernel
theorem dX0_contains_104 : decode cX0_contains 104 = .ok (.aload_n 0, 1) := by decide +kernel
theorem dX0_contains_105 : decode cX0_contains 105 = .ok (.getfield 22, 3) := by decide +kernel
theorem dX0_contains_108 : decode cX0_contains 108 = .ok (.iload_n 2, 1) := by decide +kernel
theorem dX0_contains_109 : decode cX0_contains 109 = .ok (.invokevirtual 87, 3) := by decide +kernel
theorem dX0_contains_112 : decode cX0_contains 112 = .ok (.iconst 4, 1) := by decide +kernel
theorem dX0_contains_113 : decode cX0_contains 113 = .ok (.if_icmp .ne 15, 3) := by decide +kernel
theorem dX0_contains_116 : decode cX0_contains 116 = .ok (.aload_n 0, 1) := by decide +kernel
theorem dX0_contains_117 : decode cX0_contains 117 = .ok (.iload_n 2, 1) := by decide +kernel
theorem dX0_contains_118 : decode cX0_contains 118 = .ok (.iload_n 1, 1) := by decide +kernel
theorem dX0_contains_119 : decode cX0_contains 119 = .ok (.invokevirtual 168, 3) := by decide +kernel
theorem dX0_contains_122 : decode cX0_contains 122 = .ok (.invokestatic 65, 3) := by decide +kernel
theorem dX0_contains_125 : decode cX0_contains 125 = .ok (.goto 5, 3) := by decide +kernel
theorem dX0_contains_128 : decode cX0_contains 128 = .ok (.ldc 56, 2) := by decide +kernel
theorem dX0_contains_130 : decode cX0_contains 130 = .ok (.ireturn, 1) := by decide +kernel
theorem dX0_contains_131 : decode cX0_contains 131 = .ok (.ldc 56, 2) := by decide +kernel
theorem dX0_contains_133 : decode cX0_contains 133 = .ok (.ireturn, 1) := by decide +kernel
theorem dX0_difference_0 : decode cX0_difference 0 = .ok (.aload_n 0, 1) := by decide +kernel
theorem dX0_difference_1 : decode cX0_difference 1 = .ok (.iload_n 1, 1) := by decide +kernel
theorem dX0_difference_2 : decode cX0_difference 2 = .ok (.iload_n 2, 1) := by decide +kernel
theorem dX0_difference_3 : decode cX0_difference 3 = .ok (.invokevirtual 44, 3) := by decide +kernel
theorem dX0_difference_6 : decode cX0_difference 6 = .ok (.ifCond .eq 14, 3) := by decide +kernel
theorem dX0_difference_9 : decode cX0_difference 9 = .ok (.aload_n 0, 1) := by decide +kernel
theorem dX0_difference_10 : decode cX0_difference 10 = .ok (.getfield 26, 3) := by decide +kernel
theorem dX0_difference_13 : decode cX0_difference 13 = .ok (.iload_n 1, 1) := by decide +kernel
theorem dX0_difference_14 : decode cX0_difference 14 = .ok (.iload_n 2, 1) := by decide +kernel
theorem dX0_difference_15 : decode cX0_difference 15 = .ok (.iconst 1, 1) := by decide +kernel
theorem dX0_difference_16 : decode cX0_difference 16 = .ok (.invokevirtual 94, 3) := by decide +kernel
theorem dX0_difference_19 : decode cX0_difference 19 = .ok (.ireturn, 1) := by decide +kernel
theorem dX0_difference_20 : decode cX0_difference 20 = .ok (.aload_n 0, 1) := by decide +kernel
theorem dX0_difference_21 : decode cX0_difference 21 = .ok (.iload_n 1, 1) := by decide +kernel
theorem dX0_difference_22 : decode cX0_difference 22 = .ok (.iload_n 2, 1) := by decide +kernel
theorem dX0_difference_23 : decode cX0_difference 23 = .ok (.invokevirtual 77, 3) := by decide +kernel
theorem dX0_difference_26 : decode cX0_difference 26 = .ok (.ifCond .ne 6, 3) := by decide +kernel
theorem dX0_difference_29 : decode cX0_difference 29 = .ok (.ldc 56, 2) := by decide +kernel
theorem dX0_difference_31 : decode cX0_difference 31 = .ok (.ireturn, 1) := by decide +kernel
theorem dX0_difference_32 : decode cX0_difference 32 = .ok (.aload_n 0, 1) := by decide +kernel
theorem dX0_difference_33 : decode cX0_difference 33 = .ok (.getfield 22, 3) := by decide +kernel
theorem dX0_difference_36 : decode cX0_difference 36 = .ok (.iload_n 2, 1) := by decide +kernel
theorem dX0_difference_37 : decode cX0_difference 37 = .ok (.invokevirtual 100, 3) := by decide +kernel
theorem dX0_difference_40 : decode cX0_difference 40 = .ok (.aload_n 0, 1) := by decide +kernel
theorem dX0_difference_41 : decode cX0_difference 41 = .ok (.getfield 22, 3) := by decide +kernel
theorem dX0_difference_44 : decode cX0_difference 44 = .ok (.iload_n 1, 1) := by decide +kernel
theorem dX0_difference_45 : decode cX0_difference 45 = .ok (.invokevirtual 100, 3) := by decide +kernel
theorem dX0_difference_48 : decode cX0_difference 48 = .ok (.if_icmp .le 13, 3) := by decide +kernel
theorem dX0_difference_51 : decode cX0_difference 51 = .ok (.aload_n 0, 1) := by decide +kernel
theorem dX0_difference_52 : decode cX0_difference 52 = .ok (.iload_n 1, 1) := by decide +kernel
theorem dX0_difference_53 : decode cX0_difference 53 = .ok (.iload_n 2, 1) := by decide +kernel
theorem dX0_difference_54 : decode cX0_difference 54 = .ok (.iconst 0, 1) := by decide +kernel
theorem dX0_difference_55 : decode cX0_difference 55 = .ok (.invokevirtual 122, 3) := by decide +kernel
theorem dX0_difference_58 : decode cX0_difference 58 = .ok (.goto 9, 3) := by decide +kernel
theorem dX0_difference_61 : decode cX0_difference 61 = .ok (.aload_n 0, 1) := by decide +kernel
theorem dX0_difference_62 : decode cX0_difference 62 = .ok (.iload_n 1, 1) := by decide +kernel
theorem dX0_difference_63 : decode cX0_difference 63 = .ok (.iload_n 2, 1) := by decide +kernel
theorem dX0_difference_64 : decode cX0_difference 64 = .ok (.invokevirtual 125, 3) := by decide +kernel
theorem dX0_difference_67 : decode cX0_difference 67 = .ok (.ireturn, 1) := by decide +kernel
theorem dX0_domain_0 : decode cX0_domain 0 = .ok (.iconst 0, 1) := by decide +kernel
theorem dX0_domain_1 : decode cX0_domain 1 = .ok (.istore_n 2, 1) := by decide +kernel
theorem dX0_domain_2 : decode cX0_domain 2 = .ok (.iconst 0, 1) := by decide +kernel
theorem dX0_domain_3 : decode cX0_domain 3 = .ok (.istore_n 3, 1) := by decide +kernel
theorem dX0_domain_4 : decode cX0_domain 4 = .ok (.iload_n 3, 1) := by decide +kernel
theorem dX0_domain_5 : decode cX0_domain 5 = .ok (.aload_n 0, 1) := by decide +kernel
theorem dX0_domain_6 : decode cX0_domain 6 = .ok (.getfield 22, 3) := by decide +kernel
theorem dX0_domain_9 : decode cX0_domain 9 = .ok (.iload_n 1, 1) := by decide +kernel
theorem dX0_domain_10 : decode cX0_domain 10 = .ok (.invokevirtual 100, 3) := by decide +kernel
theorem dX0_domain_13 : decode cX0_domain 13 = .ok (.if_icmp .ge 82, 3) := by decide +kernel
theorem dX0_domain_16 : decode cX0_domain 16 = .ok (.iload_n 2, 1) := by decide +kernel
theorem dX0_domain_17 : decode cX0_domain 17 = .ok (.aload_n 0, 1) := by decide +kernel
theorem dX0_domain_18 : decode cX0_domain 18 = .ok (.getfield 15, 3) := by decide +kernel
theorem dX0_domain_21 : decode cX0_domain 21 = .ok (.arraylength, 1) := by decide +kernel
theorem dX0_domain_22 : decode cX0_domain 22 = .ok (.if_icmp .ge 73, 3) := by decide +kernel
theorem dX0_domain_25 : decode cX0_domain 25 = .ok (.aload_n 0, 1) := by decide +kernel
theorem dX0_domain_26 : decode cX0_domain 26 = .ok (.getfield 22, 3) := by decide +kernel
theorem dX0_domain_29 : decode cX0_domain 29 = .ok (.aload_n 0, 1) := by decide +kernel
theorem dX0_domain_30 : decode cX0_domain 30 = .ok (.getfield 22, 3) := by decide +kernel
theorem dX0_domain_33 : decode cX0_domain 33 = .ok (.iload_n 1, 1) := by decide +kernel
theorem dX0_domain_34 : decode cX0_domain 34 = .ok (.iload_n 3, 1) := by decide +kernel
theorem dX0_domain_35 : decode cX0_domain 35 = .ok (.invokevirtual 154, 3) := by decide +kernel
theorem dX0_domain_38 : decode cX0_domain 38 = .ok (.iconst 0, 1) := by decide +kernel
theorem dX0_domain_39 : decode cX0_domain 39 = .ok (.invokevirtual 154, 3) := by decide +kernel
theorem dX0_domain_42 : decode cX0_domain 42 = .ok (.istore 4, 2) := by decide +kernel
theorem dX0_domain_44 : decode cX0_domain 44 = .ok (.iload 4, 2) := by decide +kernel
theorem dX0_domain_46 : decode cX0_domain 46 = .ok (.ldc 167, 2) := by decide +kernel
theorem dX0_domain_48 : decode cX0_domain 48 = .ok (.if_icmp .ne 6, 3) := by decide +kernel
theorem dX0_domain_51 : decode cX0_domain 51 = .ok (.ldc 174, 2) := by decide +kernel
theorem dX0_domain_53 : decode cX0_domain 53 = .ok (.ireturn, 1) := by decide +kernel
theorem dX0_domain_54 : decode cX0_domain 54 = .ok (.iload_n 2, 1) := by decide +kernel
theorem dX0_domain_55 : decode cX0_domain 55 = .ok (.ifCond .eq 23, 3) := by decide +kernel
theorem dX0_domain_58 : decode cX0_domain 58 = .ok (.aload_n 0, 1) := by decide +kernel
theorem dX0_domain_59 : decode cX0_domain 59 = .ok (.getfield 22, 3) := by decide +kernel
theorem dX0_domain_62 : decode cX0_domain 62 = .ok (.aload_n 0, 1) := by decide +kernel
theorem dX0_domain_63 : decode cX0_domain 63 = .ok (.getfield 15, 3) := by decide +kernel
theorem dX0_domain_66 : decode cX0_domain 66 = .ok (.iload_n 2, 1) := by decide +kernel
theorem dX0_domain_67 : decode cX0_domain 67 = .ok (.iconst 1, 1) := by decide +kernel
theorem dX0_domain_68 : decode cX0_domain 68 = .ok (.isub, 1) := by decide +kernel
theorem dX0_domain_69 : decode cX0_domain 69 = .ok (.iaload, 1) := by decide +kernel
theorem dX0_domain_70 : decode cX0_domain 70 = .ok (.iload 4, 2) := by decide +kernel
theorem dX0_domain_72 : decode cX0_domain 72 = .ok (.invokevirtual 60, 3) := by decide +kernel
theorem dX0_domain_75 : decode cX0_domain 75 = .ok (.ifCond .ne 14, 3) := by decide +kernel
theorem dX0_domain_78 : decode cX0_domain 78 = .ok (.aload_n 0, 1) := by decide +kernel
theorem dX0_domain_79 : decode cX0_domain 79 = .ok (.getfield 15, 3) := by decide +kernel
theorem dX0_domain_82 : decode cX0_domain 82 = .ok (.iload_n 2, 1) := by decide +kernel
theorem dX0_domain_83 : decode cX0_domain 83 = .ok (.iload 4, 2) := by decide +kernel
theorem dX0_domain_85 : decode cX0_domain 85 = .ok (.iastore, 1) := by decide +kernel
theorem dX0_domain_86 : decode cX0_domain 86 = .ok (.iinc 2 1, 3) := by decide +kernel
theorem dX0_domain_89 : decode cX0_domain 89 = .ok (.iinc 3 1, 3) := by decide +kernel
theorem dX0_domain_92 : decode cX0_domain 92 = .ok (.goto (-88), 3) := by decide +kernel
theorem dX0_domain_95 : decode cX0_domain 95 = .ok (.aload_n 0, 1) := by decide +kernel
theorem dX0_domain_96 : decode cX0_domain 96 = .ok (.getfield 22, 3) := by decide +kernel
theorem dX0_domain_99 : decode cX0_domain 99 = .ok (.bipush 6, 2) := by decide +kernel
theorem dX0_domain_101 : decode cX0_domain 101 = .ok (.aload_n 0, 1) := by decide +kernel
theorem dX0_domain_102 : decode cX0_domain 102 = .ok (.getfield 15, 3) := by decide +kernel
theorem dX0_domain_105 : decode cX0_domain 105 = .ok (.iconst 0, 1) := by decide +kernel
theorem dX0_domain_106 : decode cX0_domain 106 = .ok (.iload_n 2, 1) := by decide +kernel
theorem dX0_domain_107 : decode cX0_domain 107 = .ok (.invokevirtual 160, 3) := by decide +kernel
theorem dX0_domain_110 : decode cX0_domain 110 = .ok (.ireturn, 1) := by decide +kernel
theorem dX0_highest_0 : decode cX0_highest 0 = .ok (.iconst 0, 1) := by decide +kernel
theorem dX0_highest_1 : decode cX0_highest 1 = .ok (.istore_n 1, 1) := by decide +kernel
theorem dX0_highest_2 : decode cX0_highest 2 = .ok (.iconst 0, 1) := by decide +kernel
theorem dX0_highest_3 : decode cX0_highest 3 = .ok (.istore_n 2, 1) := by decide +kernel
theorem dX0_highest_4 : decode cX0_highest 4 = .ok (.iload_n 2, 1) := by decide +kernel
theorem dX0_highest_5 : decode cX0_highest 5 = .ok (.bipush 8, 2) := by decide +kernel
theorem dX0_highest_7 : decode cX0_highest 7 = .ok (.if_icmp .ge 24, 3) := by decide +kernel
theorem dX0_highest_10 : decode cX0_highest 10 = .ok (.iload_n 0, 1) := by decide +kernel
theorem dX0_highest_11 : decode cX0_highest 11 = .ok (.iload_n 2, 1) := by decide +kernel
theorem dX0_highest_12 : decode cX0_highest 12 = .ok (.ishr, 1) := by decide +kernel
theorem dX0_highest_13 : decode cX0_highest 13 = .ok (.iconst 1, 1) := by decide +kernel
theorem dX0_highest_14 : decode cX0_highest 14 = .ok (.iand, 1) := by decide +kernel
theorem dX0_highest_15 : decode cX0_highest 15 = .ok (.iconst 1, 1) := by decide +kernel
theorem dX0_highest_16 : decode cX0_highest 16 = .ok (.if_icmp .ne 7, 3) := by decide +kernel
theorem dX0_highest_19 : decode cX0_highest 19 = .ok (.iload_n 2, 1) := by decide +kernel
theorem dX0_highest_20 : decode cX0_highest 20 = .ok (.goto 4, 3) := by decide +kernel
theorem dX0_highest_23 : decode cX0_highest 23 = .ok (.iload_n 1, 1) := by decide +kernel
theorem dX0_highest_24 : decode cX0_highest 24 = .ok (.istore_n 1, 1) := by decide +kernel
theorem dX0_highest_25 : decode cX0_highest 25 = .ok (.iinc 2 1, 3) := by decide +kernel
theorem dX0_highest_28 : decode cX0_highest 28 = .ok (.goto (-24), 3) := by decide +kernel
theorem dX0_highest_31 : decode cX0_highest 31 = .ok (.iload_n 1, 1) := by decide +kernel
theorem dX0_highest_32 : decode cX0_highest 32 = .ok (.ireturn, 1) := by decide +kernel
theorem dX0_holds_0 : decode cX0_holds 0 = .ok (.aload_n 0, 1) := by decide +kernel
theorem dX0_holds_1 : decode cX0_holds 1 = .ok (.iload_n 1, 1) := by decide +kernel
theorem dX0_holds_2 : decode cX0_holds 2 = .ok (.iconst 0, 1) := by decide +kernel
theorem dX0_holds_3 : decode cX0_holds 3 = .ok (.iload_n 2, 1) := by decide +kernel
theorem dX0_holds_4 : decode cX0_holds 4 = .ok (.invokevirtual 157, 3) := by decide +kernel
theorem dX0_holds_7 : decode cX0_holds 7 = .ok (.istore_n 3, 1) := by decide +kernel
theorem dX0_holds_8 : decode cX0_holds 8 = .ok (.iload_n 3, 1) := by decide +kernel
theorem dX0_holds_9 : decode cX0_holds 9 = .ok (.aload_n 0, 1) := by decide +kernel
theorem dX0_holds_10 : decode cX0_holds 10 = .ok (.getfield 22, 3) := by decide +kernel
theorem dX0_holds_13 : decode cX0_holds 13 = .ok (.iload_n 1, 1) := by decide +kernel
theorem dX0_holds_14 : decode cX0_holds 14 = .ok (.invokevirtual 100, 3) := by decide +kernel
theorem dX0_holds_17 : decode cX0_holds 17 = .ok (.if_icmp .ge 27, 3) := by decide +kernel
theorem dX0_holds_20 : decode cX0_holds 20 = .ok (.aload_n 0, 1) := by decide +kernel
theorem dX0_holds_21 : decode cX0_holds 21 = .ok (.getfield 22, 3) := by decide +kernel
theorem dX0_holds_24 : decode cX0_holds 24 = .ok (.aload_n 0, 1) := by decide +kernel
theorem dX0_holds_25 : decode cX0_holds 25 = .ok (.getfield 22, 3) := by decide +kernel
theorem dX0_holds_28 : decode cX0_holds 28 = .ok (.iload_n 1, 1) := by decide +kernel
theorem dX0_holds_29 : decode cX0_holds 29 = .ok (.iload_n 3, 1) := by decide +kernel
theorem dX0_holds_30 : decode cX0_holds 30 = .ok (.invokevirtual 154, 3) := by decide +kernel
theorem dX0_holds_33 : decode cX0_holds 33 = .ok (.iload_n 2, 1) := by decide +kernel
theorem dX0_holds_34 : decode cX0_holds 34 = .ok (.invokevirtual 60, 3) := by decide +kernel
theorem dX0_holds_37 : decode cX0_holds 37 = .ok (.ifCond .eq 7, 3) := by decide +kernel
theorem dX0_holds_40 : decode cX0_holds 40 = .ok (.iconst 1, 1) := by decide +kernel
theorem dX0_holds_41 : decode cX0_holds 41 = .ok (.goto 4, 3) := by decide +kernel
theorem dX0_holds_44 : decode cX0_holds 44 = .ok (.iconst 0, 1) := by decide +kernel
theorem dX0_holds_45 : decode cX0_holds 45 = .ok (.ireturn, 1) := by decide +kernel
theorem dX0_images_0 : decode cX0_images 0 = .ok (.aload_n 0, 1) := by decide +kernel
theorem dX0_images_1 : decode cX0_images 1 = .ok (.iload_n 1, 1) := by decide +kernel
theorem dX0_images_2 : decode cX0_images 2 = .ok (.iload_n 2, 1) := by decide +kernel
theorem dX0_images_3 : decode cX0_images 3 = .ok (.invokevirtual 267, 3) := by decide +kernel
theorem dX0_images_6 : decode cX0_images 6 = .ok (.istore_n 3, 1) := by decide +kernel
theorem dX0_images_7 : decode cX0_images 7 = .ok (.aload_n 0, 1) := by decide +kernel
theorem dX0_images_8 : decode cX0_images 8 = .ok (.iload_n 1, 1) := by decide +kernel
theorem dX0_images_9 : decode cX0_images 9 = .ok (.iload_n 3, 1) := by decide +kernel
theorem dX0_images_10 : decode cX0_images 10 = .ok (.iload_n 2, 1) := by decide +kernel
theorem dX0_images_11 : decode cX0_images 11 = .ok (.invokevirtual 270, 3) := by decide +kernel
theorem dX0_images_14 : decode cX0_images 14 = .ok (.istore 4, 2) := by decide +kernel
theorem dX0_images_16 : decode cX0_images 16 = .ok (.iconst 0, 1) := by decide +kernel
theorem dX0_images_17 : decode cX0_images 17 = .ok (.istore 5, 2) := by decide +kernel
theorem dX0_images_19 : decode cX0_images 19 = .ok (.iload_n 3, 1) := by decide +kernel
theorem dX0_images_20 : decode cX0_images 20 = .ok (.istore 6, 2) := by decide +kernel
theorem dX0_images_22 : decode cX0_images 22 = .ok (.iload 6, 2) := by decide +kernel
theorem dX0_images_24 : decode cX0_images 24 = .ok (.iload 4, 2) := by decide +kernel
theorem dX0_images_26 : decode cX0_images 26 = .ok (.if_icmp .ge 47, 3) := by decide +kernel
theorem dX0_images_29 : decode cX0_images 29 = .ok (.iload 5, 2) := by decide +kernel
theorem dX0_images_31 : decode cX0_images 31 = .ok (.aload_n 0, 1) := by decide +kernel
theorem dX0_images_32 : decode cX0_images 32 = .ok (.getfield 15, 3) := by decide +kernel
theorem dX0_images_35 : decode cX0_images 35 = .ok (.arraylength, 1) := by decide +kernel
theorem dX0_images_36 : decode cX0_images 36 = .ok (.if_icmp .ge 37, 3) := by decide +kernel
theorem dX0_images_39 : decode cX0_images 39 = .ok (.aload_n 0, 1) := by decide +kernel
theorem dX0_images_40 : decode cX0_images 40 = .ok (.getfield 15, 3) := by decide +kernel
theorem dX0_images_43 : decode cX0_images 43 = .ok (.iload 5, 2) := by decide +kernel
theorem dX0_images_45 : decode cX0_images 45 = .ok (.aload_n 0, 1) := by decide +kernel
theorem dX0_images_46 : decode cX0_images 46 = .ok (.getfield 22, 3) := by decide +kernel
theorem dX0_images_49 : decode cX0_images 49 = .ok (.aload_n 0, 1) := by decide +kernel
theorem dX0_images_50 : decode cX0_images 50 = .ok (.getfield 22, 3) := by decide +kernel
theorem dX0_images_53 : decode cX0_images 53 = .ok (.iload_n 1, 1) := by decide +kernel
theorem dX0_images_54 : decode cX0_images 54 = .ok (.iload 6, 2) := by decide +kernel
theorem dX0_images_56 : decode cX0_images 56 = .ok (.invokevirtual 154, 3) := by decide +kernel
theorem dX0_images_59 : decode cX0_images 59 = .ok (.iconst 1, 1) := by decide +kernel
theorem dX0_images_60 : decode cX0_images 60 = .ok (.invokevirtual 154, 3) := by decide +kernel
theorem dX0_images_63 : decode cX0_images 63 = .ok (.iastore, 1) := by decide +kernel
theorem dX0_images_64 : decode cX0_images 64 = .ok (.iinc 5 1, 3) := by decide +kernel
theorem dX0_images_67 : decode cX0_images 67 = .ok (.iinc 6 1, 3) := by decide +kernel
theorem dX0_images_70 : decode cX0_images 70 = .ok (.goto (-48), 3) := by decide +kernel
theorem dX0_images_73 : decode cX0_images 73 = .ok (.aload_n 0, 1) := by decide +kernel
theorem dX0_images_74 : decode cX0_images 74 = .ok (.getfield 22, 3) := by decide +kernel
theorem dX0_images_77 : decode cX0_images 77 = .ok (.bipush 6, 2) := by decide +kernel
theorem dX0_images_79 : decode cX0_images 79 = .ok (.aload_n 0, 1) := by decide +kernel
theorem dX0_images_80 : decode cX0_images 80 = .ok (.getfield 15, 3) := by decide +kernel
theorem dX0_images_83 : decode cX0_images 83 = .ok (.iconst 0, 1) := by decide +kernel
theorem dX0_images_84 : decode cX0_images 84 = .ok (.iload 5, 2) := by decide +kernel
theorem dX0_images_86 : decode cX0_images 86 = .ok (.invokevirtual 160, 3) := by decide +kernel
theorem dX0_images_89 : decode cX0_images 89 = .ok (.ireturn, 1) := by decide +kernel
theorem dX0_insert_0 : decode cX0_insert 0 = .ok (.iload_n 2, 1) := by decide +kernel
theorem dX0_insert_1 : decode cX0_insert 1 = .ok (.istore 6, 2) := by decide +kernel
theorem dX0_insert_3 : decode cX0_insert 3 = .ok (.iload_n 2, 1) := by decide +kernel
theorem dX0_insert_4 : decode cX0_insert 4 = .ok (.iload_n 3, 1) := by decide +kernel
theorem dX0_insert_5 : decode cX0_insert 5 = .ok (.iadd, 1) := by decide +kernel
theorem dX0_insert_6 : decode cX0_insert 6 = .ok (.istore 7, 2) := by decide +kernel
theorem dX0_insert_8 : decode cX0_insert 8 = .ok (.iload_n 3, 1) := by decide +kernel
theorem dX0_insert_9 : decode cX0_insert 9 = .ok (.ifCond .le 25, 3) := by decide +kernel
theorem dX0_insert_12 : decode cX0_insert 12 = .ok (.aload_n 0, 1) := by decide +kernel
theorem dX0_insert_13 : decode cX0_insert 13 = .ok (.getfield 22, 3) := by decide +kernel
theorem dX0_insert_16 : decode cX0_insert 16 = .ok (.aload_n 1, 1) := by decide +kernel
theorem dX0_insert_17 : decode cX0_insert 17 = .ok (.iload 7, 2) := by decide +kernel
theorem dX0_insert_19 : decode cX0_insert 19 = .ok (.iconst 1, 1) := by decide +kernel
theorem dX0_insert_20 : decode cX0_insert 20 = .ok (.isub, 1) := by decide +kernel
theorem dX0_insert_21 : decode cX0_insert 21 = .ok (.iaload, 1) := by decide +kernel
theorem dX0_insert_22 : decode cX0_insert 22 = .ok (.iload 5, 2) := by decide +kernel
theorem dX0_insert_24 : decode cX0_insert 24 = .ok (.invokevirtual 91, 3) := by decide +kernel
theorem dX0_insert_27 : decode cX0_insert 27 = .ok (.ifCond .ge 7, 3) := by decide +kernel
theorem dX0_insert_30 : decode cX0_insert 30 = .ok (.iload 7, 2) := by decide +kernel
theorem dX0_insert_32 : decode cX0_insert 32 = .ok (.istore 6, 2) := by decide +kernel
theorem dX0_insert_34 : decode cX0_insert 34 = .ok (.iconst 0, 1) := by decide +kernel
theorem dX0_insert_35 : decode cX0_insert 35 = .ok (.istore 8, 2) := by decide +kernel
theorem dX0_insert_37 : decode cX0_insert 37 = .ok (.iload 8, 2) := by decide +kernel
theorem dX0_insert_39 : decode cX0_insert 39 = .ok (.bipush 32, 2) := by decide +kernel
theorem dX0_insert_41 : decode cX0_insert 41 = .ok (.if_icmp .ge 54, 3) := by decide +kernel
theorem dX0_insert_44 : decode cX0_insert 44 = .ok (.iload 6, 2) := by decide +kernel
theorem dX0_insert_46 : decode cX0_insert 46 = .ok (.iload 7, 2) := by decide +kernel
theorem dX0_insert_48 : decode cX0_insert 48 = .ok (.if_icmp .ge 47, 3) := by decide +kernel
theorem dX0_insert_51 : decode cX0_insert 51 = .ok (.iload 6, 2) := by decide +kernel
theorem dX0_insert_53 : decode cX0_insert 53 = .ok (.iload 7, 2) := by decide +kernel
theorem dX0_insert_55 : decode cX0_insert 55 = .ok (.iadd, 1) := by decide +kernel
theorem dX0_insert_56 : decode cX0_insert 56 = .ok (.iconst 1, 1) := by decide +kernel
theorem dX0_insert_57 : decode cX0_insert 57 = .ok (.iushr, 1) := by decide +kernel
theorem dX0_insert_58 : decode cX0_insert 58 = .ok (.istore 9, 2) := by decide +kernel
theorem dX0_insert_60 : decode cX0_insert 60 = .ok (.aload_n 0, 1) := by decide +kernel
theorem dX0_insert_61 : decode cX0_insert 61 = .ok (.getfield 22, 3) := by decide +kernel
theorem dX0_insert_64 : decode cX0_insert 64 = .ok (.aload_n 1, 1) := by decide +kernel
theorem dX0_insert_65 : decode cX0_insert 65 = .ok (.iload 9, 2) := by decide +kernel
theorem dX0_insert_67 : decode cX0_insert 67 = .ok (.iaload, 1) := by decide +kernel
theorem dX0_insert_68 : decode cX0_insert 68 = .ok (.iload 5, 2) := by decide +kernel
theorem dX0_insert_70 : decode cX0_insert 70 = .ok (.invokevirtual 91, 3) := by decide +kernel
theorem dX0_insert_73 : decode cX0_insert 73 = .ok (.ifCond .ge 12, 3) := by decide +kernel
theorem dX0_insert_76 : decode cX0_insert 76 = .ok (.iload 9, 2) := by decide +kernel
theorem dX0_insert_78 : decode cX0_insert 78 = .ok (.iconst 1, 1) := by decide +kernel
theorem dX0_insert_79 : decode cX0_insert 79 = .ok (.iadd, 1) := by decide +kernel
theorem dX0_insert_80 : decode cX0_insert 80 = .ok (.istore 6, 2) := by decide +kernel
theorem dX0_insert_82 : decode cX0_insert 82 = .ok (.goto 7, 3) := by decide +kernel
theorem dX0_insert_85 : decode cX0_insert 85 = .ok (.iload 9, 2) := by decide +kernel
theorem dX0_insert_87 : decode cX0_insert 87 = .ok (.istore 7, 2) := by decide +kernel
theorem dX0_insert_89 : decode cX0_insert 89 = .ok (.iinc 8 1, 3) := by decide +kernel
theorem dX0_insert_92 : decode cX0_insert 92 = .ok (.goto (-55), 3) := by decide +kernel
theorem dX0_insert_95 : decode cX0_insert 95 = .ok (.iload 6, 2) := by decide +kernel
theorem dX0_insert_97 : decode cX0_insert 97 = .ok (.iload_n 2, 1) := by decide +kernel
theorem dX0_insert_98 : decode cX0_insert 98 = .ok (.iload_n 3, 1) := by decide +kernel
theorem dX0_insert_99 : decode cX0_insert 99 = .ok (.iadd, 1) := by decide +kernel
theorem dX0_insert_100 : decode cX0_insert 100 = .ok (.if_icmp .ge 21, 3) := by decide +kernel
theorem dX0_insert_103 : decode cX0_insert 103 = .ok (.aload_n 0, 1) := by decide +kernel
theorem dX0_insert_104 : decode cX0_insert 104 = .ok (.getfield 22, 3) := by decide +kernel
theorem dX0_insert_107 : decode cX0_insert 107 = .ok (.aload_n 1, 1) := by decide +kernel
theorem dX0_insert_108 : decode cX0_insert 108 = .ok (.iload 6, 2) := by decide +kernel
theorem dX0_insert_110 : decode cX0_insert 110 = .ok (.iaload, 1) := by decide +kernel
theorem dX0_insert_111 : decode cX0_insert 111 = .ok (.iload 5, 2) := by decide +kernel
theorem dX0_insert_113 : decode cX0_insert 113 = .ok (.invokevirtual 60, 3) := by decide +kernel
theorem dX0_insert_116 : decode cX0_insert 116 = .ok (.ifCond .eq 5, 3) := by decide +kernel
theorem dX0_insert_119 : decode cX0_insert 119 = .ok (.iconst 0, 1) := by decide +kernel
theorem dX0_insert_120 : decode cX0_insert 120 = .ok (.ireturn, 1) := by decide +kernel
theorem dX0_insert_121 : decode cX0_insert 121 = .ok (.aload_n 1, 1) := by decide +kernel
theorem dX0_insert_122 : decode cX0_insert 122 = .ok (.iload 6, 2) := by decide +kernel
theorem dX0_insert_124 : decode cX0_insert 124 = .ok (.aload_n 1, 1) := by decide +kernel
theorem dX0_insert_125 : decode cX0_insert 125 = .ok (.iload 6, 2) := by decide +kernel
theorem dX0_insert_127 : decode cX0_insert 127 = .ok (.iconst 1, 1) := by decide +kernel
theorem dX0_insert_128 : decode cX0_insert 128 = .ok (.iadd, 1) := by decide +kernel
theorem dX0_insert_129 : decode cX0_insert 129 = .ok (.iload 4, 2) := by decide +kernel
theorem dX0_insert_131 : decode cX0_insert 131 = .ok (.iload 6, 2) := by decide +kernel
theorem dX0_insert_133 : decode cX0_insert 133 = .ok (.isub, 1) := by decide +kernel
theorem dX0_insert_134 : decode cX0_insert 134 = .ok (.invokestatic 148, 3) := by decide +kernel
theorem dX0_insert_137 : decode cX0_insert 137 = .ok (.aload_n 1, 1) := by decide +kernel
theorem dX0_insert_138 : decode cX0_insert 138 = .ok (.iload 6, 2) := by decide +kernel
theorem dX0_insert_140 : decode cX0_insert 140 = .ok (.iload 5, 2) := by decide +kernel
theorem dX0_insert_142 : decode cX0_insert 142 = .ok (.iastore, 1) := by decide +kernel
theorem dX0_insert_143 : decode cX0_insert 143 = .ok (.iconst 1, 1) := by decide +kernel
theorem dX0_insert_144 : decode cX0_insert 144 = .ok (.ireturn, 1) := by decide +kernel
theorem dX0_isSubset_0 : decode cX0_isSubset 0 = .ok (.aload_n 0, 1) := by decide +kernel
theorem dX0_isSubset_1 : decode cX0_isSubset 1 = .ok (.getfield 22, 3) := by decide +kernel
theorem dX0_isSubset_4 : decode cX0_isSubset 4 = .ok (.iload_n 1, 1) := by decide +kernel
theorem dX0_isSubset_5 : decode cX0_isSubset 5 = .ok (.invokevirtual 100, 3) := by decide +kernel
theorem dX0_isSubset_8 : decode cX0_isSubset 8 = .ok (.aload_n 0, 1) := by decide +kernel
theorem dX0_isSubset_9 : decode cX0_isSubset 9 = .ok (.getfield 22, 3) := by decide +kernel
theorem dX0_isSubset_12 : decode cX0_isSubset 12 = .ok (.iload_n 2, 1) := by decide +kernel
theorem dX0_isSubset_13 : decode cX0_isSubset 13 = .ok (.invokevirtual 100, 3) := by decide +kernel
theorem dX0_isSubset_16 : decode cX0_isSubset 16 = .ok (.if_icmp .gt 7, 3) := by decide +kernel
theorem dX0_isSubset_19 : decode cX0_isSubset 19 = .ok (.iconst 1, 1) := by decide +kernel
theorem dX0_isSubset_20 : decode cX0_isSubset 20 = .ok (.goto 4, 3) := by decide +kernel
theorem dX0_isSubset_23 : decode cX0_isSubset 23 = .ok (.iconst 0, 1) := by decide +kernel
theorem dX0_isSubset_24 : decode cX0_isSubset 24 = .ok (.istore_n 3, 1) := by decide +kernel
theorem dX0_isSubset_25 : decode cX0_isSubset 25 = .ok (.iconst 0, 1) := by decide +kernel
theorem dX0_isSubset_26 : decode cX0_isSubset 26 = .ok (.istore 4, 2) := by decide +kernel
theorem dX0_isSubset_28 : decode cX0_isSubset 28 = .ok (.iload 4, 2) := by decide +kernel
theorem dX0_isSubset_30 : decode cX0_isSubset 30 = .ok (.aload_n 0, 1) := by decide +kernel
theorem dX0_isSubset_31 : decode cX0_isSubset 31 = .ok (.getfield 22, 3) := by decide +kernel
theorem dX0_isSubset_34 : decode cX0_isSubset 34 = .ok (.iload_n 1, 1) := by decide +kernel
theorem dX0_isSubset_35 : decode cX0_isSubset 35 = .ok (.invokevirtual 100, 3) := by decide +kernel
theorem dX0_isSubset_38 : decode cX0_isSubset 38 = .ok (.if_icmp .ge 29, 3) := by decide +kernel
theorem dX0_isSubset_41 : decode cX0_isSubset 41 = .ok (.iload_n 3, 1) := by decide +kernel
theorem dX0_isSubset_42 : decode cX0_isSubset 42 = .ok (.ifCond .eq 25, 3) := by decide +kernel
theorem dX0_isSubset_45 : decode cX0_isSubset 45 = .ok (.aload_n 0, 1) := by decide +kernel
theorem dX0_isSubset_46 : decode cX0_isSubset 46 = .ok (.iload_n 2, 1) := by decide +kernel
theorem dX0_isSubset_47 : decode cX0_isSubset 47 = .ok (.aload_n 0, 1) := by decide +kernel
theorem dX0_isSubset_48 : decode cX0_isSubset 48 = .ok (.getfield 22, 3) := by decide +kernel
theorem dX0_isSubset_51 : decode cX0_isSubset 51 = .ok (.iload_n 1, 1) := by decide +kernel
theorem dX0_isSubset_52 : decode cX0_isSubset 52 = .ok (.iload 4, 2) := by decide +kernel
theorem dX0_isSubset_54 : decode cX0_isSubset 54 = .ok (.invokevirtual 154, 3) := by decide +kernel
theorem dX0_isSubset_57 : decode cX0_isSubset 57 = .ok (.invokevirtual 164, 3) := by decide +kernel
theorem dX0_isSubset_60 : decode cX0_isSubset 60 = .ok (.istore_n 3, 1) := by decide +kernel
theorem dX0_isSubset_61 : decode cX0_isSubset 61 = .ok (.iinc 4 1, 3) := by decide +kernel
theorem dX0_isSubset_64 : decode cX0_isSubset 64 = .ok (.goto (-36), 3) := by decide +kernel
theorem dX0_isSubset_67 : decode cX0_isSubset 67 = .ok (.iload_n 3, 1) := by decide +kernel
theorem dX0_isSubset_68 : decode cX0_isSubset 68 = .ok (.ireturn, 1) := by decide +kernel
theorem dX0_joined_0 : decode cX0_joined 0 = .ok (.aload_n 0, 1) := by decide +kernel
theorem dX0_joined_1 : decode cX0_joined 1 = .ok (.getfield 22, 3) := by decide +kernel
theorem dX0_joined_4 : decode cX0_joined 4 = .ok (.iload_n 1, 1) := by decide +kernel
theorem dX0_joined_5 : decode cX0_joined 5 = .ok (.iconst 0, 1) := by decide +kernel
theorem dX0_joined_6 : decode cX0_joined 6 = .ok (.aload_n 0, 1) := by decide +kernel
theorem dX0_joined_7 : decode cX0_joined 7 = .ok (.getfield 22, 3) := by decide +kernel
theorem dX0_joined_10 : decode cX0_joined 10 = .ok (.iload_n 1, 1) := by decide +kernel
theorem dX0_joined_11 : decode cX0_joined 11 = .ok (.invokevirtual 100, 3) := by decide +kernel
theorem dX0_joined_14 : decode cX0_joined 14 = .ok (.aload_n 0, 1) := by decide +kernel
theorem dX0_joined_15 : decode cX0_joined 15 = .ok (.getfield 9, 3) := by decide +kernel
theorem dX0_joined_18 : decode cX0_joined 18 = .ok (.iconst 0, 1) := by decide +kernel
theorem dX0_joined_19 : decode cX0_joined 19 = .ok (.invokevirtual 114, 3) := by decide +kernel
theorem dX0_joined_22 : decode cX0_joined 22 = .ok (.istore_n 3, 1) := by decide +kernel
theorem dX0_joined_23 : decode cX0_joined 23 = .ok (.aload_n 0, 1) := by decide +kernel
theorem dX0_joined_24 : decode cX0_joined 24 = .ok (.getfield 22, 3) := by decide +kernel
theorem dX0_joined_27 : decode cX0_joined 27 = .ok (.iload_n 2, 1) := by decide +kernel
theorem dX0_joined_28 : decode cX0_joined 28 = .ok (.iconst 0, 1) := by decide +kernel
theorem dX0_joined_29 : decode cX0_joined 29 = .ok (.aload_n 0, 1) := by decide +kernel
theorem dX0_joined_30 : decode cX0_joined 30 = .ok (.getfield 22, 3) := by decide +kernel
theorem dX0_joined_33 : decode cX0_joined 33 = .ok (.iload_n 2, 1) := by decide +kernel
theorem dX0_joined_34 : decode cX0_joined 34 = .ok (.invokevirtual 100, 3) := by decide +kernel
theorem dX0_joined_37 : decode cX0_joined 37 = .ok (.aload_n 0, 1) := by decide +kernel
theorem dX0_joined_38 : decode cX0_joined 38 = .ok (.getfield 9, 3) := by decide +kernel
theorem dX0_joined_41 : decode cX0_joined 41 = .ok (.iload_n 3, 1) := by decide +kernel
theorem dX0_joined_42 : decode cX0_joined 42 = .ok (.invokevirtual 114, 3) := by decide +kernel
theorem dX0_joined_45 : decode cX0_joined 45 = .ok (.istore_n 3, 1) := by decide +kernel
theorem dX0_joined_46 : decode cX0_joined 46 = .ok (.aload_n 0, 1) := by decide +kernel
theorem dX0_joined_47 : decode cX0_joined 47 = .ok (.getfield 22, 3) := by decide +kernel
theorem dX0_joined_50 : decode cX0_joined 50 = .ok (.aload_n 0, 1) := by decide +kernel
theorem dX0_joined_51 : decode cX0_joined 51 = .ok (.getfield 9, 3) := by decide +kernel
theorem dX0_joined_54 : decode cX0_joined 54 = .ok (.iconst 0, 1) := by decide +kernel
theorem dX0_joined_55 : decode cX0_joined 55 = .ok (.iload_n 3, 1) := by decide +kernel
theorem dX0_joined_56 : decode cX0_joined 56 = .ok (.invokevirtual 118, 3) := by decide +kernel
theorem dX0_joined_59 : decode cX0_joined 59 = .ok (.ireturn, 1) := by decide +kernel
theorem dX0_larger_0 : decode cX0_larger 0 = .ok (.aload_n 0, 1) := by decide +kernel
theorem dX0_larger_1 : decode cX0_larger 1 = .ok (.sipush 136, 3) := by decide +kernel
theorem dX0_larger_4 : decode cX0_larger 4 = .ok (.iload_n 1, 1) := by decide +kernel
theorem dX0_larger_5 : decode cX0_larger 5 = .ok (.iload_n 2, 1) := by decide +kernel
theorem dX0_larger_6 : decode cX0_larger 6 = .ok (.invokevirtual 83, 3) := by decide +kernel
theorem dX0_larger_9 : decode cX0_larger 9 = .ok (.istore 4, 2) := by decide +kernel
theorem dX0_larger_11 : decode cX0_larger 11 = .ok (.iload 4, 2) := by decide +kernel
theorem dX0_larger_13 : decode cX0_larger 13 = .ok (.invokestatic 72, 3) := by decide +kernel
theorem dX0_larger_16 : decode cX0_larger 16 = .ok (.ifCond .eq 6, 3) := by decide +kernel
theorem dX0_larger_19 : decode cX0_larger 19 = .ok (.iload 4, 2) := by decide +kernel
theorem dX0_larger_21 : decode cX0_larger 21 = .ok (.ireturn, 1) := by decide +kernel
theorem dX0_larger_22 : decode cX0_larger 22 = .ok (.iload 4, 2) := by decide +kernel
theorem dX0_larger_24 : decode cX0_larger 24 = .ok (.ldc 247, 2) := by decide +kernel
theorem dX0_larger_26 : decode cX0_larger 26 = .ok (.if_icmp .ne 7, 3) := by decide +kernel
theorem dX0_larger_29 : decode cX0_larger 29 = .ok (.iconst 1, 1) := by decide +kernel
theorem dX0_larger_30 : decode cX0_larger 30 = .ok (.goto 4, 3) := by decide +kernel
theorem dX0_larger_33 : decode cX0_larger 33 = .ok (.iconst 0, 1) := by decide +kernel
theorem dX0_larger_34 : decode cX0_larger 34 = .ok (.iload_n 3, 1) := by decide +kernel
theorem dX0_larger_35 : decode cX0_larger 35 = .ok (.if_icmp .ne 7, 3) := by decide +kernel
theorem dX0_larger_38 : decode cX0_larger 38 = .ok (.iload_n 1, 1) := by decide +kernel
theorem dX0_larger_39 : decode cX0_larger 39 = .ok (.goto 4, 3) := by decide +kernel
theorem dX0_larger_42 : decode cX0_larger 42 = .ok (.iload_n 2, 1) := by decide +kernel
theorem dX0_larger_43 : decode cX0_larger 43 = .ok (.ireturn, 1) := by decide +kernel
theorem dX0_load_0 : decode cX0_load 0 = .ok (.iload_n 3, 1) := by decide +kernel
theorem dX0_load_1 : decode cX0_load 1 = .ok (.iload_n 2, 1) := by decide +kernel
theorem dX0_load_2 : decode cX0_load 2 = .ok (.isub, 1) := by decide +kernel
theorem dX0_load_3 : decode cX0_load 3 = .ok (.aload_n 0, 1) := by decide +kernel
theorem dX0_load_4 : decode cX0_load 4 = .ok (.getfield 15, 3) := by decide +kernel
theorem dX0_load_7 : decode cX0_load 7 = .ok (.arraylength, 1) := by decide +kernel
theorem dX0_load_8 : decode cX0_load 8 = .ok (.iload 4, 2) := by decide +kernel
theorem dX0_load_10 : decode cX0_load 10 = .ok (.isub, 1) := by decide +kernel
theorem dX0_load_11 : decode cX0_load 11 = .ok (.invokestatic 140, 3) := by decide +kernel
theorem dX0_load_14 : decode cX0_load 14 = .ok (.istore 5, 2) := by decide +kernel
theorem dX0_load_16 : decode cX0_load 16 = .ok (.iload 5, 2) := by decide +kernel
theorem dX0_load_18 : decode cX0_load 18 = .ok (.ifCond .le 7, 3) := by decide +kernel
theorem dX0_load_21 : decode cX0_load 21 = .ok (.iload_n 1, 1) := by decide +kernel
theorem dX0_load_22 : decode cX0_load 22 = .ok (.ifCond .ge 6, 3) := by decide +kernel
theorem dX0_load_25 : decode cX0_load 25 = .ok (.iload 4, 2) := by decide +kernel
theorem dX0_load_27 : decode cX0_load 27 = .ok (.ireturn, 1) := by decide +kernel
theorem dX0_load_28 : decode cX0_load 28 = .ok (.aload_n 0, 1) := by decide +kernel
theorem dX0_load_29 : decode cX0_load 29 = .ok (.getfield 22, 3) := by decide +kernel
theorem dX0_load_32 : decode cX0_load 32 = .ok (.getfield 145, 3) := by decide +kernel
theorem dX0_load_35 : decode cX0_load 35 = .ok (.iload_n 1, 1) := by decide +kernel
theorem dX0_load_36 : decode cX0_load 36 = .ok (.iconst 1, 1) := by decide +kernel
theorem dX0_load_37 : decode cX0_load 37 = .ok (.iadd, 1) := by decide +kernel
theorem dX0_load_38 : decode cX0_load 38 = .ok (.iload_n 2, 1) := by decide +kernel
theorem dX0_load_39 : decode cX0_load 39 = .ok (.iadd, 1) := by decide +kernel
theorem dX0_load_40 : decode cX0_load 40 = .ok (.aload_n 0, 1) := by decide +kernel
theorem dX0_load_41 : decode cX0_load 41 = .ok (.getfield 15, 3) := by decide +kernel
theorem dX0_load_44 : decode cX0_load 44 = .ok (.iload 4, 2) := by decide +kernel
theorem dX0_load_46 : decode cX0_load 46 = .ok (.iload 5, 2) := by decide +kernel
theorem dX0_load_48 : decode cX0_load 48 = .ok (.invokestatic 148, 3) := by decide +kernel
theorem dX0_load_51 : decode cX0_load 51 = .ok (.iload 4, 2) := by decide +kernel
theorem dX0_load_53 : decode cX0_load 53 = .ok (.iload 5, 2) := by decide +kernel
theorem dX0_load_55 : decode cX0_load 55 = .ok (.iadd, 1) := by decide +kernel
theorem dX0_load_56 : decode cX0_load 56 = .ok (.ireturn, 1) := by decide +kernel
theorem dX0_memberAt_0 : decode cX0_memberAt 0 = .ok (.aload_n 0, 1) := by decide +kernel
theorem dX0_memberAt_1 : decode cX0_memberAt 1 = .ok (.getfield 22, 3) := by decide +kernel
theorem dX0_memberAt_4 : decode cX0_memberAt 4 = .ok (.iload_n 1, 1) := by decide +kernel
theorem dX0_memberAt_5 : decode cX0_memberAt 5 = .ok (.invokevirtual 87, 3) := by decide +kernel
theorem dX0_memberAt_8 : decode cX0_memberAt 8 = .ok (.istore_n 3, 1) := by decide +kernel
theorem dX0_memberAt_9 : decode cX0_memberAt 9 = .ok (.iload_n 3, 1) := by decide +kernel
theorem dX0_memberAt_10 : decode cX0_memberAt 10 = .ok (.iconst 4, 1) := by decide +kernel
theorem dX0_memberAt_11 : decode cX0_memberAt 11 = .ok (.if_icmp .eq 8, 3) := by decide +kernel
theorem dX0_memberAt_14 : decode cX0_memberAt 14 = .ok (.iload_n 3, 1) := by decide +kernel
theorem dX0_memberAt_15 : decode cX0_memberAt 15 = .ok (.iconst 5, 1) := by decide +kernel
theorem dX0_memberAt_16 : decode cX0_memberAt 16 = .ok (.if_icmp .ne 68, 3) := by decide +kernel
theorem dX0_memberAt_19 : decode cX0_memberAt 19 = .ok (.aload_n 0, 1) := by decide +kernel
theorem dX0_memberAt_20 : decode cX0_memberAt 20 = .ok (.getfield 22, 3) := by decide +kernel
theorem dX0_memberAt_23 : decode cX0_memberAt 23 = .ok (.iload_n 2, 1) := by decide +kernel
theorem dX0_memberAt_24 : decode cX0_memberAt 24 = .ok (.invokevirtual 87, 3) := by decide +kernel
theorem dX0_memberAt_27 : decode cX0_memberAt 27 = .ok (.iconst 2, 1) := by decide +kernel
theorem dX0_memberAt_28 : decode cX0_memberAt 28 = .ok (.if_icmp .eq 6, 3) := by decide +kernel
theorem dX0_memberAt_31 : decode cX0_memberAt 31 = .ok (.ldc 56, 2) := by decide +kernel
theorem dX0_memberAt_33 : decode cX0_memberAt 33 = .ok (.ireturn, 1) := by decide +kernel
theorem dX0_memberAt_34 : decode cX0_memberAt 34 = .ok (.aload_n 0, 1) := by decide +kernel
theorem dX0_memberAt_35 : decode cX0_memberAt 35 = .ok (.getfield 26, 3) := by decide +kernel
theorem dX0_memberAt_38 : decode cX0_memberAt 38 = .ok (.iload_n 2, 1) := by decide +kernel
theorem dX0_memberAt_39 : decode cX0_memberAt 39 = .ok (.invokevirtual 133, 3) := by decide +kernel
theorem dX0_memberAt_42 : decode cX0_memberAt 42 = .ok (.istore 4, 2) := by decide +kernel
theorem dX0_memberAt_44 : decode cX0_memberAt 44 = .ok (.iload 4, 2) := by decide +kernel
theorem dX0_memberAt_46 : decode cX0_memberAt 46 = .ok (.iconst 1, 1) := by decide +kernel
theorem dX0_memberAt_47 : decode cX0_memberAt 47 = .ok (.if_icmp .ge 6, 3) := by decide +kernel
theorem dX0_memberAt_50 : decode cX0_memberAt 50 = .ok (.ldc 132, 2) := by decide +kernel
theorem dX0_memberAt_52 : decode cX0_memberAt 52 = .ok (.ireturn, 1) := by decide +kernel
theorem dX0_memberAt_53 : decode cX0_memberAt 53 = .ok (.iload 4, 2) := by decide +kernel
theorem dX0_memberAt_55 : decode cX0_memberAt 55 = .ok (.aload_n 0, 1) := by decide +kernel
theorem dX0_memberAt_56 : decode cX0_memberAt 56 = .ok (.getfield 22, 3) := by decide +kernel
theorem dX0_memberAt_59 : decode cX0_memberAt 59 = .ok (.iload_n 1, 1) := by decide +kernel
theorem dX0_memberAt_60 : decode cX0_memberAt 60 = .ok (.invokevirtual 100, 3) := by decide +kernel
theorem dX0_memberAt_63 : decode cX0_memberAt 63 = .ok (.if_icmp .gt 18, 3) := by decide +kernel
theorem dX0_memberAt_66 : decode cX0_memberAt 66 = .ok (.aload_n 0, 1) := by decide +kernel
theorem dX0_memberAt_67 : decode cX0_memberAt 67 = .ok (.getfield 22, 3) := by decide +kernel
theorem dX0_memberAt_70 : decode cX0_memberAt 70 = .ok (.iload_n 1, 1) := by decide +kernel
theorem dX0_memberAt_71 : decode cX0_memberAt 71 = .ok (.iload 4, 2) := by decide +kernel
theorem dX0_memberAt_73 : decode cX0_memberAt 73 = .ok (.iconst 1, 1) := by decide +kernel
theorem dX0_memberAt_74 : decode cX0_memberAt 74 = .ok (.isub, 1) := by decide +kernel
theorem dX0_memberAt_75 : decode cX0_memberAt 75 = .ok (.invokevirtual 264, 3) := by decide +kernel
theorem dX0_memberAt_78 : decode cX0_memberAt 78 = .ok (.goto 5, 3) := by decide +kernel
theorem dX0_memberAt_81 : decode cX0_memberAt 81 = .ok (.ldc 167, 2) := by decide +kernel
theorem dX0_memberAt_83 : decode cX0_memberAt 83 = .ok (.ireturn, 1) := by decide +kernel
theorem dX0_memberAt_84 : decode cX0_memberAt 84 = .ok (.aload_n 0, 1) := by decide +kernel
theorem dX0_memberAt_85 : decode cX0_memberAt 85 = .ok (.getfield 22, 3) := by decide +kernel
theorem dX0_memberAt_88 : decode cX0_memberAt 88 = .ok (.iload_n 1, 1) := by decide +kernel
theorem dX0_memberAt_89 : decode cX0_memberAt 89 = .ok (.invokevirtual 191, 3) := by decide +kernel
theorem dX0_memberAt_92 : decode cX0_memberAt 92 = .ok (.ifCond .ne 6, 3) := by decide +kernel
theorem dX0_memberAt_95 : decode cX0_memberAt 95 = .ok (.ldc 56, 2) := by decide +kernel
theorem dX0_memberAt_97 : decode cX0_memberAt 97 = .ok (.ireturn, 1) := by decide +kernel
theorem dX0_memberAt_98 : decode cX0_memberAt 98 = .ok (.aload_n 0, 1) := by decide +kernel
theorem dX0_memberAt_99 : decode cX0_memberAt 99 = .ok (.iload_n 1, 1) := by decide +kernel
theorem dX0_memberAt_100 : decode cX0_memberAt 100 = .ok (.iload_n 2, 1) := by decide +kernel
theorem dX0_memberAt_101 : decode cX0_memberAt 101 = .ok (.invokevirtual 267, 3) := by decide +kernel
theorem dX0_memberAt_104 : decode cX0_memberAt 104 = .ok (.istore 4, 2) := by decide +kernel
theorem dX0_memberAt_106 : decode cX0_memberAt 106 = .ok (.aload_n 0, 1) := by decide +kernel
theorem dX0_memberAt_107 : decode cX0_memberAt 107 = .ok (.iload_n 1, 1) := by decide +kernel
theorem dX0_memberAt_108 : decode cX0_memberAt 108 = .ok (.iload 4, 2) := by decide +kernel
theorem dX0_memberAt_110 : decode cX0_memberAt 110 = .ok (.iload_n 2, 1) := by decide +kernel
theorem dX0_memberAt_111 : decode cX0_memberAt 111 = .ok (.invokevirtual 270, 3) := by decide +kernel
theorem dX0_memberAt_114 : decode cX0_memberAt 114 = .ok (.iload 4, 2) := by decide +kernel
theorem dX0_memberAt_116 : decode cX0_memberAt 116 = .ok (.iconst 1, 1) := by decide +kernel
theorem dX0_memberAt_117 : decode cX0_memberAt 117 = .ok (.iadd, 1) := by decide +kernel
theorem dX0_memberAt_118 : decode cX0_memberAt 118 = .ok (.if_icmp .ne 24, 3) := by decide +kernel
theorem dX0_memberAt_121 : decode cX0_memberAt 121 = .ok (.aload_n 0, 1) := by decide +kernel
theorem dX0_memberAt_122 : decode cX0_memberAt 122 = .ok (.getfield 22, 3) := by decide +kernel
theorem dX0_memberAt_125 : decode cX0_memberAt 125 = .ok (.aload_n 0, 1) := by decide +kernel
theorem dX0_memberAt_126 : decode cX0_memberAt 126 = .ok (.getfield 22, 3) := by decide +kernel
theorem dX0_memberAt_129 : decode cX0_memberAt 129 = .ok (.iload_n 1, 1) := by decide +kernel
theorem dX0_memberAt_130 : decode cX0_memberAt 130 = .ok (.iload 4, 2) := by decide +kernel
theorem dX0_memberAt_132 : decode cX0_memberAt 132 = .ok (.invokevirtual 154, 3) := by decide +kernel
theorem dX0_memberAt_135 : decode cX0_memberAt 135 = .ok (.iconst 1, 1) := by decide +kernel
theorem dX0_memberAt_136 : decode cX0_memberAt 136 = .ok (.invokevirtual 154, 3) := by decide +kernel
theorem dX0_memberAt_139 : decode cX0_memberAt 139 = .ok (.goto 5, 3) := by decide +kernel
theorem dX0_memberAt_142 : decode cX0_memberAt 142 = .ok (.ldc 167, 2) := by decide +kernel
theorem dX0_memberAt_144 : decode cX0_memberAt 144 = .ok (.ireturn, 1) := by decide +kernel
theorem dX0_pair_0 : decode cX0_pair 0 = .ok (.aload_n 0, 1) := by decide +kernel
theorem dX0_pair_1 : decode cX0_pair 1 = .ok (.getfield 19, 3) := by decide +kernel
theorem dX0_pair_4 : decode cX0_pair 4 = .ok (.iconst 0, 1) := by decide +kernel
theorem dX0_pair_5 : decode cX0_pair 5 = .ok (.iload_n 1, 1) := by decide +kernel
theorem dX0_pair_6 : decode cX0_pair 6 = .ok (.iastore, 1) := by decide +kernel
theorem dX0_pair_7 : decode cX0_pair 7 = .ok (.aload_n 0, 1) := by decide +kernel
theorem dX0_pair_8 : decode cX0_pair 8 = .ok (.getfield 19, 3) := by decide +kernel
theorem dX0_pair_11 : decode cX0_pair 11 = .ok (.iconst 1, 1) := by decide +kernel
theorem dX0_pair_12 : decode cX0_pair 12 = .ok (.iload_n 2, 1) := by decide +kernel
theorem dX0_pair_13 : decode cX0_pair 13 = .ok (.iastore, 1) := by decide +kernel
theorem dX0_pair_14 : decode cX0_pair 14 = .ok (.aload_n 0, 1) := by decide +kernel
theorem dX0_pair_15 : decode cX0_pair 15 = .ok (.getfield 22, 3) := by decide +kernel
theorem dX0_pair_18 : decode cX0_pair 18 = .ok (.iconst 5, 1) := by decide +kernel
theorem dX0_pair_19 : decode cX0_pair 19 = .ok (.aload_n 0, 1) := by decide +kernel
theorem dX0_pair_20 : decode cX0_pair 20 = .ok (.getfield 19, 3) := by decide +kernel
theorem dX0_pair_23 : decode cX0_pair 23 = .ok (.iconst 0, 1) := by decide +kernel
theorem dX0_pair_24 : decode cX0_pair 24 = .ok (.iconst 2, 1) := by decide +kernel
theorem dX0_pair_25 : decode cX0_pair 25 = .ok (.invokevirtual 160, 3) := by decide +kernel
theorem dX0_pair_28 : decode cX0_pair 28 = .ok (.ireturn, 1) := by decide +kernel
theorem dX0_pairsFrom_0 : decode cX0_pairsFrom 0 = .ok (.iconst 0, 1) := by decide +kernel
theorem dX0_pairsFrom_1 : decode cX0_pairsFrom 1 = .ok (.istore_n 3, 1) := by decide +kernel
theorem dX0_pairsFrom_2 : decode cX0_pairsFrom 2 = .ok (.aload_n 0, 1) := by decide +kernel
theorem dX0_pairsFrom_3 : decode cX0_pairsFrom 3 = .ok (.getfield 22, 3) := by decide +kernel
theorem dX0_pairsFrom_6 : decode cX0_pairsFrom 6 = .ok (.iload_n 1, 1) := by decide +kernel
theorem dX0_pairsFrom_7 : decode cX0_pairsFrom 7 = .ok (.invokevirtual 100, 3) := by decide +kernel
theorem dX0_pairsFrom_10 : decode cX0_pairsFrom 10 = .ok (.istore 4, 2) := by decide +kernel
theorem dX0_pairsFrom_12 : decode cX0_pairsFrom 12 = .ok (.iconst 0, 1) := by decide +kernel
theorem dX0_pairsFrom_13 : decode cX0_pairsFrom 13 = .ok (.istore 5, 2) := by decide +kernel
theorem dX0_pairsFrom_15 : decode cX0_pairsFrom 15 = .ok (.iload 5, 2) := by decide +kernel
theorem dX0_pairsFrom_17 : decode cX0_pairsFrom 17 = .ok (.bipush 32, 2) := by decide +kernel
theorem dX0_pairsFrom_19 : decode cX0_pairsFrom 19 = .ok (.if_icmp .ge 64, 3) := by decide +kernel
theorem dX0_pairsFrom_22 : decode cX0_pairsFrom 22 = .ok (.iload_n 3, 1) := by decide +kernel
theorem dX0_pairsFrom_23 : decode cX0_pairsFrom 23 = .ok (.iload 4, 2) := by decide +kernel
theorem dX0_pairsFrom_25 : decode cX0_pairsFrom 25 = .ok (.if_icmp .ge 58, 3) := by decide +kernel
theorem dX0_pairsFrom_28 : decode cX0_pairsFrom 28 = .ok (.iload_n 3, 1) := by decide +kernel
theorem dX0_pairsFrom_29 : decode cX0_pairsFrom 29 = .ok (.iload 4, 2) := by decide +kernel
theorem dX0_pairsFrom_31 : decode cX0_pairsFrom 31 = .ok (.iadd, 1) := by decide +kernel
theorem dX0_pairsFrom_32 : decode cX0_pairsFrom 32 = .ok (.iconst 1, 1) := by decide +kernel
theorem dX0_pairsFrom_33 : decode cX0_pairsFrom 33 = .ok (.iushr, 1) := by decide +kernel
theorem dX0_pairsFrom_34 : decode cX0_pairsFrom 34 = .ok (.istore 6, 2) := by decide +kernel
theorem dX0_pairsFrom_36 : decode cX0_pairsFrom 36 = .ok (.aload_n 0, 1) := by decide +kernel
theorem dX0_pairsFrom_37 : decode cX0_pairsFrom 37 = .ok (.getfield 22, 3) := by decide +kernel
theorem dX0_pairsFrom_40 : decode cX0_pairsFrom 40 = .ok (.aload_n 0, 1) := by decide +kernel
theorem dX0_pairsFrom_41 : decode cX0_pairsFrom 41 = .ok (.getfield 22, 3) := by decide +kernel
theorem dX0_pairsFrom_44 : decode cX0_pairsFrom 44 = .ok (.aload_n 0, 1) := by decide +kernel
theorem dX0_pairsFrom_45 : decode cX0_pairsFrom 45 = .ok (.getfield 22, 3) := by decide +kernel
theorem dX0_pairsFrom_48 : decode cX0_pairsFrom 48 = .ok (.iload_n 1, 1) := by decide +kernel
theorem dX0_pairsFrom_49 : decode cX0_pairsFrom 49 = .ok (.iload 6, 2) := by decide +kernel
theorem dX0_pairsFrom_51 : decode cX0_pairsFrom 51 = .ok (.invokevirtual 154, 3) := by decide +kernel
theorem dX0_pairsFrom_54 : decode cX0_pairsFrom 54 = .ok (.iconst 0, 1) := by decide +kernel
theorem dX0_pairsFrom_55 : decode cX0_pairsFrom 55 = .ok (.invokevirtual 154, 3) := by decide +kernel
theorem dX0_pairsFrom_58 : decode cX0_pairsFrom 58 = .ok (.iload_n 2, 1) := by decide +kernel
theorem dX0_pairsFrom_59 : decode cX0_pairsFrom 59 = .ok (.invokevirtual 91, 3) := by decide +kernel
theorem dX0_pairsFrom_62 : decode cX0_pairsFrom 62 = .ok (.ifCond .ge 11, 3) := by decide +kernel
theorem dX0_pairsFrom_65 : decode cX0_pairsFrom 65 = .ok (.iload 6, 2) := by decide +kernel
theorem dX0_pairsFrom_67 : decode cX0_pairsFrom 67 = .ok (.iconst 1, 1) := by decide +kernel
theorem dX0_pairsFrom_68 : decode cX0_pairsFrom 68 = .ok (.iadd, 1) := by decide +kernel
theorem dX0_pairsFrom_69 : decode cX0_pairsFrom 69 = .ok (.istore_n 3, 1) := by decide +kernel
theorem dX0_pairsFrom_70 : decode cX0_pairsFrom 70 = .ok (.goto 7, 3) := by decide +kernel
theorem dX0_pairsFrom_73 : decode cX0_pairsFrom 73 = .ok (.iload 6, 2) := by decide +kernel
theorem dX0_pairsFrom_75 : decode cX0_pairsFrom 75 = .ok (.istore 4, 2) := by decide +kernel
theorem dX0_pairsFrom_77 : decode cX0_pairsFrom 77 = .ok (.iinc 5 1, 3) := by decide +kernel
theorem dX0_pairsFrom_80 : decode cX0_pairsFrom 80 = .ok (.goto (-65), 3) := by decide +kernel
theorem dX0_pairsFrom_83 : decode cX0_pairsFrom 83 = .ok (.iload_n 3, 1) := by decide +kernel
theorem dX0_pairsFrom_84 : decode cX0_pairsFrom 84 = .ok (.ireturn, 1) := by decide +kernel
theorem dX0_pairsTo_0 : decode cX0_pairsTo 0 = .ok (.iload_n 2, 1) := by decide +kernel
theorem dX0_pairsTo_1 : decode cX0_pairsTo 1 = .ok (.istore 4, 2) := by decide +kernel
theorem dX0_pairsTo_3 : decode cX0_pairsTo 3 = .ok (.iload_n 2, 1) := by decide +kernel
theorem dX0_pairsTo_4 : decode cX0_pairsTo 4 = .ok (.istore 5, 2) := by decide +kernel
theorem dX0_pairsTo_6 : decode cX0_pairsTo 6 = .ok (.iload 5, 2) := by decide +kernel
theorem dX0_pairsTo_8 : decode cX0_pairsTo 8 = .ok (.aload_n 0, 1) := by decide +kernel
theorem dX0_pairsTo_9 : decode cX0_pairsTo 9 = .ok (.getfield 22, 3) := by decide +kernel
theorem dX0_pairsTo_12 : decode cX0_pairsTo 12 = .ok (.iload_n 1, 1) := by decide +kernel
theorem dX0_pairsTo_13 : decode cX0_pairsTo 13 = .ok (.invokevirtual 100, 3) := by decide +kernel
theorem dX0_pairsTo_16 : decode cX0_pairsTo 16 = .ok (.if_icmp .ge 44, 3) := by decide +kernel
theorem dX0_pairsTo_19 : decode cX0_pairsTo 19 = .ok (.aload_n 0, 1) := by decide +kernel
theorem dX0_pairsTo_20 : decode cX0_pairsTo 20 = .ok (.getfield 22, 3) := by decide +kernel
theorem dX0_pairsTo_23 : decode cX0_pairsTo 23 = .ok (.aload_n 0, 1) := by decide +kernel
theorem dX0_pairsTo_24 : decode cX0_pairsTo 24 = .ok (.getfield 22, 3) := by decide +kernel
theorem dX0_pairsTo_27 : decode cX0_pairsTo 27 = .ok (.aload_n 0, 1) := by decide +kernel
theorem dX0_pairsTo_28 : decode cX0_pairsTo 28 = .ok (.getfield 22, 3) := by decide +kernel
theorem dX0_pairsTo_31 : decode cX0_pairsTo 31 = .ok (.iload_n 1, 1) := by decide +kernel
theorem dX0_pairsTo_32 : decode cX0_pairsTo 32 = .ok (.iload 5, 2) := by decide +kernel
theorem dX0_pairsTo_34 : decode cX0_pairsTo 34 = .ok (.invokevirtual 154, 3) := by decide +kernel
theorem dX0_pairsTo_37 : decode cX0_pairsTo 37 = .ok (.iconst 0, 1) := by decide +kernel
theorem dX0_pairsTo_38 : decode cX0_pairsTo 38 = .ok (.invokevirtual 154, 3) := by decide +kernel
theorem dX0_pairsTo_41 : decode cX0_pairsTo 41 = .ok (.iload_n 3, 1) := by decide +kernel
theorem dX0_pairsTo_42 : decode cX0_pairsTo 42 = .ok (.invokevirtual 91, 3) := by decide +kernel
theorem dX0_pairsTo_45 : decode cX0_pairsTo 45 = .ok (.ifCond .ne 15, 3) := by decide +kernel
theorem dX0_pairsTo_48 : decode cX0_pairsTo 48 = .ok (.iload 5, 2) := by decide +kernel
theorem dX0_pairsTo_50 : decode cX0_pairsTo 50 = .ok (.iconst 1, 1) := by decide +kernel
theorem dX0_pairsTo_51 : decode cX0_pairsTo 51 = .ok (.iadd, 1) := by decide +kernel
theorem dX0_pairsTo_52 : decode cX0_pairsTo 52 = .ok (.istore 4, 2) := by decide +kernel
theorem dX0_pairsTo_54 : decode cX0_pairsTo 54 = .ok (.iinc 5 1, 3) := by decide +kernel
theorem dX0_pairsTo_57 : decode cX0_pairsTo 57 = .ok (.goto (-51), 3) := by decide +kernel
theorem dX0_pairsTo_60 : decode cX0_pairsTo 60 = .ok (.iload 4, 2) := by decide +kernel
theorem dX0_pairsTo_62 : decode cX0_pairsTo 62 = .ok (.ireturn, 1) := by decide +kernel
theorem dX0_part_0 : decode cX0_part 0 = .ok (.iload_n 1, 1) := by decide +kernel
theorem dX0_part_1 : decode cX0_part 1 = .ok (.lookupswitch 43 #[(96, 27), (97, 34)], 27) := by decide +kernel
theorem dX0_part_28 : decode cX0_part 28 = .ok (.aload_n 0, 1) := by decide +kernel
theorem dX0_part_29 : decode cX0_part 29 = .ok (.iload_n 2, 1) := by decide +kernel
theorem dX0_part_30 : decode cX0_part 30 = .ok (.iload_n 3, 1) := by decide +kernel
theorem dX0_part_31 : decode cX0_part 31 = .ok (.invokevirtual 255, 3) := by decide +kernel
theorem dX0_part_34 : decode cX0_part 34 = .ok (.ireturn, 1) := by decide +kernel
theorem dX0_part_35 : decode cX0_part 35 = .ok (.aload_n 0, 1) := by decide +kernel
theorem dX0_part_36 : decode cX0_part 36 = .ok (.iload_n 2, 1) := by decide +kernel
theorem dX0_part_37 : decode cX0_part 37 = .ok (.iload_n 3, 1) := by decide +kernel
theorem dX0_part_38 : decode cX0_part 38 = .ok (.iload 4, 2) := by decide +kernel
theorem dX0_part_40 : decode cX0_part 40 = .ok (.invokevirtual 258, 3) := by decide +kernel
theorem dX0_part_43 : decode cX0_part 43 = .ok (.ireturn, 1) := by decide +kernel
theorem dX0_part_44 : decode cX0_part 44 = .ok (.aload_n 0, 1) := by decide +kernel
theorem dX0_part_45 : decode cX0_part 45 = .ok (.getfield 22, 3) := by decide +kernel
theorem dX0_part_48 : decode cX0_part 48 = .ok (.iload_n 2, 1) := by decide +kernel
theorem dX0_part_49 : decode cX0_part 49 = .ok (.invokevirtual 191, 3) := by decide +kernel
theorem dX0_part_52 : decode cX0_part 52 = .ok (.ifCond .eq 12, 3) := by decide +kernel
theorem dX0_part_55 : decode cX0_part 55 = .ok (.aload_n 0, 1) := by decide +kernel
theorem dX0_part_56 : decode cX0_part 56 = .ok (.iload_n 2, 1) := by decide +kernel
theorem dX0_part_57 : decode cX0_part 57 = .ok (.iload_n 3, 1) := by decide +kernel
theorem dX0_part_58 : decode cX0_part 58 = .ok (.invokevirtual 261, 3) := by decide +kernel
theorem dX0_part_61 : decode cX0_part 61 = .ok (.goto 5, 3) := by decide +kernel
theorem dX0_part_64 : decode cX0_part 64 = .ok (.ldc 56, 2) := by decide +kernel
theorem dX0_part_66 : decode cX0_part 66 = .ok (.ireturn, 1) := by decide +kernel
theorem dX0_placeOf_0 : decode cX0_placeOf 0 = .ok (.iload_n 2, 1) := by decide +kernel
theorem dX0_placeOf_1 : decode cX0_placeOf 1 = .ok (.istore 4, 2) := by decide +kernel
theorem dX0_placeOf_3 : decode cX0_placeOf 3 = .ok (.aload_n 0, 1) := by decide +kernel
theorem dX0_placeOf_4 : decode cX0_placeOf 4 = .ok (.getfield 22, 3) := by decide +kernel
theorem dX0_placeOf_7 : decode cX0_placeOf 7 = .ok (.iload_n 1, 1) := by decide +kernel
theorem dX0_placeOf_8 : decode cX0_placeOf 8 = .ok (.invokevirtual 100, 3) := by decide +kernel
theorem dX0_placeOf_11 : decode cX0_placeOf 11 = .ok (.istore 5, 2) := by decide +kernel
theorem dX0_placeOf_13 : decode cX0_placeOf 13 = .ok (.iconst 0, 1) := by decide +kernel
theorem dX0_placeOf_14 : decode cX0_placeOf 14 = .ok (.istore 6, 2) := by decide +kernel
theorem dX0_placeOf_16 : decode cX0_placeOf 16 = .ok (.iload 6, 2) := by decide +kernel
theorem dX0_placeOf_18 : decode cX0_placeOf 18 = .ok (.bipush 32, 2) := by decide +kernel
theorem dX0_placeOf_20 : decode cX0_placeOf 20 = .ok (.if_icmp .ge 59, 3) := by decide +kernel
theorem dX0_placeOf_23 : decode cX0_placeOf 23 = .ok (.iload 4, 2) := by decide +kernel
theorem dX0_placeOf_25 : decode cX0_placeOf 25 = .ok (.iload 5, 2) := by decide +kernel
theorem dX0_placeOf_27 : decode cX0_placeOf 27 = .ok (.if_icmp .ge 52, 3) := by decide +kernel
theorem dX0_placeOf_30 : decode cX0_placeOf 30 = .ok (.iload 4, 2) := by decide +kernel
theorem dX0_placeOf_32 : decode cX0_placeOf 32 = .ok (.iload 5, 2) := by decide +kernel
theorem dX0_placeOf_34 : decode cX0_placeOf 34 = .ok (.iadd, 1) := by decide +kernel
theorem dX0_placeOf_35 : decode cX0_placeOf 35 = .ok (.iconst 1, 1) := by decide +kernel
theorem dX0_placeOf_36 : decode cX0_placeOf 36 = .ok (.iushr, 1) := by decide +kernel
theorem dX0_placeOf_37 : decode cX0_placeOf 37 = .ok (.istore 7, 2) := by decide +kernel
theorem dX0_placeOf_39 : decode cX0_placeOf 39 = .ok (.aload_n 0, 1) := by decide +kernel
theorem dX0_placeOf_40 : decode cX0_placeOf 40 = .ok (.getfield 22, 3) := by decide +kernel
theorem dX0_placeOf_43 : decode cX0_placeOf 43 = .ok (.aload_n 0, 1) := by decide +kernel
theorem dX0_placeOf_44 : decode cX0_placeOf 44 = .ok (.getfield 22, 3) := by decide +kernel
theorem dX0_placeOf_47 : decode cX0_placeOf 47 = .ok (.iload_n 1, 1) := by decide +kernel
theorem dX0_placeOf_48 : decode cX0_placeOf 48 = .ok (.iload 7, 2) := by decide +kernel
theorem dX0_placeOf_50 : decode cX0_placeOf 50 = .ok (.invokevirtual 154, 3) := by decide +kernel
theorem dX0_placeOf_53 : decode cX0_placeOf 53 = .ok (.iload_n 3, 1) := by decide +kernel
theorem dX0_placeOf_54 : decode cX0_placeOf 54 = .ok (.invokevirtual 91, 3) := by decide +kernel
theorem dX0_placeOf_57 : decode cX0_placeOf 57 = .ok (.ifCond .ge 12, 3) := by decide +kernel
theorem dX0_placeOf_60 : decode cX0_placeOf 60 = .ok (.iload 7, 2) := by decide +kernel
theorem dX0_placeOf_62 : decode cX0_placeOf 62 = .ok (.iconst 1, 1) := by decide +kernel
theorem dX0_placeOf_63 : decode cX0_placeOf 63 = .ok (.iadd, 1) := by decide +kernel
theorem dX0_placeOf_64 : decode cX0_placeOf 64 = .ok (.istore 4, 2) := by decide +kernel
theorem dX0_placeOf_66 : decode cX0_placeOf 66 = .ok (.goto 7, 3) := by decide +kernel
theorem dX0_placeOf_69 : decode cX0_placeOf 69 = .ok (.iload 7, 2) := by decide +kernel
theorem dX0_placeOf_71 : decode cX0_placeOf 71 = .ok (.istore 5, 2) := by decide +kernel
theorem dX0_placeOf_73 : decode cX0_placeOf 73 = .ok (.iinc 6 1, 3) := by decide +kernel
theorem dX0_placeOf_76 : decode cX0_placeOf 76 = .ok (.goto (-60), 3) := by decide +kernel
theorem dX0_placeOf_79 : decode cX0_placeOf 79 = .ok (.iload 4, 2) := by decide +kernel
theorem dX0_placeOf_81 : decode cX0_placeOf 81 = .ok (.ireturn, 1) := by decide +kernel
theorem dX0_product_0 : decode cX0_product 0 = .ok (.aload_n 0, 1) := by decide +kernel
theorem dX0_product_1 : decode cX0_product 1 = .ok (.iload_n 1, 1) := by decide +kernel
theorem dX0_product_2 : decode cX0_product 2 = .ok (.iload_n 2, 1) := by decide +kernel
theorem dX0_product_3 : decode cX0_product 3 = .ok (.invokevirtual 44, 3) := by decide +kernel
theorem dX0_product_6 : decode cX0_product 6 = .ok (.ifCond .eq 13, 3) := by decide +kernel
theorem dX0_product_9 : decode cX0_product 9 = .ok (.aload_n 0, 1) := by decide +kernel
theorem dX0_product_10 : decode cX0_product 10 = .ok (.getfield 26, 3) := by decide +kernel
theorem dX0_product_13 : decode cX0_product 13 = .ok (.iload_n 1, 1) := by decide +kernel
theorem dX0_product_14 : decode cX0_product 14 = .ok (.iload_n 2, 1) := by decide +kernel
theorem dX0_product_15 : decode cX0_product 15 = .ok (.invokevirtual 128, 3) := by decide +kernel
theorem dX0_product_18 : decode cX0_product 18 = .ok (.ireturn, 1) := by decide +kernel
theorem dX0_product_19 : decode cX0_product 19 = .ok (.aload_n 0, 1) := by decide +kernel
theorem dX0_product_20 : decode cX0_product 20 = .ok (.iload_n 1, 1) := by decide +kernel
theorem dX0_product_21 : decode cX0_product 21 = .ok (.iload_n 2, 1) := by decide +kernel
theorem dX0_product_22 : decode cX0_product 22 = .ok (.invokevirtual 77, 3) := by decide +kernel
theorem dX0_product_25 : decode cX0_product 25 = .ok (.ifCond .eq 40, 3) := by decide +kernel
theorem dX0_product_28 : decode cX0_product 28 = .ok (.aload_n 0, 1) := by decide +kernel
theorem dX0_product_29 : decode cX0_product 29 = .ok (.getfield 22, 3) := by decide +kernel
theorem dX0_product_32 : decode cX0_product 32 = .ok (.iload_n 1, 1) := by decide +kernel
theorem dX0_product_33 : decode cX0_product 33 = .ok (.invokevirtual 100, 3) := by decide +kernel
theorem dX0_product_36 : decode cX0_product 36 = .ok (.aload_n 0, 1) := by decide +kernel
theorem dX0_product_37 : decode cX0_product 37 = .ok (.getfield 22, 3) := by decide +kernel
theorem dX0_product_40 : decode cX0_product 40 = .ok (.iload_n 2, 1) := by decide +kernel
theorem dX0_product_41 : decode cX0_product 41 = .ok (.invokevirtual 100, 3) := by decide +kernel
theorem dX0_product_44 : decode cX0_product 44 = .ok (.if_icmp .ge 13, 3) := by decide +kernel
theorem dX0_product_47 : decode cX0_product 47 = .ok (.aload_n 0, 1) := by decide +kernel
theorem dX0_product_48 : decode cX0_product 48 = .ok (.iload_n 1, 1) := by decide +kernel
theorem dX0_product_49 : decode cX0_product 49 = .ok (.iload_n 2, 1) := by decide +kernel
theorem dX0_product_50 : decode cX0_product 50 = .ok (.iconst 1, 1) := by decide +kernel
theorem dX0_product_51 : decode cX0_product 51 = .ok (.invokevirtual 122, 3) := by decide +kernel
theorem dX0_product_54 : decode cX0_product 54 = .ok (.goto 10, 3) := by decide +kernel
theorem dX0_product_57 : decode cX0_product 57 = .ok (.aload_n 0, 1) := by decide +kernel
theorem dX0_product_58 : decode cX0_product 58 = .ok (.iload_n 2, 1) := by decide +kernel
theorem dX0_product_59 : decode cX0_product 59 = .ok (.iload_n 1, 1) := by decide +kernel
theorem dX0_product_60 : decode cX0_product 60 = .ok (.iconst 1, 1) := by decide +kernel
theorem dX0_product_61 : decode cX0_product 61 = .ok (.invokevirtual 122, 3) := by decide +kernel
theorem dX0_product_64 : decode cX0_product 64 = .ok (.ireturn, 1) := by decide +kernel
theorem dX0_product_65 : decode cX0_product 65 = .ok (.aload_n 0, 1) := by decide +kernel
theorem dX0_product_66 : decode cX0_product 66 = .ok (.getfield 22, 3) := by decide +kernel
theorem dX0_product_69 : decode cX0_product 69 = .ok (.iload_n 1, 1) := by decide +kernel
theorem dX0_product_70 : decode cX0_product 70 = .ok (.invokevirtual 87, 3) := by decide +kernel
theorem dX0_product_73 : decode cX0_product 73 = .ok (.istore_n 3, 1) := by decide +kernel
theorem dX0_product_74 : decode cX0_product 74 = .ok (.aload_n 0, 1) := by decide +kernel
theorem dX0_product_75 : decode cX0_product 75 = .ok (.getfield 22, 3) := by decide +kernel
theorem dX0_product_78 : decode cX0_product 78 = .ok (.iload_n 2, 1) := by decide +kernel
theorem dX0_product_79 : decode cX0_product 79 = .ok (.invokevirtual 87, 3) := by decide +kernel
theorem dX0_product_82 : decode cX0_product 82 = .ok (.iconst 2, 1) := by decide +kernel
theorem dX0_product_83 : decode cX0_product 83 = .ok (.if_icmp .ne 13, 3) := by decide +kernel
theorem dX0_product_86 : decode cX0_product 86 = .ok (.iload_n 3, 1) := by decide +kernel
theorem dX0_product_87 : decode cX0_product 87 = .ok (.iconst 4, 1) := by decide +kernel
theorem dX0_product_88 : decode cX0_product 88 = .ok (.if_icmp .eq 11, 3) := by decide +kernel
theorem dX0_product_91 : decode cX0_product 91 = .ok (.iload_n 3, 1) := by decide +kernel
theorem dX0_product_92 : decode cX0_product 92 = .ok (.iconst 5, 1) := by decide +kernel
theorem dX0_product_93 : decode cX0_product 93 = .ok (.if_icmp .eq 6, 3) := by decide +kernel
theorem dX0_product_96 : decode cX0_product 96 = .ok (.ldc 56, 2) := by decide +kernel
theorem dX0_product_98 : decode cX0_product 98 = .ok (.ireturn, 1) := by decide +kernel
theorem dX0_product_99 : decode cX0_product 99 = .ok (.aload_n 0, 1) := by decide +kernel
theorem dX0_product_100 : decode cX0_product 100 = .ok (.getfield 26, 3) := by decide +kernel
theorem dX0_product_103 : decode cX0_product 103 = .ok (.iload_n 2, 1) := by decide +kernel
theorem dX0_product_104 : decode cX0_product 104 = .ok (.invokevirtual 129, 3) := by decide +kernel
theorem dX0_product_107 : decode cX0_product 107 = .ok (.ifCond .eq 8, 3) := by decide +kernel
theorem dX0_product_110 : decode cX0_product 110 = .ok (.ldc 132, 2) := by decide +kernel
theorem dX0_product_112 : decode cX0_product 112 = .ok (.goto 17, 3) := by decide +kernel
theorem dX0_product_115 : decode cX0_product 115 = .ok (.aload_n 0, 1) := by decide +kernel
theorem dX0_product_116 : decode cX0_product 116 = .ok (.iload_n 1, 1) := by decide +kernel
theorem dX0_product_117 : decode cX0_product 117 = .ok (.iload_n 3, 1) := by decide +kernel
theorem dX0_product_118 : decode cX0_product 118 = .ok (.aload_n 0, 1) := by decide +kernel
theorem dX0_product_119 : decode cX0_product 119 = .ok (.getfield 26, 3) := by decide +kernel
theorem dX0_product_122 : decode cX0_product 122 = .ok (.iload_n 2, 1) := by decide +kernel
theorem dX0_product_123 : decode cX0_product 123 = .ok (.invokevirtual 133, 3) := by decide +kernel
theorem dX0_product_126 : decode cX0_product 126 = .ok (.invokevirtual 136, 3) := by decide +kernel
theorem dX0_product_129 : decode cX0_product 129 = .ok (.ireturn, 1) := by decide +kernel
theorem dX0_progression_0 : decode cX0_progression 0 = .ok (.aload_n 0, 1) := by decide +kernel
theorem dX0_progression_1 : decode cX0_progression 1 = .ok (.iload_n 1, 1) := by decide +kernel
theorem dX0_progression_2 : decode cX0_progression 2 = .ok (.iload_n 3, 1) := by decide +kernel
theorem dX0_progression_3 : decode cX0_progression 3 = .ok (.invokevirtual 44, 3) := by decide +kernel
theorem dX0_progression_6 : decode cX0_progression 6 = .ok (.ifCond .eq 21, 3) := by decide +kernel
theorem dX0_progression_9 : decode cX0_progression 9 = .ok (.iload_n 2, 1) := by decide +kernel
theorem dX0_progression_10 : decode cX0_progression 10 = .ok (.ldc 167, 2) := by decide +kernel
theorem dX0_progression_12 : decode cX0_progression 12 = .ok (.if_icmp .eq 18, 3) := by decide +kernel
theorem dX0_progression_15 : decode cX0_progression 15 = .ok (.aload_n 0, 1) := by decide +kernel
theorem dX0_progression_16 : decode cX0_progression 16 = .ok (.getfield 22, 3) := by decide +kernel
theorem dX0_progression_19 : decode cX0_progression 19 = .ok (.iload_n 2, 1) := by decide +kernel
theorem dX0_progression_20 : decode cX0_progression 20 = .ok (.invokevirtual 87, 3) := by decide +kernel
theorem dX0_progression_23 : decode cX0_progression 23 = .ok (.iconst 2, 1) := by decide +kernel
theorem dX0_progression_24 : decode cX0_progression 24 = .ok (.if_icmp .eq 6, 3) := by decide +kernel
theorem dX0_progression_27 : decode cX0_progression 27 = .ok (.ldc 56, 2) := by decide +kernel
theorem dX0_progression_29 : decode cX0_progression 29 = .ok (.ireturn, 1) := by decide +kernel
theorem dX0_progression_30 : decode cX0_progression 30 = .ok (.iload_n 2, 1) := by decide +kernel
theorem dX0_progression_31 : decode cX0_progression 31 = .ok (.ldc 167, 2) := by decide +kernel
theorem dX0_progression_33 : decode cX0_progression 33 = .ok (.if_icmp .ne 17, 3) := by decide +kernel
theorem dX0_progression_36 : decode cX0_progression 36 = .ok (.aload_n 0, 1) := by decide +kernel
theorem dX0_progression_37 : decode cX0_progression 37 = .ok (.getfield 26, 3) := by decide +kernel
theorem dX0_progression_40 : decode cX0_progression 40 = .ok (.iload_n 1, 1) := by decide +kernel
theorem dX0_progression_41 : decode cX0_progression 41 = .ok (.ldc 248, 2) := by decide +kernel
theorem dX0_progression_43 : decode cX0_progression 43 = .ok (.iconst 0, 1) := by decide +kernel
theorem dX0_progression_44 : decode cX0_progression 44 = .ok (.invokevirtual 94, 3) := by decide +kernel
theorem dX0_progression_47 : decode cX0_progression 47 = .ok (.goto 4, 3) := by decide +kernel
theorem dX0_progression_50 : decode cX0_progression 50 = .ok (.iload_n 2, 1) := by decide +kernel
theorem dX0_progression_51 : decode cX0_progression 51 = .ok (.istore 5, 2) := by decide +kernel
theorem dX0_progression_53 : decode cX0_progression 53 = .ok (.iload 5, 2) := by decide +kernel
theorem dX0_progression_55 : decode cX0_progression 55 = .ok (.invokestatic 72, 3) := by decide +kernel
theorem dX0_progression_58 : decode cX0_progression 58 = .ok (.ifCond .eq 7, 3) := by decide +kernel
theorem dX0_progression_61 : decode cX0_progression 61 = .ok (.iconst 1, 1) := by decide +kernel
theorem dX0_progression_62 : decode cX0_progression 62 = .ok (.goto 13, 3) := by decide +kernel
theorem dX0_progression_65 : decode cX0_progression 65 = .ok (.aload_n 0, 1) := by decide +kernel
theorem dX0_progression_66 : decode cX0_progression 66 = .ok (.getfield 22, 3) := by decide +kernel
theorem dX0_progression_69 : decode cX0_progression 69 = .ok (.iload 5, 2) := by decide +kernel
theorem dX0_progression_71 : decode cX0_progression 71 = .ok (.iload_n 1, 1) := by decide +kernel
theorem dX0_progression_72 : decode cX0_progression 72 = .ok (.invokevirtual 91, 3) := by decide +kernel
theorem dX0_progression_75 : decode cX0_progression 75 = .ok (.istore 6, 2) := by decide +kernel
theorem dX0_progression_77 : decode cX0_progression 77 = .ok (.iload 5, 2) := by decide +kernel
theorem dX0_progression_79 : decode cX0_progression 79 = .ok (.invokestatic 72, 3) := by decide +kernel
theorem dX0_progression_82 : decode cX0_progression 82 = .ok (.ifCond .eq 8, 3) := by decide +kernel
theorem dX0_progression_85 : decode cX0_progression 85 = .ok (.iload 5, 2) := by decide +kernel
theorem dX0_progression_87 : decode cX0_progression 87 = .ok (.goto 14, 3) := by decide +kernel
theorem dX0_progression_90 : decode cX0_progression 90 = .ok (.aload_n 0, 1) := by decide +kernel
theorem dX0_progression_91 : decode cX0_progression 91 = .ok (.getfield 26, 3) := by decide +kernel
theorem dX0_progression_94 : decode cX0_progression 94 = .ok (.iload 5, 2) := by decide +kernel
theorem dX0_progression_96 : decode cX0_progression 96 = .ok (.iload_n 1, 1) := by decide +kernel
theorem dX0_progression_97 : decode cX0_progression 97 = .ok (.iconst 1, 1) := by decide +kernel
theorem dX0_progression_98 : decode cX0_progression 98 = .ok (.invokevirtual 94, 3) := by decide +kernel
theorem dX0_progression_101 : decode cX0_progression 101 = .ok (.istore 7, 2) := by decide +kernel
theorem dX0_progression_103 : decode cX0_progression 103 = .ok (.iconst 0, 1) := by decide +kernel
theorem dX0_progression_104 : decode cX0_progression 104 = .ok (.istore 8, 2) := by decide +kernel
theorem dX0_progression_106 : decode cX0_progression 106 = .ok (.iconst 1, 1) := by decide +kernel
theorem dX0_progression_107 : decode cX0_progression 107 = .ok (.istore 9, 2) := by decide +kernel
theorem dX0_progression_109 : decode cX0_progression 109 = .ok (.iload_n 1, 1) := by decide +kernel
theorem dX0_progression_110 : decode cX0_progression 110 = .ok (.ifCond .ge 42, 3) := by decide +kernel
theorem dX0_progression_113 : decode cX0_progression 113 = .ok (.iload_n 3, 1) := by decide +kernel
theorem dX0_progression_114 : decode cX0_progression 114 = .ok (.ifCond .ge 38, 3) := by decide +kernel
theorem dX0_progression_117 : decode cX0_progression 117 = .ok (.iload 5, 2) := by decide +kernel
theorem dX0_progression_119 : decode cX0_progression 119 = .ok (.ifCond .ge 33, 3) := by decide +kernel
theorem dX0_progression_122 : decode cX0_progression 122 = .ok (.iload 5, 2) := by decide +kernel
theorem dX0_progression_124 : decode cX0_progression 124 = .ok (.invokestatic 72, 3) := by decide +kernel
theorem dX0_progression_127 : decode cX0_progression 127 = .ok (.ifCond .ne 25, 3) := by decide +kernel
theorem dX0_progression_130 : decode cX0_progression 130 = .ok (.aload_n 0, 1) := by decide +kernel
theorem dX0_progression_131 : decode cX0_progression 131 = .ok (.iload_n 1, 1) := by decide +kernel
theorem dX0_progression_132 : decode cX0_progression 132 = .ok (.invokestatic 249, 3) := by decide +kernel
theorem dX0_progression_135 : decode cX0_progression 135 = .ok (.iload 5, 2) := by decide +kernel
theorem dX0_progression_137 : decode cX0_progression 137 = .ok (.invokestatic 249, 3) := by decide +kernel
theorem dX0_progression_140 : decode cX0_progression 140 = .ok (.iload_n 3, 1) := by decide +kernel
theorem dX0_progression_141 : decode cX0_progression 141 = .ok (.invokestatic 249, 3) := by decide +kernel
theorem dX0_progression_144 : decode cX0_progression 144 = .ok (.invokevirtual 252, 3) := by decide +kernel
theorem dX0_progression_147 : decode cX0_progression 147 = .ok (.istore 8, 2) := by decide +kernel
theorem dX0_progression_149 : decode cX0_progression 149 = .ok (.goto 123, 3) := by decide +kernel
theorem dX0_progression_152 : decode cX0_progression 152 = .ok (.iload_n 1, 1) := by decide +kernel
theorem dX0_progression_153 : decode cX0_progression 153 = .ok (.istore 10, 2) := by decide +kernel
theorem dX0_progression_155 : decode cX0_progression 155 = .ok (.iconst 0, 1) := by decide +kernel
theorem dX0_progression_156 : decode cX0_progression 156 = .ok (.istore 11, 2) := by decide +kernel
theorem dX0_progression_158 : decode cX0_progression 158 = .ok (.iload 11, 2) := by decide +kernel
theorem dX0_progression_160 : decode cX0_progression 160 = .ok (.sipush 1000, 3) := by decide +kernel
theorem dX0_progression_163 : decode cX0_progression 163 = .ok (.if_icmp .gt 109, 3) := by decide +kernel
theorem dX0_progression_166 : decode cX0_progression 166 = .ok (.iload 9, 2) := by decide +kernel
theorem dX0_progression_168 : decode cX0_progression 168 = .ok (.sipush 1000, 3) := by decide +kernel
theorem dX0_progression_171 : decode cX0_progression 171 = .ok (.if_icmp .gt 101, 3) := by decide +kernel
theorem dX0_progression_174 : decode cX0_progression 174 = .ok (.iload 6, 2) := by decide +kernel
theorem dX0_progression_176 : decode cX0_progression 176 = .ok (.ifCond .eq 96, 3) := by decide +kernel
theorem dX0_progression_179 : decode cX0_progression 179 = .ok (.iload 10, 2) := by decide +kernel
theorem dX0_progression_181 : decode cX0_progression 181 = .ok (.invokestatic 72, 3) := by decide +kernel
theorem dX0_progression_184 : decode cX0_progression 184 = .ok (.ifCond .ne 88, 3) := by decide +kernel
theorem dX0_progression_187 : decode cX0_progression 187 = .ok (.aload_n 0, 1) := by decide +kernel
theorem dX0_progression_188 : decode cX0_progression 188 = .ok (.getfield 22, 3) := by decide +kernel
theorem dX0_progression_191 : decode cX0_progression 191 = .ok (.iload 10, 2) := by decide +kernel
theorem dX0_progression_193 : decode cX0_progression 193 = .ok (.iload_n 3, 1) := by decide +kernel
theorem dX0_progression_194 : decode cX0_progression 194 = .ok (.invokevirtual 91, 3) := by decide +kernel
theorem dX0_progression_197 : decode cX0_progression 197 = .ok (.iload 6, 2) := by decide +kernel
theorem dX0_progression_199 : decode cX0_progression 199 = .ok (.imul, 1) := by decide +kernel
theorem dX0_progression_200 : decode cX0_progression 200 = .ok (.ifCond .gt 72, 3) := by decide +kernel
theorem dX0_progression_203 : decode cX0_progression 203 = .ok (.iload 9, 2) := by decide +kernel
theorem dX0_progression_205 : decode cX0_progression 205 = .ok (.aload_n 0, 1) := by decide +kernel
theorem dX0_progression_206 : decode cX0_progression 206 = .ok (.getfield 22, 3) := by decide +kernel
theorem dX0_progression_209 : decode cX0_progression 209 = .ok (.iload 10, 2) := by decide +kernel
theorem dX0_progression_211 : decode cX0_progression 211 = .ok (.invokevirtual 179, 3) := by decide +kernel
theorem dX0_progression_214 : decode cX0_progression 214 = .ok (.iadd, 1) := by decide +kernel
theorem dX0_progression_215 : decode cX0_progression 215 = .ok (.istore 9, 2) := by decide +kernel
theorem dX0_progression_217 : decode cX0_progression 217 = .ok (.aload_n 0, 1) := by decide +kernel
theorem dX0_progression_218 : decode cX0_progression 218 = .ok (.getfield 15, 3) := by decide +kernel
theorem dX0_progression_221 : decode cX0_progression 221 = .ok (.iload 8, 2) := by decide +kernel
theorem dX0_progression_223 : decode cX0_progression 223 = .ok (.iload 10, 2) := by decide +kernel
theorem dX0_progression_225 : decode cX0_progression 225 = .ok (.iastore, 1) := by decide +kernel
theorem dX0_progression_226 : decode cX0_progression 226 = .ok (.iinc 8 1, 3) := by decide +kernel
theorem dX0_progression_229 : decode cX0_progression 229 = .ok (.iload 11, 2) := by decide +kernel
theorem dX0_progression_231 : decode cX0_progression 231 = .ok (.ifCond .ne 8, 3) := by decide +kernel
theorem dX0_progression_234 : decode cX0_progression 234 = .ok (.iload 5, 2) := by decide +kernel
theorem dX0_progression_236 : decode cX0_progression 236 = .ok (.goto 28, 3) := by decide +kernel
theorem dX0_progression_239 : decode cX0_progression 239 = .ok (.iload 7, 2) := by decide +kernel
theorem dX0_progression_241 : decode cX0_progression 241 = .ok (.invokestatic 72, 3) := by decide +kernel
theorem dX0_progression_244 : decode cX0_progression 244 = .ok (.ifCond .eq 8, 3) := by decide +kernel
theorem dX0_progression_247 : decode cX0_progression 247 = .ok (.iload 7, 2) := by decide +kernel
theorem dX0_progression_249 : decode cX0_progression 249 = .ok (.goto 15, 3) := by decide +kernel
theorem dX0_progression_252 : decode cX0_progression 252 = .ok (.aload_n 0, 1) := by decide +kernel
theorem dX0_progression_253 : decode cX0_progression 253 = .ok (.getfield 26, 3) := by decide +kernel
theorem dX0_progression_256 : decode cX0_progression 256 = .ok (.iload 10, 2) := by decide +kernel
theorem dX0_progression_258 : decode cX0_progression 258 = .ok (.iload 7, 2) := by decide +kernel
theorem dX0_progression_260 : decode cX0_progression 260 = .ok (.iconst 0, 1) := by decide +kernel
theorem dX0_progression_261 : decode cX0_progression 261 = .ok (.invokevirtual 94, 3) := by decide +kernel
theorem dX0_progression_264 : decode cX0_progression 264 = .ok (.istore 10, 2) := by decide +kernel
theorem dX0_progression_266 : decode cX0_progression 266 = .ok (.iinc 11 1, 3) := by decide +kernel
theorem dX0_progression_269 : decode cX0_progression 269 = .ok (.goto (-111), 3) := by decide +kernel
theorem dX0_progression_272 : decode cX0_progression 272 = .ok (.iload 9, 2) := by decide +kernel
theorem dX0_progression_274 : decode cX0_progression 274 = .ok (.sipush 1000, 3) := by decide +kernel
theorem dX0_progression_277 : decode cX0_progression 277 = .ok (.if_icmp .le 6, 3) := by decide +kernel
theorem dX0_progression_280 : decode cX0_progression 280 = .ok (.ldc 139, 2) := by decide +kernel
theorem dX0_progression_282 : decode cX0_progression 282 = .ok (.ireturn, 1) := by decide +kernel
theorem dX0_progression_283 : decode cX0_progression 283 = .ok (.iload 4, 2) := by decide +kernel
theorem dX0_progression_285 : decode cX0_progression 285 = .ok (.ifCond .ne 18, 3) := by decide +kernel
theorem dX0_progression_288 : decode cX0_progression 288 = .ok (.aload_n 0, 1) := by decide +kernel
theorem dX0_progression_289 : decode cX0_progression 289 = .ok (.getfield 22, 3) := by decide +kernel
theorem dX0_progression_292 : decode cX0_progression 292 = .ok (.aload_n 0, 1) := by decide +kernel
theorem dX0_progression_293 : decode cX0_progression 293 = .ok (.getfield 15, 3) := by decide +kernel
theorem dX0_progression_296 : decode cX0_progression 296 = .ok (.iconst 0, 1) := by decide +kernel
theorem dX0_progression_297 : decode cX0_progression 297 = .ok (.iload 8, 2) := by decide +kernel
theorem dX0_progression_299 : decode cX0_progression 299 = .ok (.invokevirtual 107, 3) := by decide +kernel
theorem dX0_progression_302 : decode cX0_progression 302 = .ok (.ireturn, 1) := by decide +kernel
theorem dX0_progression_303 : decode cX0_progression 303 = .ok (.iconst 0, 1) := by decide +kernel
theorem dX0_progression_304 : decode cX0_progression 304 = .ok (.istore 10, 2) := by decide +kernel
theorem dX0_progression_306 : decode cX0_progression 306 = .ok (.iload 6, 2) := by decide +kernel
theorem dX0_progression_308 : decode cX0_progression 308 = .ok (.ifCond .ge 60, 3) := by decide +kernel
theorem dX0_progression_311 : decode cX0_progression 311 = .ok (.iload 10, 2) := by decide +kernel
theorem dX0_progression_313 : decode cX0_progression 313 = .ok (.iload 8, 2) := by decide +kernel
theorem dX0_progression_315 : decode cX0_progression 315 = .ok (.iconst 2, 1) := by decide +kernel
theorem dX0_progression_316 : decode cX0_progression 316 = .ok (.idiv, 1) := by decide +kernel
theorem dX0_progression_317 : decode cX0_progression 317 = .ok (.if_icmp .ge 51, 3) := by decide +kernel
theorem dX0_progression_320 : decode cX0_progression 320 = .ok (.aload_n 0, 1) := by decide +kernel
theorem dX0_progression_321 : decode cX0_progression 321 = .ok (.getfield 15, 3) := by decide +kernel
theorem dX0_progression_324 : decode cX0_progression 324 = .ok (.iload 10, 2) := by decide +kernel
theorem dX0_progression_326 : decode cX0_progression 326 = .ok (.iaload, 1) := by decide +kernel
theorem dX0_progression_327 : decode cX0_progression 327 = .ok (.istore 11, 2) := by decide +kernel
theorem dX0_progression_329 : decode cX0_progression 329 = .ok (.aload_n 0, 1) := by decide +kernel
theorem dX0_progression_330 : decode cX0_progression 330 = .ok (.getfield 15, 3) := by decide +kernel
theorem dX0_progression_333 : decode cX0_progression 333 = .ok (.iload 10, 2) := by decide +kernel
theorem dX0_progression_335 : decode cX0_progression 335 = .ok (.aload_n 0, 1) := by decide +kernel
theorem dX0_progression_336 : decode cX0_progression 336 = .ok (.getfield 15, 3) := by decide +kernel
theorem dX0_progression_339 : decode cX0_progression 339 = .ok (.iload 8, 2) := by decide +kernel
theorem dX0_progression_341 : decode cX0_progression 341 = .ok (.iconst 1, 1) := by decide +kernel
theorem dX0_progression_342 : decode cX0_progression 342 = .ok (.isub, 1) := by decide +kernel
theorem dX0_progression_343 : decode cX0_progression 343 = .ok (.iload 10, 2) := by decide +kernel
theorem dX0_progression_345 : decode cX0_progression 345 = .ok (.isub, 1) := by decide +kernel
theorem dX0_progression_346 : decode cX0_progression 346 = .ok (.iaload, 1) := by decide +kernel
theorem dX0_progression_347 : decode cX0_progression 347 = .ok (.iastore, 1) := by decide +kernel
theorem dX0_progression_348 : decode cX0_progression 348 = .ok (.aload_n 0, 1) := by decide +kernel
theorem dX0_progression_349 : decode cX0_progression 349 = .ok (.getfield 15, 3) := by decide +kernel
theorem dX0_progression_352 : decode cX0_progression 352 = .ok (.iload 8, 2) := by decide +kernel
theorem dX0_progression_354 : decode cX0_progression 354 = .ok (.iconst 1, 1) := by decide +kernel
theorem dX0_progression_355 : decode cX0_progression 355 = .ok (.isub, 1) := by decide +kernel
theorem dX0_progression_356 : decode cX0_progression 356 = .ok (.iload 10, 2) := by decide +kernel
theorem dX0_progression_358 : decode cX0_progression 358 = .ok (.isub, 1) := by decide +kernel
theorem dX0_progression_359 : decode cX0_progression 359 = .ok (.iload 11, 2) := by decide +kernel
theorem dX0_progression_361 : decode cX0_progression 361 = .ok (.iastore, 1) := by decide +kernel
theorem dX0_progression_362 : decode cX0_progression 362 = .ok (.iinc 10 1, 3) := by decide +kernel
theorem dX0_progression_365 : decode cX0_progression 365 = .ok (.goto (-59), 3) := by decide +kernel
theorem dX0_progression_368 : decode cX0_progression 368 = .ok (.aload_n 0, 1) := by decide +kernel
theorem dX0_progression_369 : decode cX0_progression 369 = .ok (.getfield 22, 3) := by decide +kernel
theorem dX0_progression_372 : decode cX0_progression 372 = .ok (.bipush 6, 2) := by decide +kernel
theorem dX0_progression_374 : decode cX0_progression 374 = .ok (.aload_n 0, 1) := by decide +kernel
theorem dX0_progression_375 : decode cX0_progression 375 = .ok (.getfield 15, 3) := by decide +kernel
theorem dX0_progression_378 : decode cX0_progression 378 = .ok (.iconst 0, 1) := by decide +kernel
theorem dX0_progression_379 : decode cX0_progression 379 = .ok (.iload 8, 2) := by decide +kernel
theorem dX0_progression_381 : decode cX0_progression 381 = .ok (.invokevirtual 160, 3) := by decide +kernel
theorem dX0_progression_384 : decode cX0_progression 384 = .ok (.ireturn, 1) := by decide +kernel
theorem dX0_range_0 : decode cX0_range 0 = .ok (.iconst 0, 1) := by decide +kernel
theorem dX0_range_1 : decode cX0_range 1 = .ok (.istore_n 2, 1) := by decide +kernel
theorem dX0_range_2 : decode cX0_range 2 = .ok (.iconst 0, 1) := by decide +kernel
theorem dX0_range_3 : decode cX0_range 3 = .ok (.istore_n 3, 1) := by decide +kernel
theorem dX0_range_4 : decode cX0_range 4 = .ok (.iload_n 3, 1) := by decide +kernel
theorem dX0_range_5 : decode cX0_range 5 = .ok (.aload_n 0, 1) := by decide +kernel
theorem dX0_range_6 : decode cX0_range 6 = .ok (.getfield 22, 3) := by decide +kernel
theorem dX0_range_9 : decode cX0_range 9 = .ok (.iload_n 1, 1) := by decide +kernel
theorem dX0_range_10 : decode cX0_range 10 = .ok (.invokevirtual 100, 3) := by decide +kernel
theorem dX0_range_13 : decode cX0_range 13 = .ok (.if_icmp .ge 52, 3) := by decide +kernel
theorem dX0_range_16 : decode cX0_range 16 = .ok (.iload_n 2, 1) := by decide +kernel
theorem dX0_range_17 : decode cX0_range 17 = .ok (.aload_n 0, 1) := by decide +kernel
theorem dX0_range_18 : decode cX0_range 18 = .ok (.getfield 15, 3) := by decide +kernel
theorem dX0_range_21 : decode cX0_range 21 = .ok (.arraylength, 1) := by decide +kernel
theorem dX0_range_22 : decode cX0_range 22 = .ok (.if_icmp .ge 43, 3) := by decide +kernel
theorem dX0_range_25 : decode cX0_range 25 = .ok (.aload_n 0, 1) := by decide +kernel
theorem dX0_range_26 : decode cX0_range 26 = .ok (.aload_n 0, 1) := by decide +kernel
theorem dX0_range_27 : decode cX0_range 27 = .ok (.getfield 15, 3) := by decide +kernel
theorem dX0_range_30 : decode cX0_range 30 = .ok (.iconst 0, 1) := by decide +kernel
theorem dX0_range_31 : decode cX0_range 31 = .ok (.iload_n 2, 1) := by decide +kernel
theorem dX0_range_32 : decode cX0_range 32 = .ok (.iload_n 2, 1) := by decide +kernel
theorem dX0_range_33 : decode cX0_range 33 = .ok (.aload_n 0, 1) := by decide +kernel
theorem dX0_range_34 : decode cX0_range 34 = .ok (.getfield 22, 3) := by decide +kernel
theorem dX0_range_37 : decode cX0_range 37 = .ok (.aload_n 0, 1) := by decide +kernel
theorem dX0_range_38 : decode cX0_range 38 = .ok (.getfield 22, 3) := by decide +kernel
theorem dX0_range_41 : decode cX0_range 41 = .ok (.iload_n 1, 1) := by decide +kernel
theorem dX0_range_42 : decode cX0_range 42 = .ok (.iload_n 3, 1) := by decide +kernel
theorem dX0_range_43 : decode cX0_range 43 = .ok (.invokevirtual 154, 3) := by decide +kernel
theorem dX0_range_46 : decode cX0_range 46 = .ok (.iconst 1, 1) := by decide +kernel
theorem dX0_range_47 : decode cX0_range 47 = .ok (.invokevirtual 154, 3) := by decide +kernel
theorem dX0_range_50 : decode cX0_range 50 = .ok (.invokevirtual 175, 3) := by decide +kernel
theorem dX0_range_53 : decode cX0_range 53 = .ok (.ifCond .eq 6, 3) := by decide +kernel
theorem dX0_range_56 : decode cX0_range 56 = .ok (.iinc 2 1, 3) := by decide +kernel
theorem dX0_range_59 : decode cX0_range 59 = .ok (.iinc 3 1, 3) := by decide +kernel
theorem dX0_range_62 : decode cX0_range 62 = .ok (.goto (-58), 3) := by decide +kernel
theorem dX0_range_65 : decode cX0_range 65 = .ok (.aload_n 0, 1) := by decide +kernel
theorem dX0_range_66 : decode cX0_range 66 = .ok (.getfield 22, 3) := by decide +kernel
theorem dX0_range_69 : decode cX0_range 69 = .ok (.bipush 6, 2) := by decide +kernel
theorem dX0_range_71 : decode cX0_range 71 = .ok (.aload_n 0, 1) := by decide +kernel
theorem dX0_range_72 : decode cX0_range 72 = .ok (.getfield 15, 3) := by decide +kernel
theorem dX0_range_75 : decode cX0_range 75 = .ok (.iconst 0, 1) := by decide +kernel
theorem dX0_range_76 : decode cX0_range 76 = .ok (.iload_n 2, 1) := by decide +kernel
theorem dX0_range_77 : decode cX0_range 77 = .ok (.invokevirtual 160, 3) := by decide +kernel
theorem dX0_range_80 : decode cX0_range 80 = .ok (.ireturn, 1) := by decide +kernel
theorem dX0_remainder_0 : decode cX0_remainder 0 = .ok (.aload_n 0, 1) := by decide +kernel
theorem dX0_remainder_1 : decode cX0_remainder 1 = .ok (.getfield 22, 3) := by decide +kernel
theorem dX0_remainder_4 : decode cX0_remainder 4 = .ok (.iload_n 1, 1) := by decide +kernel
theorem dX0_remainder_5 : decode cX0_remainder 5 = .ok (.invokevirtual 100, 3) := by decide +kernel
theorem dX0_remainder_8 : decode cX0_remainder 8 = .ok (.istore_n 3, 1) := by decide +kernel
theorem dX0_remainder_9 : decode cX0_remainder 9 = .ok (.iload_n 2, 1) := by decide +kernel
theorem dX0_remainder_10 : decode cX0_remainder 10 = .ok (.iconst 2, 1) := by decide +kernel
theorem dX0_remainder_11 : decode cX0_remainder 11 = .ok (.if_icmp .ne 7, 3) := by decide +kernel
theorem dX0_remainder_14 : decode cX0_remainder 14 = .ok (.iconst 0, 1) := by decide +kernel
theorem dX0_remainder_15 : decode cX0_remainder 15 = .ok (.goto 4, 3) := by decide +kernel
theorem dX0_remainder_18 : decode cX0_remainder 18 = .ok (.iconst 1, 1) := by decide +kernel
theorem dX0_remainder_19 : decode cX0_remainder 19 = .ok (.istore 4, 2) := by decide +kernel
theorem dX0_remainder_21 : decode cX0_remainder 21 = .ok (.iload_n 2, 1) := by decide +kernel
theorem dX0_remainder_22 : decode cX0_remainder 22 = .ok (.iconst 2, 1) := by decide +kernel
theorem dX0_remainder_23 : decode cX0_remainder 23 = .ok (.if_icmp .ne 9, 3) := by decide +kernel
theorem dX0_remainder_26 : decode cX0_remainder 26 = .ok (.iload_n 3, 1) := by decide +kernel
theorem dX0_remainder_27 : decode cX0_remainder 27 = .ok (.iconst 1, 1) := by decide +kernel
theorem dX0_remainder_28 : decode cX0_remainder 28 = .ok (.isub, 1) := by decide +kernel
theorem dX0_remainder_29 : decode cX0_remainder 29 = .ok (.goto 4, 3) := by decide +kernel
theorem dX0_remainder_32 : decode cX0_remainder 32 = .ok (.iload_n 3, 1) := by decide +kernel
theorem dX0_remainder_33 : decode cX0_remainder 33 = .ok (.istore 5, 2) := by decide +kernel
theorem dX0_remainder_35 : decode cX0_remainder 35 = .ok (.aload_n 0, 1) := by decide +kernel
theorem dX0_remainder_36 : decode cX0_remainder 36 = .ok (.getfield 22, 3) := by decide +kernel
theorem dX0_remainder_39 : decode cX0_remainder 39 = .ok (.iload_n 1, 1) := by decide +kernel
theorem dX0_remainder_40 : decode cX0_remainder 40 = .ok (.invokevirtual 87, 3) := by decide +kernel
theorem dX0_remainder_43 : decode cX0_remainder 43 = .ok (.iconst 4, 1) := by decide +kernel
theorem dX0_remainder_44 : decode cX0_remainder 44 = .ok (.if_icmp .ne 42, 3) := by decide +kernel
theorem dX0_remainder_47 : decode cX0_remainder 47 = .ok (.aload_n 0, 1) := by decide +kernel
theorem dX0_remainder_48 : decode cX0_remainder 48 = .ok (.getfield 22, 3) := by decide +kernel
theorem dX0_remainder_51 : decode cX0_remainder 51 = .ok (.iload_n 1, 1) := by decide +kernel
theorem dX0_remainder_52 : decode cX0_remainder 52 = .ok (.iload 4, 2) := by decide +kernel
theorem dX0_remainder_54 : decode cX0_remainder 54 = .ok (.iload 5, 2) := by decide +kernel
theorem dX0_remainder_56 : decode cX0_remainder 56 = .ok (.iload 4, 2) := by decide +kernel
theorem dX0_remainder_58 : decode cX0_remainder 58 = .ok (.isub, 1) := by decide +kernel
theorem dX0_remainder_59 : decode cX0_remainder 59 = .ok (.aload_n 0, 1) := by decide +kernel
theorem dX0_remainder_60 : decode cX0_remainder 60 = .ok (.getfield 9, 3) := by decide +kernel
theorem dX0_remainder_63 : decode cX0_remainder 63 = .ok (.iconst 0, 1) := by decide +kernel
theorem dX0_remainder_64 : decode cX0_remainder 64 = .ok (.invokevirtual 114, 3) := by decide +kernel
theorem dX0_remainder_67 : decode cX0_remainder 67 = .ok (.pop, 1) := by decide +kernel
theorem dX0_remainder_68 : decode cX0_remainder 68 = .ok (.aload_n 0, 1) := by decide +kernel
theorem dX0_remainder_69 : decode cX0_remainder 69 = .ok (.getfield 22, 3) := by decide +kernel
theorem dX0_remainder_72 : decode cX0_remainder 72 = .ok (.aload_n 0, 1) := by decide +kernel
theorem dX0_remainder_73 : decode cX0_remainder 73 = .ok (.getfield 9, 3) := by decide +kernel
theorem dX0_remainder_76 : decode cX0_remainder 76 = .ok (.iconst 0, 1) := by decide +kernel
theorem dX0_remainder_77 : decode cX0_remainder 77 = .ok (.iload 5, 2) := by decide +kernel
theorem dX0_remainder_79 : decode cX0_remainder 79 = .ok (.iload 4, 2) := by decide +kernel
theorem dX0_remainder_81 : decode cX0_remainder 81 = .ok (.isub, 1) := by decide +kernel
theorem dX0_remainder_82 : decode cX0_remainder 82 = .ok (.invokevirtual 118, 3) := by decide +kernel
theorem dX0_remainder_85 : decode cX0_remainder 85 = .ok (.ireturn, 1) := by decide +kernel
theorem dX0_remainder_86 : decode cX0_remainder 86 = .ok (.aload_n 0, 1) := by decide +kernel
theorem dX0_remainder_87 : decode cX0_remainder 87 = .ok (.iload_n 1, 1) := by decide +kernel
theorem dX0_remainder_88 : decode cX0_remainder 88 = .ok (.iload 4, 2) := by decide +kernel
theorem dX0_remainder_90 : decode cX0_remainder 90 = .ok (.iload 5, 2) := by decide +kernel
theorem dX0_remainder_92 : decode cX0_remainder 92 = .ok (.iconst 0, 1) := by decide +kernel
theorem dX0_remainder_93 : decode cX0_remainder 93 = .ok (.invokevirtual 103, 3) := by decide +kernel
theorem dX0_remainder_96 : decode cX0_remainder 96 = .ok (.istore 6, 2) := by decide +kernel
theorem dX0_remainder_98 : decode cX0_remainder 98 = .ok (.iload_n 2, 1) := by decide +kernel
theorem dX0_remainder_99 : decode cX0_remainder 99 = .ok (.ifCond .ne 22, 3) := by decide +kernel
theorem dX0_remainder_102 : decode cX0_remainder 102 = .ok (.aload_n 0, 1) := by decide +kernel
theorem dX0_remainder_103 : decode cX0_remainder 103 = .ok (.getfield 22, 3) := by decide +kernel
theorem dX0_remainder_106 : decode cX0_remainder 106 = .ok (.bipush 6, 2) := by decide +kernel
theorem dX0_remainder_108 : decode cX0_remainder 108 = .ok (.aload_n 0, 1) := by decide +kernel
theorem dX0_remainder_109 : decode cX0_remainder 109 = .ok (.getfield 15, 3) := by decide +kernel
theorem dX0_remainder_112 : decode cX0_remainder 112 = .ok (.iconst 0, 1) := by decide +kernel
theorem dX0_remainder_113 : decode cX0_remainder 113 = .ok (.iload 6, 2) := by decide +kernel
theorem dX0_remainder_115 : decode cX0_remainder 115 = .ok (.invokevirtual 160, 3) := by decide +kernel
theorem dX0_remainder_118 : decode cX0_remainder 118 = .ok (.goto 17, 3) := by decide +kernel
theorem dX0_remainder_121 : decode cX0_remainder 121 = .ok (.aload_n 0, 1) := by decide +kernel
theorem dX0_remainder_122 : decode cX0_remainder 122 = .ok (.getfield 22, 3) := by decide +kernel
theorem dX0_remainder_125 : decode cX0_remainder 125 = .ok (.aload_n 0, 1) := by decide +kernel
theorem dX0_remainder_126 : decode cX0_remainder 126 = .ok (.getfield 15, 3) := by decide +kernel
theorem dX0_remainder_129 : decode cX0_remainder 129 = .ok (.iconst 0, 1) := by decide +kernel
theorem dX0_remainder_130 : decode cX0_remainder 130 = .ok (.iload 6, 2) := by decide +kernel
theorem dX0_remainder_132 : decode cX0_remainder 132 = .ok (.invokevirtual 107, 3) := by decide +kernel
theorem dX0_remainder_135 : decode cX0_remainder 135 = .ok (.ireturn, 1) := by decide +kernel
theorem dX0_repeated_0 : decode cX0_repeated 0 = .ok (.aload_n 0, 1) := by decide +kernel
theorem dX0_repeated_1 : decode cX0_repeated 1 = .ok (.getfield 22, 3) := by decide +kernel
theorem dX0_repeated_4 : decode cX0_repeated 4 = .ok (.iload_n 1, 1) := by decide +kernel
theorem dX0_repeated_5 : decode cX0_repeated 5 = .ok (.invokevirtual 100, 3) := by decide +kernel
theorem dX0_repeated_8 : decode cX0_repeated 8 = .ok (.istore 4, 2) := by decide +kernel
theorem dX0_repeated_10 : decode cX0_repeated 10 = .ok (.iload 4, 2) := by decide +kernel
theorem dX0_repeated_12 : decode cX0_repeated 12 = .ok (.ifCond .eq 7, 3) := by decide +kernel
theorem dX0_repeated_15 : decode cX0_repeated 15 = .ok (.iload_n 3, 1) := by decide +kernel
theorem dX0_repeated_16 : decode cX0_repeated 16 = .ok (.ifCond .ne 14, 3) := by decide +kernel
theorem dX0_repeated_19 : decode cX0_repeated 19 = .ok (.iload_n 2, 1) := by decide +kernel
theorem dX0_repeated_20 : decode cX0_repeated 20 = .ok (.iconst 4, 1) := by decide +kernel
theorem dX0_repeated_21 : decode cX0_repeated 21 = .ok (.if_icmp .ne 7, 3) := by decide +kernel
theorem dX0_repeated_24 : decode cX0_repeated 24 = .ok (.iconst 0, 1) := by decide +kernel
theorem dX0_repeated_25 : decode cX0_repeated 25 = .ok (.goto 4, 3) := by decide +kernel
theorem dX0_repeated_28 : decode cX0_repeated 28 = .ok (.iconst 1, 1) := by decide +kernel
theorem dX0_repeated_29 : decode cX0_repeated 29 = .ok (.ireturn, 1) := by decide +kernel
theorem dX0_repeated_30 : decode cX0_repeated 30 = .ok (.iload 4, 2) := by decide +kernel
theorem dX0_repeated_32 : decode cX0_repeated 32 = .ok (.i2l, 1) := by decide +kernel
theorem dX0_repeated_33 : decode cX0_repeated 33 = .ok (.iload_n 3, 1) := by decide +kernel
theorem dX0_repeated_34 : decode cX0_repeated 34 = .ok (.i2l, 1) := by decide +kernel
theorem dX0_repeated_35 : decode cX0_repeated 35 = .ok (.lmul, 1) := by decide +kernel
theorem dX0_repeated_36 : decode cX0_repeated 36 = .ok (.iload_n 2, 1) := by decide +kernel
theorem dX0_repeated_37 : decode cX0_repeated 37 = .ok (.iconst 4, 1) := by decide +kernel
theorem dX0_repeated_38 : decode cX0_repeated 38 = .ok (.if_icmp .ne 9, 3) := by decide +kernel
theorem dX0_repeated_41 : decode cX0_repeated 41 = .ok (.sipush 4000, 3) := by decide +kernel
theorem dX0_repeated_44 : decode cX0_repeated 44 = .ok (.goto 6, 3) := by decide +kernel
theorem dX0_repeated_47 : decode cX0_repeated 47 = .ok (.sipush 1000, 3) := by decide +kernel
theorem dX0_repeated_50 : decode cX0_repeated 50 = .ok (.i2l, 1) := by decide +kernel
theorem dX0_repeated_51 : decode cX0_repeated 51 = .ok (.lcmp, 1) := by decide +kernel
theorem dX0_repeated_52 : decode cX0_repeated 52 = .ok (.ifCond .le 6, 3) := by decide +kernel
theorem dX0_repeated_55 : decode cX0_repeated 55 = .ok (.ldc 139, 2) := by decide +kernel
theorem dX0_repeated_57 : decode cX0_repeated 57 = .ok (.ireturn, 1) := by decide +kernel
theorem dX0_repeated_58 : decode cX0_repeated 58 = .ok (.iconst 0, 1) := by decide +kernel
theorem dX0_repeated_59 : decode cX0_repeated 59 = .ok (.istore 5, 2) := by decide +kernel
theorem dX0_repeated_61 : decode cX0_repeated 61 = .ok (.iconst 0, 1) := by decide +kernel
theorem dX0_repeated_62 : decode cX0_repeated 62 = .ok (.istore 6, 2) := by decide +kernel
theorem dX0_repeated_64 : decode cX0_repeated 64 = .ok (.iload 6, 2) := by decide +kernel
theorem dX0_repeated_66 : decode cX0_repeated 66 = .ok (.iload_n 3, 1) := by decide +kernel
theorem dX0_repeated_67 : decode cX0_repeated 67 = .ok (.if_icmp .ge 46, 3) := by decide +kernel
theorem dX0_repeated_70 : decode cX0_repeated 70 = .ok (.iload_n 2, 1) := by decide +kernel
theorem dX0_repeated_71 : decode cX0_repeated 71 = .ok (.iconst 4, 1) := by decide +kernel
theorem dX0_repeated_72 : decode cX0_repeated 72 = .ok (.if_icmp .ne 23, 3) := by decide +kernel
theorem dX0_repeated_75 : decode cX0_repeated 75 = .ok (.aload_n 0, 1) := by decide +kernel
theorem dX0_repeated_76 : decode cX0_repeated 76 = .ok (.getfield 22, 3) := by decide +kernel
theorem dX0_repeated_79 : decode cX0_repeated 79 = .ok (.iload_n 1, 1) := by decide +kernel
theorem dX0_repeated_80 : decode cX0_repeated 80 = .ok (.iconst 0, 1) := by decide +kernel
theorem dX0_repeated_81 : decode cX0_repeated 81 = .ok (.iload 4, 2) := by decide +kernel
theorem dX0_repeated_83 : decode cX0_repeated 83 = .ok (.aload_n 0, 1) := by decide +kernel
theorem dX0_repeated_84 : decode cX0_repeated 84 = .ok (.getfield 9, 3) := by decide +kernel
theorem dX0_repeated_87 : decode cX0_repeated 87 = .ok (.iload 5, 2) := by decide +kernel
theorem dX0_repeated_89 : decode cX0_repeated 89 = .ok (.invokevirtual 114, 3) := by decide +kernel
theorem dX0_repeated_92 : decode cX0_repeated 92 = .ok (.goto 13, 3) := by decide +kernel
theorem dX0_repeated_95 : decode cX0_repeated 95 = .ok (.aload_n 0, 1) := by decide +kernel
theorem dX0_repeated_96 : decode cX0_repeated 96 = .ok (.iload_n 1, 1) := by decide +kernel
theorem dX0_repeated_97 : decode cX0_repeated 97 = .ok (.iconst 0, 1) := by decide +kernel
theorem dX0_repeated_98 : decode cX0_repeated 98 = .ok (.iload 4, 2) := by decide +kernel
theorem dX0_repeated_100 : decode cX0_repeated 100 = .ok (.iload 5, 2) := by decide +kernel
theorem dX0_repeated_102 : decode cX0_repeated 102 = .ok (.invokevirtual 103, 3) := by decide +kernel
theorem dX0_repeated_105 : decode cX0_repeated 105 = .ok (.istore 5, 2) := by decide +kernel
theorem dX0_repeated_107 : decode cX0_repeated 107 = .ok (.iinc 6 1, 3) := by decide +kernel
theorem dX0_repeated_110 : decode cX0_repeated 110 = .ok (.goto (-46), 3) := by decide +kernel
theorem dX0_repeated_113 : decode cX0_repeated 113 = .ok (.iload_n 2, 1) := by decide +kernel
theorem dX0_repeated_114 : decode cX0_repeated 114 = .ok (.iconst 4, 1) := by decide +kernel
theorem dX0_repeated_115 : decode cX0_repeated 115 = .ok (.if_icmp .ne 20, 3) := by decide +kernel
theorem dX0_repeated_118 : decode cX0_repeated 118 = .ok (.aload_n 0, 1) := by decide +kernel
theorem dX0_repeated_119 : decode cX0_repeated 119 = .ok (.getfield 22, 3) := by decide +kernel
theorem dX0_repeated_122 : decode cX0_repeated 122 = .ok (.aload_n 0, 1) := by decide +kernel
theorem dX0_repeated_123 : decode cX0_repeated 123 = .ok (.getfield 9, 3) := by decide +kernel
theorem dX0_repeated_126 : decode cX0_repeated 126 = .ok (.iconst 0, 1) := by decide +kernel
theorem dX0_repeated_127 : decode cX0_repeated 127 = .ok (.iload 5, 2) := by decide +kernel
theorem dX0_repeated_129 : decode cX0_repeated 129 = .ok (.invokevirtual 118, 3) := by decide +kernel
theorem dX0_repeated_132 : decode cX0_repeated 132 = .ok (.goto 17, 3) := by decide +kernel
theorem dX0_repeated_135 : decode cX0_repeated 135 = .ok (.aload_n 0, 1) := by decide +kernel
theorem dX0_repeated_136 : decode cX0_repeated 136 = .ok (.getfield 22, 3) := by decide +kernel
theorem dX0_repeated_139 : decode cX0_repeated 139 = .ok (.aload_n 0, 1) := by decide +kernel
theorem dX0_repeated_140 : decode cX0_repeated 140 = .ok (.getfield 15, 3) := by decide +kernel
theorem dX0_repeated_143 : decode cX0_repeated 143 = .ok (.iconst 0, 1) := by decide +kernel
theorem dX0_repeated_144 : decode cX0_repeated 144 = .ok (.iload 5, 2) := by decide +kernel
theorem dX0_repeated_146 : decode cX0_repeated 146 = .ok (.invokevirtual 107, 3) := by decide +kernel
theorem dX0_repeated_149 : decode cX0_repeated 149 = .ok (.ireturn, 1) := by decide +kernel
theorem dX0_reversed_0 : decode cX0_reversed 0 = .ok (.aload_n 0, 1) := by decide +kernel
theorem dX0_reversed_1 : decode cX0_reversed 1 = .ok (.getfield 22, 3) := by decide +kernel
theorem dX0_reversed_4 : decode cX0_reversed 4 = .ok (.iload_n 1, 1) := by decide +kernel
theorem dX0_reversed_5 : decode cX0_reversed 5 = .ok (.invokevirtual 100, 3) := by decide +kernel
theorem dX0_reversed_8 : decode cX0_reversed 8 = .ok (.istore_n 3, 1) := by decide +kernel
theorem dX0_reversed_9 : decode cX0_reversed 9 = .ok (.iload_n 2, 1) := by decide +kernel
theorem dX0_reversed_10 : decode cX0_reversed 10 = .ok (.iconst 4, 1) := by decide +kernel
theorem dX0_reversed_11 : decode cX0_reversed 11 = .ok (.if_icmp .ne 64, 3) := by decide +kernel
theorem dX0_reversed_14 : decode cX0_reversed 14 = .ok (.iconst 0, 1) := by decide +kernel
theorem dX0_reversed_15 : decode cX0_reversed 15 = .ok (.istore 4, 2) := by decide +kernel
theorem dX0_reversed_17 : decode cX0_reversed 17 = .ok (.iload 4, 2) := by decide +kernel
theorem dX0_reversed_19 : decode cX0_reversed 19 = .ok (.iload_n 3, 1) := by decide +kernel
theorem dX0_reversed_20 : decode cX0_reversed 20 = .ok (.if_icmp .ge 41, 3) := by decide +kernel
theorem dX0_reversed_23 : decode cX0_reversed 23 = .ok (.iload 4, 2) := by decide +kernel
theorem dX0_reversed_25 : decode cX0_reversed 25 = .ok (.aload_n 0, 1) := by decide +kernel
theorem dX0_reversed_26 : decode cX0_reversed 26 = .ok (.getfield 9, 3) := by decide +kernel
theorem dX0_reversed_29 : decode cX0_reversed 29 = .ok (.arraylength, 1) := by decide +kernel
theorem dX0_reversed_30 : decode cX0_reversed 30 = .ok (.if_icmp .ge 31, 3) := by decide +kernel
theorem dX0_reversed_33 : decode cX0_reversed 33 = .ok (.aload_n 0, 1) := by decide +kernel
theorem dX0_reversed_34 : decode cX0_reversed 34 = .ok (.getfield 9, 3) := by decide +kernel
theorem dX0_reversed_37 : decode cX0_reversed 37 = .ok (.iload 4, 2) := by decide +kernel
theorem dX0_reversed_39 : decode cX0_reversed 39 = .ok (.aload_n 0, 1) := by decide +kernel
theorem dX0_reversed_40 : decode cX0_reversed 40 = .ok (.getfield 22, 3) := by decide +kernel
theorem dX0_reversed_43 : decode cX0_reversed 43 = .ok (.iload_n 1, 1) := by decide +kernel
theorem dX0_reversed_44 : decode cX0_reversed 44 = .ok (.iload_n 3, 1) := by decide +kernel
theorem dX0_reversed_45 : decode cX0_reversed 45 = .ok (.iconst 1, 1) := by decide +kernel
theorem dX0_reversed_46 : decode cX0_reversed 46 = .ok (.isub, 1) := by decide +kernel
theorem dX0_reversed_47 : decode cX0_reversed 47 = .ok (.iload 4, 2) := by decide +kernel
theorem dX0_reversed_49 : decode cX0_reversed 49 = .ok (.isub, 1) := by decide +kernel
theorem dX0_reversed_50 : decode cX0_reversed 50 = .ok (.invokevirtual 171, 3) := by decide +kernel
theorem dX0_reversed_53 : decode cX0_reversed 53 = .ok (.i2b, 1) := by decide +kernel
theorem dX0_reversed_54 : decode cX0_reversed 54 = .ok (.bastore, 1) := by decide +kernel
theorem dX0_reversed_55 : decode cX0_reversed 55 = .ok (.iinc 4 1, 3) := by decide +kernel
theorem dX0_reversed_58 : decode cX0_reversed 58 = .ok (.goto (-41), 3) := by decide +kernel
theorem dX0_reversed_61 : decode cX0_reversed 61 = .ok (.aload_n 0, 1) := by decide +kernel
theorem dX0_reversed_62 : decode cX0_reversed 62 = .ok (.getfield 22, 3) := by decide +kernel
theorem dX0_reversed_65 : decode cX0_reversed 65 = .ok (.aload_n 0, 1) := by decide +kernel
theorem dX0_reversed_66 : decode cX0_reversed 66 = .ok (.getfield 9, 3) := by decide +kernel
theorem dX0_reversed_69 : decode cX0_reversed 69 = .ok (.iconst 0, 1) := by decide +kernel
theorem dX0_reversed_70 : decode cX0_reversed 70 = .ok (.iload_n 3, 1) := by decide +kernel
theorem dX0_reversed_71 : decode cX0_reversed 71 = .ok (.invokevirtual 118, 3) := by decide +kernel
theorem dX0_reversed_74 : decode cX0_reversed 74 = .ok (.ireturn, 1) := by decide +kernel
theorem dX0_reversed_75 : decode cX0_reversed 75 = .ok (.iconst 0, 1) := by decide +kernel
theorem dX0_reversed_76 : decode cX0_reversed 76 = .ok (.istore 4, 2) := by decide +kernel
theorem dX0_reversed_78 : decode cX0_reversed 78 = .ok (.iload 4, 2) := by decide +kernel
theorem dX0_reversed_80 : decode cX0_reversed 80 = .ok (.iload_n 3, 1) := by decide +kernel
theorem dX0_reversed_81 : decode cX0_reversed 81 = .ok (.if_icmp .ge 40, 3) := by decide +kernel
theorem dX0_reversed_84 : decode cX0_reversed 84 = .ok (.iload 4, 2) := by decide +kernel
theorem dX0_reversed_86 : decode cX0_reversed 86 = .ok (.aload_n 0, 1) := by decide +kernel
theorem dX0_reversed_87 : decode cX0_reversed 87 = .ok (.getfield 15, 3) := by decide +kernel
theorem dX0_reversed_90 : decode cX0_reversed 90 = .ok (.arraylength, 1) := by decide +kernel
theorem dX0_reversed_91 : decode cX0_reversed 91 = .ok (.if_icmp .ge 30, 3) := by decide +kernel
theorem dX0_reversed_94 : decode cX0_reversed 94 = .ok (.aload_n 0, 1) := by decide +kernel
theorem dX0_reversed_95 : decode cX0_reversed 95 = .ok (.getfield 15, 3) := by decide +kernel
theorem dX0_reversed_98 : decode cX0_reversed 98 = .ok (.iload 4, 2) := by decide +kernel
theorem dX0_reversed_100 : decode cX0_reversed 100 = .ok (.aload_n 0, 1) := by decide +kernel
theorem dX0_reversed_101 : decode cX0_reversed 101 = .ok (.getfield 22, 3) := by decide +kernel
theorem dX0_reversed_104 : decode cX0_reversed 104 = .ok (.iload_n 1, 1) := by decide +kernel
theorem dX0_reversed_105 : decode cX0_reversed 105 = .ok (.iload_n 3, 1) := by decide +kernel
theorem dX0_reversed_106 : decode cX0_reversed 106 = .ok (.iconst 1, 1) := by decide +kernel
theorem dX0_reversed_107 : decode cX0_reversed 107 = .ok (.isub, 1) := by decide +kernel
theorem dX0_reversed_108 : decode cX0_reversed 108 = .ok (.iload 4, 2) := by decide +kernel
theorem dX0_reversed_110 : decode cX0_reversed 110 = .ok (.isub, 1) := by decide +kernel
theorem dX0_reversed_111 : decode cX0_reversed 111 = .ok (.invokevirtual 154, 3) := by decide +kernel
theorem dX0_reversed_114 : decode cX0_reversed 114 = .ok (.iastore, 1) := by decide +kernel
theorem dX0_reversed_115 : decode cX0_reversed 115 = .ok (.iinc 4 1, 3) := by decide +kernel
theorem dX0_reversed_118 : decode cX0_reversed 118 = .ok (.goto (-40), 3) := by decide +kernel
theorem dX0_reversed_121 : decode cX0_reversed 121 = .ok (.aload_n 0, 1) := by decide +kernel
theorem dX0_reversed_122 : decode cX0_reversed 122 = .ok (.getfield 22, 3) := by decide +kernel
theorem dX0_reversed_125 : decode cX0_reversed 125 = .ok (.aload_n 0, 1) := by decide +kernel
theorem dX0_reversed_126 : decode cX0_reversed 126 = .ok (.getfield 15, 3) := by decide +kernel
theorem dX0_reversed_129 : decode cX0_reversed 129 = .ok (.iconst 0, 1) := by decide +kernel
theorem dX0_reversed_130 : decode cX0_reversed 130 = .ok (.iload_n 3, 1) := by decide +kernel
theorem dX0_reversed_131 : decode cX0_reversed 131 = .ok (.invokevirtual 107, 3) := by decide +kernel
theorem dX0_reversed_134 : decode cX0_reversed 134 = .ok (.ireturn, 1) := by decide +kernel
theorem dX0_rowError_0 : decode cX0_rowError 0 = .ok (.aload_n 0, 1) := by decide +kernel
theorem dX0_rowError_1 : decode cX0_rowError 1 = .ok (.getfield 22, 3) := by decide +kernel
theorem dX0_rowError_4 : decode cX0_rowError 4 = .ok (.iload_n 1, 1) := by decide +kernel
theorem dX0_rowError_5 : decode cX0_rowError 5 = .ok (.invokevirtual 87, 3) := by decide +kernel
theorem dX0_rowError_8 : decode cX0_rowError 8 = .ok (.istore 4, 2) := by decide +kernel
theorem dX0_rowError_10 : decode cX0_rowError 10 = .ok (.iload 4, 2) := by decide +kernel
theorem dX0_rowError_12 : decode cX0_rowError 12 = .ok (.iconst 4, 1) := by decide +kernel
theorem dX0_rowError_13 : decode cX0_rowError 13 = .ok (.if_icmp .eq 9, 3) := by decide +kernel
theorem dX0_rowError_16 : decode cX0_rowError 16 = .ok (.iload 4, 2) := by decide +kernel
theorem dX0_rowError_18 : decode cX0_rowError 18 = .ok (.iconst 5, 1) := by decide +kernel
theorem dX0_rowError_19 : decode cX0_rowError 19 = .ok (.if_icmp .ne 27, 3) := by decide +kernel
theorem dX0_rowError_22 : decode cX0_rowError 22 = .ok (.aload_n 0, 1) := by decide +kernel
theorem dX0_rowError_23 : decode cX0_rowError 23 = .ok (.getfield 22, 3) := by decide +kernel
theorem dX0_rowError_26 : decode cX0_rowError 26 = .ok (.iload_n 2, 1) := by decide +kernel
theorem dX0_rowError_27 : decode cX0_rowError 27 = .ok (.invokevirtual 87, 3) := by decide +kernel
theorem dX0_rowError_30 : decode cX0_rowError 30 = .ok (.iconst 2, 1) := by decide +kernel
theorem dX0_rowError_31 : decode cX0_rowError 31 = .ok (.if_icmp .ne 15, 3) := by decide +kernel
theorem dX0_rowError_34 : decode cX0_rowError 34 = .ok (.aload_n 0, 1) := by decide +kernel
theorem dX0_rowError_35 : decode cX0_rowError 35 = .ok (.getfield 22, 3) := by decide +kernel
theorem dX0_rowError_38 : decode cX0_rowError 38 = .ok (.iload_n 3, 1) := by decide +kernel
theorem dX0_rowError_39 : decode cX0_rowError 39 = .ok (.invokevirtual 87, 3) := by decide +kernel
theorem dX0_rowError_42 : decode cX0_rowError 42 = .ok (.iconst 2, 1) := by decide +kernel
theorem dX0_rowError_43 : decode cX0_rowError 43 = .ok (.if_icmp .eq 6, 3) := by decide +kernel
theorem dX0_rowError_46 : decode cX0_rowError 46 = .ok (.ldc 56, 2) := by decide +kernel
theorem dX0_rowError_48 : decode cX0_rowError 48 = .ok (.ireturn, 1) := by decide +kernel
theorem dX0_rowError_49 : decode cX0_rowError 49 = .ok (.aload_n 0, 1) := by decide +kernel
theorem dX0_rowError_50 : decode cX0_rowError 50 = .ok (.getfield 26, 3) := by decide +kernel
theorem dX0_rowError_53 : decode cX0_rowError 53 = .ok (.iload_n 2, 1) := by decide +kernel
theorem dX0_rowError_54 : decode cX0_rowError 54 = .ok (.invokevirtual 133, 3) := by decide +kernel
theorem dX0_rowError_57 : decode cX0_rowError 57 = .ok (.istore 5, 2) := by decide +kernel
theorem dX0_rowError_59 : decode cX0_rowError 59 = .ok (.aload_n 0, 1) := by decide +kernel
theorem dX0_rowError_60 : decode cX0_rowError 60 = .ok (.getfield 26, 3) := by decide +kernel
theorem dX0_rowError_63 : decode cX0_rowError 63 = .ok (.iload_n 3, 1) := by decide +kernel
theorem dX0_rowError_64 : decode cX0_rowError 64 = .ok (.invokevirtual 133, 3) := by decide +kernel
theorem dX0_rowError_67 : decode cX0_rowError 67 = .ok (.istore 6, 2) := by decide +kernel
theorem dX0_rowError_69 : decode cX0_rowError 69 = .ok (.iload 5, 2) := by decide +kernel
theorem dX0_rowError_71 : decode cX0_rowError 71 = .ok (.iconst 1, 1) := by decide +kernel
theorem dX0_rowError_72 : decode cX0_rowError 72 = .ok (.if_icmp .lt 29, 3) := by decide +kernel
theorem dX0_rowError_75 : decode cX0_rowError 75 = .ok (.iload 5, 2) := by decide +kernel
theorem dX0_rowError_77 : decode cX0_rowError 77 = .ok (.iconst 1, 1) := by decide +kernel
theorem dX0_rowError_78 : decode cX0_rowError 78 = .ok (.isub, 1) := by decide +kernel
theorem dX0_rowError_79 : decode cX0_rowError 79 = .ok (.iload 6, 2) := by decide +kernel
theorem dX0_rowError_81 : decode cX0_rowError 81 = .ok (.if_icmp .gt 20, 3) := by decide +kernel
theorem dX0_rowError_84 : decode cX0_rowError 84 = .ok (.iload 6, 2) := by decide +kernel
theorem dX0_rowError_86 : decode cX0_rowError 86 = .ok (.aload_n 0, 1) := by decide +kernel
theorem dX0_rowError_87 : decode cX0_rowError 87 = .ok (.getfield 22, 3) := by decide +kernel
theorem dX0_rowError_90 : decode cX0_rowError 90 = .ok (.iload_n 1, 1) := by decide +kernel
theorem dX0_rowError_91 : decode cX0_rowError 91 = .ok (.invokevirtual 100, 3) := by decide +kernel
theorem dX0_rowError_94 : decode cX0_rowError 94 = .ok (.if_icmp .gt 7, 3) := by decide +kernel
theorem dX0_rowError_97 : decode cX0_rowError 97 = .ok (.iconst 0, 1) := by decide +kernel
theorem dX0_rowError_98 : decode cX0_rowError 98 = .ok (.goto 5, 3) := by decide +kernel
theorem dX0_rowError_101 : decode cX0_rowError 101 = .ok (.ldc 132, 2) := by decide +kernel
theorem dX0_rowError_103 : decode cX0_rowError 103 = .ok (.ireturn, 1) := by decide +kernel
theorem dX0_slice_0 : decode cX0_slice 0 = .ok (.aload_n 0, 1) := by decide +kernel
theorem dX0_slice_1 : decode cX0_slice 1 = .ok (.iload_n 1, 1) := by decide +kernel
theorem dX0_slice_2 : decode cX0_slice 2 = .ok (.iload_n 2, 1) := by decide +kernel
theorem dX0_slice_3 : decode cX0_slice 3 = .ok (.iload_n 3, 1) := by decide +kernel
theorem dX0_slice_4 : decode cX0_slice 4 = .ok (.invokevirtual 273, 3) := by decide +kernel
theorem dX0_slice_7 : decode cX0_slice 7 = .ok (.istore 4, 2) := by decide +kernel
theorem dX0_slice_9 : decode cX0_slice 9 = .ok (.iload 4, 2) := by decide +kernel
theorem dX0_slice_11 : decode cX0_slice 11 = .ok (.ifCond .eq 6, 3) := by decide +kernel
theorem dX0_slice_14 : decode cX0_slice 14 = .ok (.iload 4, 2) := by decide +kernel
theorem dX0_slice_16 : decode cX0_slice 16 = .ok (.ireturn, 1) := by decide +kernel
theorem dX0_slice_17 : decode cX0_slice 17 = .ok (.aload_n 0, 1) := by decide +kernel
theorem dX0_slice_18 : decode cX0_slice 18 = .ok (.getfield 26, 3) := by decide +kernel
theorem dX0_slice_21 : decode cX0_slice 21 = .ok (.iload_n 2, 1) := by decide +kernel
theorem dX0_slice_22 : decode cX0_slice 22 = .ok (.invokevirtual 133, 3) := by decide +kernel
theorem dX0_slice_25 : decode cX0_slice 25 = .ok (.iconst 1, 1) := by decide +kernel
theorem dX0_slice_26 : decode cX0_slice 26 = .ok (.isub, 1) := by decide +kernel
theorem dX0_slice_27 : decode cX0_slice 27 = .ok (.istore 5, 2) := by decide +kernel
theorem dX0_slice_29 : decode cX0_slice 29 = .ok (.aload_n 0, 1) := by decide +kernel
theorem dX0_slice_30 : decode cX0_slice 30 = .ok (.getfield 26, 3) := by decide +kernel
theorem dX0_slice_33 : decode cX0_slice 33 = .ok (.iload_n 3, 1) := by decide +kernel
theorem dX0_slice_34 : decode cX0_slice 34 = .ok (.invokevirtual 133, 3) := by decide +kernel
theorem dX0_slice_37 : decode cX0_slice 37 = .ok (.iload 5, 2) := by decide +kernel
theorem dX0_slice_39 : decode cX0_slice 39 = .ok (.isub, 1) := by decide +kernel
theorem dX0_slice_40 : decode cX0_slice 40 = .ok (.istore 6, 2) := by decide +kernel
theorem dX0_slice_42 : decode cX0_slice 42 = .ok (.aload_n 0, 1) := by decide +kernel
theorem dX0_slice_43 : decode cX0_slice 43 = .ok (.getfield 22, 3) := by decide +kernel
theorem dX0_slice_46 : decode cX0_slice 46 = .ok (.iload_n 1, 1) := by decide +kernel
theorem dX0_slice_47 : decode cX0_slice 47 = .ok (.invokevirtual 87, 3) := by decide +kernel
theorem dX0_slice_50 : decode cX0_slice 50 = .ok (.iconst 4, 1) := by decide +kernel
theorem dX0_slice_51 : decode cX0_slice 51 = .ok (.if_icmp .ne 36, 3) := by decide +kernel
theorem dX0_slice_54 : decode cX0_slice 54 = .ok (.aload_n 0, 1) := by decide +kernel
theorem dX0_slice_55 : decode cX0_slice 55 = .ok (.getfield 22, 3) := by decide +kernel
theorem dX0_slice_58 : decode cX0_slice 58 = .ok (.iload_n 1, 1) := by decide +kernel
theorem dX0_slice_59 : decode cX0_slice 59 = .ok (.iload 5, 2) := by decide +kernel
theorem dX0_slice_61 : decode cX0_slice 61 = .ok (.iload 6, 2) := by decide +kernel
theorem dX0_slice_63 : decode cX0_slice 63 = .ok (.aload_n 0, 1) := by decide +kernel
theorem dX0_slice_64 : decode cX0_slice 64 = .ok (.getfield 9, 3) := by decide +kernel
theorem dX0_slice_67 : decode cX0_slice 67 = .ok (.iconst 0, 1) := by decide +kernel
theorem dX0_slice_68 : decode cX0_slice 68 = .ok (.invokevirtual 114, 3) := by decide +kernel
theorem dX0_slice_71 : decode cX0_slice 71 = .ok (.pop, 1) := by decide +kernel
theorem dX0_slice_72 : decode cX0_slice 72 = .ok (.aload_n 0, 1) := by decide +kernel
theorem dX0_slice_73 : decode cX0_slice 73 = .ok (.getfield 22, 3) := by decide +kernel
theorem dX0_slice_76 : decode cX0_slice 76 = .ok (.aload_n 0, 1) := by decide +kernel
theorem dX0_slice_77 : decode cX0_slice 77 = .ok (.getfield 9, 3) := by decide +kernel
theorem dX0_slice_80 : decode cX0_slice 80 = .ok (.iconst 0, 1) := by decide +kernel
theorem dX0_slice_81 : decode cX0_slice 81 = .ok (.iload 6, 2) := by decide +kernel
theorem dX0_slice_83 : decode cX0_slice 83 = .ok (.invokevirtual 118, 3) := by decide +kernel
theorem dX0_slice_86 : decode cX0_slice 86 = .ok (.ireturn, 1) := by decide +kernel
theorem dX0_slice_87 : decode cX0_slice 87 = .ok (.aload_n 0, 1) := by decide +kernel
theorem dX0_slice_88 : decode cX0_slice 88 = .ok (.iload_n 1, 1) := by decide +kernel
theorem dX0_slice_89 : decode cX0_slice 89 = .ok (.iload 5, 2) := by decide +kernel
theorem dX0_slice_91 : decode cX0_slice 91 = .ok (.iload 5, 2) := by decide +kernel
theorem dX0_slice_93 : decode cX0_slice 93 = .ok (.iload 6, 2) := by decide +kernel
theorem dX0_slice_95 : decode cX0_slice 95 = .ok (.iadd, 1) := by decide +kernel
theorem dX0_slice_96 : decode cX0_slice 96 = .ok (.iconst 0, 1) := by decide +kernel
theorem dX0_slice_97 : decode cX0_slice 97 = .ok (.invokevirtual 103, 3) := by decide +kernel
theorem dX0_slice_100 : decode cX0_slice 100 = .ok (.pop, 1) := by decide +kernel
theorem dX0_slice_101 : decode cX0_slice 101 = .ok (.aload_n 0, 1) := by decide +kernel
theorem dX0_slice_102 : decode cX0_slice 102 = .ok (.getfield 22, 3) := by decide +kernel
theorem dX0_slice_105 : decode cX0_slice 105 = .ok (.aload_n 0, 1) := by decide +kernel
theorem dX0_slice_106 : decode cX0_slice 106 = .ok (.getfield 15, 3) := by decide +kernel
theorem dX0_slice_109 : decode cX0_slice 109 = .ok (.iconst 0, 1) := by decide +kernel
theorem dX0_slice_110 : decode cX0_slice 110 = .ok (.iload 6, 2) := by decide +kernel
theorem dX0_slice_112 : decode cX0_slice 112 = .ok (.invokevirtual 107, 3) := by decide +kernel
theorem dX0_slice_115 : decode cX0_slice 115 = .ok (.ireturn, 1) := by decide +kernel
theorem dX0_smallSteps_0 : decode cX0_smallSteps 0 = .ok (.iconst 0, 1) := by decide +kernel
theorem dX0_smallSteps_1 : decode cX0_smallSteps 1 = .ok (.istore 4, 2) := by decide +kernel
theorem dX0_smallSteps_3 : decode cX0_smallSteps 3 = .ok (.iload_n 1, 1) := by decide +kernel
theorem dX0_smallSteps_4 : decode cX0_smallSteps 4 = .ok (.istore 5, 2) := by decide +kernel
theorem dX0_smallSteps_6 : decode cX0_smallSteps 6 = .ok (.iconst 0, 1) := by decide +kernel
theorem dX0_smallSteps_7 : decode cX0_smallSteps 7 = .ok (.istore 6, 2) := by decide +kernel
theorem dX0_smallSteps_9 : decode cX0_smallSteps 9 = .ok (.iload 6, 2) := by decide +kernel
theorem dX0_smallSteps_11 : decode cX0_smallSteps 11 = .ok (.sipush 1000, 3) := by decide +kernel
theorem dX0_smallSteps_14 : decode cX0_smallSteps 14 = .ok (.if_icmp .gt 57, 3) := by decide +kernel
theorem dX0_smallSteps_17 : decode cX0_smallSteps 17 = .ok (.iload_n 2, 1) := by decide +kernel
theorem dX0_smallSteps_18 : decode cX0_smallSteps 18 = .ok (.iload_n 1, 1) := by decide +kernel
theorem dX0_smallSteps_19 : decode cX0_smallSteps 19 = .ok (.if_icmp .eq 52, 3) := by decide +kernel
theorem dX0_smallSteps_22 : decode cX0_smallSteps 22 = .ok (.iload_n 2, 1) := by decide +kernel
theorem dX0_smallSteps_23 : decode cX0_smallSteps 23 = .ok (.iload_n 1, 1) := by decide +kernel
theorem dX0_smallSteps_24 : decode cX0_smallSteps 24 = .ok (.if_icmp .le 12, 3) := by decide +kernel
theorem dX0_smallSteps_27 : decode cX0_smallSteps 27 = .ok (.iload 5, 2) := by decide +kernel
theorem dX0_smallSteps_29 : decode cX0_smallSteps 29 = .ok (.iload_n 3, 1) := by decide +kernel
theorem dX0_smallSteps_30 : decode cX0_smallSteps 30 = .ok (.if_icmp .gt 41, 3) := by decide +kernel
theorem dX0_smallSteps_33 : decode cX0_smallSteps 33 = .ok (.goto 9, 3) := by decide +kernel
theorem dX0_smallSteps_36 : decode cX0_smallSteps 36 = .ok (.iload 5, 2) := by decide +kernel
theorem dX0_smallSteps_38 : decode cX0_smallSteps 38 = .ok (.iload_n 3, 1) := by decide +kernel
theorem dX0_smallSteps_39 : decode cX0_smallSteps 39 = .ok (.if_icmp .lt 32, 3) := by decide +kernel
theorem dX0_smallSteps_42 : decode cX0_smallSteps 42 = .ok (.aload_n 0, 1) := by decide +kernel
theorem dX0_smallSteps_43 : decode cX0_smallSteps 43 = .ok (.getfield 15, 3) := by decide +kernel
theorem dX0_smallSteps_46 : decode cX0_smallSteps 46 = .ok (.iload 4, 2) := by decide +kernel
theorem dX0_smallSteps_48 : decode cX0_smallSteps 48 = .ok (.iload 5, 2) := by decide +kernel
theorem dX0_smallSteps_50 : decode cX0_smallSteps 50 = .ok (.invokestatic 188, 3) := by decide +kernel
theorem dX0_smallSteps_53 : decode cX0_smallSteps 53 = .ok (.iastore, 1) := by decide +kernel
theorem dX0_smallSteps_54 : decode cX0_smallSteps 54 = .ok (.iinc 4 1, 3) := by decide +kernel
theorem dX0_smallSteps_57 : decode cX0_smallSteps 57 = .ok (.iload 5, 2) := by decide +kernel
theorem dX0_smallSteps_59 : decode cX0_smallSteps 59 = .ok (.iload_n 2, 1) := by decide +kernel
theorem dX0_smallSteps_60 : decode cX0_smallSteps 60 = .ok (.iadd, 1) := by decide +kernel
theorem dX0_smallSteps_61 : decode cX0_smallSteps 61 = .ok (.iload_n 1, 1) := by decide +kernel
theorem dX0_smallSteps_62 : decode cX0_smallSteps 62 = .ok (.isub, 1) := by decide +kernel
theorem dX0_smallSteps_63 : decode cX0_smallSteps 63 = .ok (.istore 5, 2) := by decide +kernel
theorem dX0_smallSteps_65 : decode cX0_smallSteps 65 = .ok (.iinc 6 1, 3) := by decide +kernel
theorem dX0_smallSteps_68 : decode cX0_smallSteps 68 = .ok (.goto (-59), 3) := by decide +kernel
theorem dX0_smallSteps_71 : decode cX0_smallSteps 71 = .ok (.iload 4, 2) := by decide +kernel
theorem dX0_smallSteps_73 : decode cX0_smallSteps 73 = .ok (.ireturn, 1) := by decide +kernel
theorem dX0_standsIn_0 : decode cX0_standsIn 0 = .ok (.aload_n 0, 1) := by decide +kernel
theorem dX0_standsIn_1 : decode cX0_standsIn 1 = .ok (.getfield 22, 3) := by decide +kernel
theorem dX0_standsIn_4 : decode cX0_standsIn 4 = .ok (.iload_n 1, 1) := by decide +kernel
theorem dX0_standsIn_5 : decode cX0_standsIn 5 = .ok (.invokevirtual 100, 3) := by decide +kernel
theorem dX0_standsIn_8 : decode cX0_standsIn 8 = .ok (.istore_n 3, 1) := by decide +kernel
theorem dX0_standsIn_9 : decode cX0_standsIn 9 = .ok (.aload_n 0, 1) := by decide +kernel
theorem dX0_standsIn_10 : decode cX0_standsIn 10 = .ok (.getfield 22, 3) := by decide +kernel
theorem dX0_standsIn_13 : decode cX0_standsIn 13 = .ok (.iload_n 2, 1) := by decide +kernel
theorem dX0_standsIn_14 : decode cX0_standsIn 14 = .ok (.invokevirtual 100, 3) := by decide +kernel
theorem dX0_standsIn_17 : decode cX0_standsIn 17 = .ok (.iload_n 3, 1) := by decide +kernel
theorem dX0_standsIn_18 : decode cX0_standsIn 18 = .ok (.isub, 1) := by decide +kernel
theorem dX0_standsIn_19 : decode cX0_standsIn 19 = .ok (.istore 4, 2) := by decide +kernel
theorem dX0_standsIn_21 : decode cX0_standsIn 21 = .ok (.iconst 0, 1) := by decide +kernel
theorem dX0_standsIn_22 : decode cX0_standsIn 22 = .ok (.istore 5, 2) := by decide +kernel
theorem dX0_standsIn_24 : decode cX0_standsIn 24 = .ok (.iload 5, 2) := by decide +kernel
theorem dX0_standsIn_26 : decode cX0_standsIn 26 = .ok (.iload 4, 2) := by decide +kernel
theorem dX0_standsIn_28 : decode cX0_standsIn 28 = .ok (.if_icmp .gt 64, 3) := by decide +kernel
theorem dX0_standsIn_31 : decode cX0_standsIn 31 = .ok (.iconst 0, 1) := by decide +kernel
theorem dX0_standsIn_32 : decode cX0_standsIn 32 = .ok (.istore 6, 2) := by decide +kernel
theorem dX0_standsIn_34 : decode cX0_standsIn 34 = .ok (.iconst 0, 1) := by decide +kernel
theorem dX0_standsIn_35 : decode cX0_standsIn 35 = .ok (.istore 7, 2) := by decide +kernel
theorem dX0_standsIn_37 : decode cX0_standsIn 37 = .ok (.iload 7, 2) := by decide +kernel
theorem dX0_standsIn_39 : decode cX0_standsIn 39 = .ok (.iload_n 3, 1) := by decide +kernel
theorem dX0_standsIn_40 : decode cX0_standsIn 40 = .ok (.if_icmp .ge 38, 3) := by decide +kernel
theorem dX0_standsIn_43 : decode cX0_standsIn 43 = .ok (.aload_n 0, 1) := by decide +kernel
theorem dX0_standsIn_44 : decode cX0_standsIn 44 = .ok (.getfield 22, 3) := by decide +kernel
theorem dX0_standsIn_47 : decode cX0_standsIn 47 = .ok (.iload_n 1, 1) := by decide +kernel
theorem dX0_standsIn_48 : decode cX0_standsIn 48 = .ok (.iload 7, 2) := by decide +kernel
theorem dX0_standsIn_50 : decode cX0_standsIn 50 = .ok (.invokevirtual 171, 3) := by decide +kernel
theorem dX0_standsIn_53 : decode cX0_standsIn 53 = .ok (.aload_n 0, 1) := by decide +kernel
theorem dX0_standsIn_54 : decode cX0_standsIn 54 = .ok (.getfield 22, 3) := by decide +kernel
theorem dX0_standsIn_57 : decode cX0_standsIn 57 = .ok (.iload_n 2, 1) := by decide +kernel
theorem dX0_standsIn_58 : decode cX0_standsIn 58 = .ok (.iload 5, 2) := by decide +kernel
theorem dX0_standsIn_60 : decode cX0_standsIn 60 = .ok (.iload 7, 2) := by decide +kernel
theorem dX0_standsIn_62 : decode cX0_standsIn 62 = .ok (.iadd, 1) := by decide +kernel
theorem dX0_standsIn_63 : decode cX0_standsIn 63 = .ok (.invokevirtual 171, 3) := by decide +kernel
theorem dX0_standsIn_66 : decode cX0_standsIn 66 = .ok (.if_icmp .ne 12, 3) := by decide +kernel
theorem dX0_standsIn_69 : decode cX0_standsIn 69 = .ok (.iinc 6 1, 3) := by decide +kernel
theorem dX0_standsIn_72 : decode cX0_standsIn 72 = .ok (.iinc 7 1, 3) := by decide +kernel
theorem dX0_standsIn_75 : decode cX0_standsIn 75 = .ok (.goto (-38), 3) := by decide +kernel
theorem dX0_standsIn_78 : decode cX0_standsIn 78 = .ok (.iload 6, 2) := by decide +kernel
theorem dX0_standsIn_80 : decode cX0_standsIn 80 = .ok (.iload_n 3, 1) := by decide +kernel
theorem dX0_standsIn_81 : decode cX0_standsIn 81 = .ok (.if_icmp .ne 5, 3) := by decide +kernel
theorem dX0_standsIn_84 : decode cX0_standsIn 84 = .ok (.iconst 1, 1) := by decide +kernel
theorem dX0_standsIn_85 : decode cX0_standsIn 85 = .ok (.ireturn, 1) := by decide +kernel
theorem dX0_standsIn_86 : decode cX0_standsIn 86 = .ok (.iinc 5 1, 3) := by decide +kernel
theorem dX0_standsIn_89 : decode cX0_standsIn 89 = .ok (.goto (-65), 3) := by decide +kernel
theorem dX0_standsIn_92 : decode cX0_standsIn 92 = .ok (.iconst 0, 1) := by decide +kernel
theorem dX0_standsIn_93 : decode cX0_standsIn 93 = .ok (.ireturn, 1) := by decide +kernel
theorem dX0_subsets_0 : decode cX0_subsets 0 = .ok (.aload_n 0, 1) := by decide +kernel
theorem dX0_subsets_1 : decode cX0_subsets 1 = .ok (.getfield 22, 3) := by decide +kernel
theorem dX0_subsets_4 : decode cX0_subsets 4 = .ok (.iload_n 1, 1) := by decide +kernel
theorem dX0_subsets_5 : decode cX0_subsets 5 = .ok (.invokevirtual 100, 3) := by decide +kernel
theorem dX0_subsets_8 : decode cX0_subsets 8 = .ok (.istore_n 2, 1) := by decide +kernel
theorem dX0_subsets_9 : decode cX0_subsets 9 = .ok (.iload_n 2, 1) := by decide +kernel
theorem dX0_subsets_10 : decode cX0_subsets 10 = .ok (.bipush 8, 2) := by decide +kernel
theorem dX0_subsets_12 : decode cX0_subsets 12 = .ok (.if_icmp .gt 31, 3) := by decide +kernel
theorem dX0_subsets_15 : decode cX0_subsets 15 = .ok (.iconst 1, 1) := by decide +kernel
theorem dX0_subsets_16 : decode cX0_subsets 16 = .ok (.iconst 1, 1) := by decide +kernel
theorem dX0_subsets_17 : decode cX0_subsets 17 = .ok (.iload_n 2, 1) := by decide +kernel
theorem dX0_subsets_18 : decode cX0_subsets 18 = .ok (.ishl, 1) := by decide +kernel
theorem dX0_subsets_19 : decode cX0_subsets 19 = .ok (.iadd, 1) := by decide +kernel
theorem dX0_subsets_20 : decode cX0_subsets 20 = .ok (.iconst 1, 1) := by decide +kernel
theorem dX0_subsets_21 : decode cX0_subsets 21 = .ok (.iload_n 2, 1) := by decide +kernel
theorem dX0_subsets_22 : decode cX0_subsets 22 = .ok (.ishl, 1) := by decide +kernel
theorem dX0_subsets_23 : decode cX0_subsets 23 = .ok (.iconst 1, 1) := by decide +kernel
theorem dX0_subsets_24 : decode cX0_subsets 24 = .ok (.ishr, 1) := by decide +kernel
theorem dX0_subsets_25 : decode cX0_subsets 25 = .ok (.aload_n 0, 1) := by decide +kernel
theorem dX0_subsets_26 : decode cX0_subsets 26 = .ok (.getfield 22, 3) := by decide +kernel
theorem dX0_subsets_29 : decode cX0_subsets 29 = .ok (.iload_n 1, 1) := by decide +kernel
theorem dX0_subsets_30 : decode cX0_subsets 30 = .ok (.invokevirtual 179, 3) := by decide +kernel
theorem dX0_subsets_33 : decode cX0_subsets 33 = .ok (.iconst 1, 1) := by decide +kernel
theorem dX0_subsets_34 : decode cX0_subsets 34 = .ok (.isub, 1) := by decide +kernel
theorem dX0_subsets_35 : decode cX0_subsets 35 = .ok (.imul, 1) := by decide +kernel
theorem dX0_subsets_36 : decode cX0_subsets 36 = .ok (.iadd, 1) := by decide +kernel
theorem dX0_subsets_37 : decode cX0_subsets 37 = .ok (.sipush 1000, 3) := by decide +kernel
theorem dX0_subsets_40 : decode cX0_subsets 40 = .ok (.if_icmp .le 6, 3) := by decide +kernel
theorem dX0_subsets_43 : decode cX0_subsets 43 = .ok (.ldc 139, 2) := by decide +kernel
theorem dX0_subsets_45 : decode cX0_subsets 45 = .ok (.ireturn, 1) := by decide +kernel
theorem dX0_subsets_46 : decode cX0_subsets 46 = .ok (.aload_n 0, 1) := by decide +kernel
theorem dX0_subsets_47 : decode cX0_subsets 47 = .ok (.getfield 15, 3) := by decide +kernel
theorem dX0_subsets_50 : decode cX0_subsets 50 = .ok (.iconst 0, 1) := by decide +kernel
theorem dX0_subsets_51 : decode cX0_subsets 51 = .ok (.iconst 2, 1) := by decide +kernel
theorem dX0_subsets_52 : decode cX0_subsets 52 = .ok (.iastore, 1) := by decide +kernel
theorem dX0_subsets_53 : decode cX0_subsets 53 = .ok (.iconst 1, 1) := by decide +kernel
theorem dX0_subsets_54 : decode cX0_subsets 54 = .ok (.istore_n 3, 1) := by decide +kernel
theorem dX0_subsets_55 : decode cX0_subsets 55 = .ok (.iconst 0, 1) := by decide +kernel
theorem dX0_subsets_56 : decode cX0_subsets 56 = .ok (.istore 4, 2) := by decide +kernel
theorem dX0_subsets_58 : decode cX0_subsets 58 = .ok (.iconst (-1), 1) := by decide +kernel
theorem dX0_subsets_59 : decode cX0_subsets 59 = .ok (.istore 5, 2) := by decide +kernel
theorem dX0_subsets_61 : decode cX0_subsets 61 = .ok (.iconst 0, 1) := by decide +kernel
theorem dX0_subsets_62 : decode cX0_subsets 62 = .ok (.istore 6, 2) := by decide +kernel
theorem dX0_subsets_64 : decode cX0_subsets 64 = .ok (.iconst 1, 1) := by decide +kernel
theorem dX0_subsets_65 : decode cX0_subsets 65 = .ok (.istore 7, 2) := by decide +kernel
theorem dX0_subsets_67 : decode cX0_subsets 67 = .ok (.iload 7, 2) := by decide +kernel
theorem dX0_subsets_69 : decode cX0_subsets 69 = .ok (.iconst 1, 1) := by decide +kernel
theorem dX0_subsets_70 : decode cX0_subsets 70 = .ok (.iload_n 2, 1) := by decide +kernel
theorem dX0_subsets_71 : decode cX0_subsets 71 = .ok (.ishl, 1) := by decide +kernel
theorem dX0_subsets_72 : decode cX0_subsets 72 = .ok (.if_icmp .ge 128, 3) := by decide +kernel
theorem dX0_subsets_75 : decode cX0_subsets 75 = .ok (.iload 5, 2) := by decide +kernel
theorem dX0_subsets_77 : decode cX0_subsets 77 = .ok (.iload_n 2, 1) := by decide +kernel
theorem dX0_subsets_78 : decode cX0_subsets 78 = .ok (.iconst 1, 1) := by decide +kernel
theorem dX0_subsets_79 : decode cX0_subsets 79 = .ok (.isub, 1) := by decide +kernel
theorem dX0_subsets_80 : decode cX0_subsets 80 = .ok (.if_icmp .ne 38, 3) := by decide +kernel
theorem dX0_subsets_83 : decode cX0_subsets 83 = .ok (.iinc 4 (-1), 3) := by decide +kernel
theorem dX0_subsets_86 : decode cX0_subsets 86 = .ok (.iload 6, 2) := by decide +kernel
theorem dX0_subsets_88 : decode cX0_subsets 88 = .ok (.iconst 1, 1) := by decide +kernel
theorem dX0_subsets_89 : decode cX0_subsets 89 = .ok (.iload 5, 2) := by decide +kernel
theorem dX0_subsets_91 : decode cX0_subsets 91 = .ok (.ishl, 1) := by decide +kernel
theorem dX0_subsets_92 : decode cX0_subsets 92 = .ok (.iconst (-1), 1) := by decide +kernel
theorem dX0_subsets_93 : decode cX0_subsets 93 = .ok (.ixor, 1) := by decide +kernel
theorem dX0_subsets_94 : decode cX0_subsets 94 = .ok (.iand, 1) := by decide +kernel
theorem dX0_subsets_95 : decode cX0_subsets 95 = .ok (.istore 6, 2) := by decide +kernel
theorem dX0_subsets_97 : decode cX0_subsets 97 = .ok (.iload 6, 2) := by decide +kernel
theorem dX0_subsets_99 : decode cX0_subsets 99 = .ok (.invokestatic 244, 3) := by decide +kernel
theorem dX0_subsets_102 : decode cX0_subsets 102 = .ok (.istore 5, 2) := by decide +kernel
theorem dX0_subsets_104 : decode cX0_subsets 104 = .ok (.iinc 4 (-1), 3) := by decide +kernel
theorem dX0_subsets_107 : decode cX0_subsets 107 = .ok (.iload 6, 2) := by decide +kernel
theorem dX0_subsets_109 : decode cX0_subsets 109 = .ok (.iconst 1, 1) := by decide +kernel
theorem dX0_subsets_110 : decode cX0_subsets 110 = .ok (.iload 5, 2) := by decide +kernel
theorem dX0_subsets_112 : decode cX0_subsets 112 = .ok (.ishl, 1) := by decide +kernel
theorem dX0_subsets_113 : decode cX0_subsets 113 = .ok (.iconst (-1), 1) := by decide +kernel
theorem dX0_subsets_114 : decode cX0_subsets 114 = .ok (.ixor, 1) := by decide +kernel
theorem dX0_subsets_115 : decode cX0_subsets 115 = .ok (.iand, 1) := by decide +kernel
theorem dX0_subsets_116 : decode cX0_subsets 116 = .ok (.istore 6, 2) := by decide +kernel
theorem dX0_subsets_118 : decode cX0_subsets 118 = .ok (.iinc 5 1, 3) := by decide +kernel
theorem dX0_subsets_121 : decode cX0_subsets 121 = .ok (.iload 6, 2) := by decide +kernel
theorem dX0_subsets_123 : decode cX0_subsets 123 = .ok (.iconst 1, 1) := by decide +kernel
theorem dX0_subsets_124 : decode cX0_subsets 124 = .ok (.iload 5, 2) := by decide +kernel
theorem dX0_subsets_126 : decode cX0_subsets 126 = .ok (.ishl, 1) := by decide +kernel
theorem dX0_subsets_127 : decode cX0_subsets 127 = .ok (.ior, 1) := by decide +kernel
theorem dX0_subsets_128 : decode cX0_subsets 128 = .ok (.istore 6, 2) := by decide +kernel
theorem dX0_subsets_130 : decode cX0_subsets 130 = .ok (.aload_n 0, 1) := by decide +kernel
theorem dX0_subsets_131 : decode cX0_subsets 131 = .ok (.getfield 19, 3) := by decide +kernel
theorem dX0_subsets_134 : decode cX0_subsets 134 = .ok (.iload 4, 2) := by decide +kernel
theorem dX0_subsets_136 : decode cX0_subsets 136 = .ok (.aload_n 0, 1) := by decide +kernel
theorem dX0_subsets_137 : decode cX0_subsets 137 = .ok (.getfield 22, 3) := by decide +kernel
theorem dX0_subsets_140 : decode cX0_subsets 140 = .ok (.iload_n 1, 1) := by decide +kernel
theorem dX0_subsets_141 : decode cX0_subsets 141 = .ok (.iload 5, 2) := by decide +kernel
theorem dX0_subsets_143 : decode cX0_subsets 143 = .ok (.invokevirtual 154, 3) := by decide +kernel
theorem dX0_subsets_146 : decode cX0_subsets 146 = .ok (.iastore, 1) := by decide +kernel
theorem dX0_subsets_147 : decode cX0_subsets 147 = .ok (.iinc 4 1, 3) := by decide +kernel
theorem dX0_subsets_150 : decode cX0_subsets 150 = .ok (.aload_n 0, 1) := by decide +kernel
theorem dX0_subsets_151 : decode cX0_subsets 151 = .ok (.getfield 15, 3) := by decide +kernel
theorem dX0_subsets_154 : decode cX0_subsets 154 = .ok (.iload_n 3, 1) := by decide +kernel
theorem dX0_subsets_155 : decode cX0_subsets 155 = .ok (.aload_n 0, 1) := by decide +kernel
theorem dX0_subsets_156 : decode cX0_subsets 156 = .ok (.getfield 22, 3) := by decide +kernel
theorem dX0_subsets_159 : decode cX0_subsets 159 = .ok (.bipush 6, 2) := by decide +kernel
theorem dX0_subsets_161 : decode cX0_subsets 161 = .ok (.aload_n 0, 1) := by decide +kernel
theorem dX0_subsets_162 : decode cX0_subsets 162 = .ok (.getfield 19, 3) := by decide +kernel
theorem dX0_subsets_165 : decode cX0_subsets 165 = .ok (.iconst 0, 1) := by decide +kernel
theorem dX0_subsets_166 : decode cX0_subsets 166 = .ok (.iload 4, 2) := by decide +kernel
theorem dX0_subsets_168 : decode cX0_subsets 168 = .ok (.invokevirtual 160, 3) := by decide +kernel
theorem dX0_subsets_171 : decode cX0_subsets 171 = .ok (.iastore, 1) := by decide +kernel
theorem dX0_subsets_172 : decode cX0_subsets 172 = .ok (.aload_n 0, 1) := by decide +kernel
theorem dX0_subsets_173 : decode cX0_subsets 173 = .ok (.getfield 15, 3) := by decide +kernel
theorem dX0_subsets_176 : decode cX0_subsets 176 = .ok (.iload_n 3, 1) := by decide +kernel
theorem dX0_subsets_177 : decode cX0_subsets 177 = .ok (.iaload, 1) := by decide +kernel
theorem dX0_subsets_178 : decode cX0_subsets 178 = .ok (.invokestatic 72, 3) := by decide +kernel
theorem dX0_subsets_181 : decode cX0_subsets 181 = .ok (.ifCond .eq 10, 3) := by decide +kernel
theorem dX0_subsets_184 : decode cX0_subsets 184 = .ok (.aload_n 0, 1) := by decide +kernel
theorem dX0_subsets_185 : decode cX0_subsets 185 = .ok (.getfield 15, 3) := by decide +kernel
theorem dX0_subsets_188 : decode cX0_subsets 188 = .ok (.iload_n 3, 1) := by decide +kernel
theorem dX0_subsets_189 : decode cX0_subsets 189 = .ok (.iaload, 1) := by decide +kernel
theorem dX0_subsets_190 : decode cX0_subsets 190 = .ok (.ireturn, 1) := by decide +kernel
theorem dX0_subsets_191 : decode cX0_subsets 191 = .ok (.iinc 3 1, 3) := by decide +kernel
theorem dX0_subsets_194 : decode cX0_subsets 194 = .ok (.iinc 7 1, 3) := by decide +kernel
theorem dX0_subsets_197 : decode cX0_subsets 197 = .ok (.goto (-130), 3) := by decide +kernel
theorem dX0_subsets_200 : decode cX0_subsets 200 = .ok (.aload_n 0, 1) := by decide +kernel
theorem dX0_subsets_201 : decode cX0_subsets 201 = .ok (.getfield 22, 3) := by decide +kernel
theorem dX0_subsets_204 : decode cX0_subsets 204 = .ok (.bipush 6, 2) := by decide +kernel
theorem dX0_subsets_206 : decode cX0_subsets 206 = .ok (.aload_n 0, 1) := by decide +kernel
theorem dX0_subsets_207 : decode cX0_subsets 207 = .ok (.getfield 15, 3) := by decide +kernel
theorem dX0_subsets_210 : decode cX0_subsets 210 = .ok (.iconst 0, 1) := by decide +kernel
theorem dX0_subsets_211 : decode cX0_subsets 211 = .ok (.iload_n 3, 1) := by decide +kernel
theorem dX0_subsets_212 : decode cX0_subsets 212 = .ok (.invokevirtual 160, 3) := by decide +kernel
theorem dX0_subsets_215 : decode cX0_subsets 215 = .ok (.ireturn, 1) := by decide +kernel
theorem dX0_sum_0 : decode cX0_sum 0 = .ok (.aload_n 0, 1) := by decide +kernel
theorem dX0_sum_1 : decode cX0_sum 1 = .ok (.getfield 22, 3) := by decide +kernel
theorem dX0_sum_4 : decode cX0_sum 4 = .ok (.iload_n 1, 1) := by decide +kernel
theorem dX0_sum_5 : decode cX0_sum 5 = .ok (.invokevirtual 87, 3) := by decide +kernel
theorem dX0_sum_8 : decode cX0_sum 8 = .ok (.istore_n 3, 1) := by decide +kernel
theorem dX0_sum_9 : decode cX0_sum 9 = .ok (.iload_n 3, 1) := by decide +kernel
theorem dX0_sum_10 : decode cX0_sum 10 = .ok (.aload_n 0, 1) := by decide +kernel
theorem dX0_sum_11 : decode cX0_sum 11 = .ok (.getfield 22, 3) := by decide +kernel
theorem dX0_sum_14 : decode cX0_sum 14 = .ok (.iload_n 2, 1) := by decide +kernel
theorem dX0_sum_15 : decode cX0_sum 15 = .ok (.invokevirtual 87, 3) := by decide +kernel
theorem dX0_sum_18 : decode cX0_sum 18 = .ok (.if_icmp .eq 6, 3) := by decide +kernel
theorem dX0_sum_21 : decode cX0_sum 21 = .ok (.ldc 56, 2) := by decide +kernel
theorem dX0_sum_23 : decode cX0_sum 23 = .ok (.ireturn, 1) := by decide +kernel
theorem dX0_sum_24 : decode cX0_sum 24 = .ok (.iload_n 3, 1) := by decide +kernel
theorem dX0_sum_25 : decode cX0_sum 25 = .ok (.tableswitch 138 2 6 #[35, 138, 46, 53, 103], 35) := by decide +kernel
theorem dX0_sum_60 : decode cX0_sum 60 = .ok (.aload_n 0, 1) := by decide +kernel
theorem dX0_sum_61 : decode cX0_sum 61 = .ok (.getfield 26, 3) := by decide +kernel
theorem dX0_sum_64 : decode cX0_sum 64 = .ok (.iload_n 1, 1) := by decide +kernel
theorem dX0_sum_65 : decode cX0_sum 65 = .ok (.iload_n 2, 1) := by decide +kernel
theorem dX0_sum_66 : decode cX0_sum 66 = .ok (.iconst 0, 1) := by decide +kernel
theorem dX0_sum_67 : decode cX0_sum 67 = .ok (.invokevirtual 94, 3) := by decide +kernel
theorem dX0_sum_70 : decode cX0_sum 70 = .ok (.ireturn, 1) := by decide +kernel
theorem dX0_sum_71 : decode cX0_sum 71 = .ok (.aload_n 0, 1) := by decide +kernel
theorem dX0_sum_72 : decode cX0_sum 72 = .ok (.iload_n 1, 1) := by decide +kernel
theorem dX0_sum_73 : decode cX0_sum 73 = .ok (.iload_n 2, 1) := by decide +kernel
theorem dX0_sum_74 : decode cX0_sum 74 = .ok (.invokevirtual 97, 3) := by decide +kernel
theorem dX0_sum_77 : decode cX0_sum 77 = .ok (.ireturn, 1) := by decide +kernel
theorem dX0_sum_78 : decode cX0_sum 78 = .ok (.aload_n 0, 1) := by decide +kernel
theorem dX0_sum_79 : decode cX0_sum 79 = .ok (.iload_n 1, 1) := by decide +kernel
theorem dX0_sum_80 : decode cX0_sum 80 = .ok (.iconst 0, 1) := by decide +kernel
theorem dX0_sum_81 : decode cX0_sum 81 = .ok (.aload_n 0, 1) := by decide +kernel
theorem dX0_sum_82 : decode cX0_sum 82 = .ok (.getfield 22, 3) := by decide +kernel
theorem dX0_sum_85 : decode cX0_sum 85 = .ok (.iload_n 1, 1) := by decide +kernel
theorem dX0_sum_86 : decode cX0_sum 86 = .ok (.invokevirtual 100, 3) := by decide +kernel
theorem dX0_sum_89 : decode cX0_sum 89 = .ok (.iconst 0, 1) := by decide +kernel
theorem dX0_sum_90 : decode cX0_sum 90 = .ok (.invokevirtual 103, 3) := by decide +kernel
theorem dX0_sum_93 : decode cX0_sum 93 = .ok (.istore 4, 2) := by decide +kernel
theorem dX0_sum_95 : decode cX0_sum 95 = .ok (.aload_n 0, 1) := by decide +kernel
theorem dX0_sum_96 : decode cX0_sum 96 = .ok (.iload_n 2, 1) := by decide +kernel
theorem dX0_sum_97 : decode cX0_sum 97 = .ok (.iconst 0, 1) := by decide +kernel
theorem dX0_sum_98 : decode cX0_sum 98 = .ok (.aload_n 0, 1) := by decide +kernel
theorem dX0_sum_99 : decode cX0_sum 99 = .ok (.getfield 22, 3) := by decide +kernel
theorem dX0_sum_102 : decode cX0_sum 102 = .ok (.iload_n 2, 1) := by decide +kernel
theorem dX0_sum_103 : decode cX0_sum 103 = .ok (.invokevirtual 100, 3) := by decide +kernel
theorem dX0_sum_106 : decode cX0_sum 106 = .ok (.iload 4, 2) := by decide +kernel
theorem dX0_sum_108 : decode cX0_sum 108 = .ok (.invokevirtual 103, 3) := by decide +kernel
theorem dX0_sum_111 : decode cX0_sum 111 = .ok (.istore 4, 2) := by decide +kernel
theorem dX0_sum_113 : decode cX0_sum 113 = .ok (.aload_n 0, 1) := by decide +kernel
theorem dX0_sum_114 : decode cX0_sum 114 = .ok (.getfield 22, 3) := by decide +kernel
theorem dX0_sum_117 : decode cX0_sum 117 = .ok (.aload_n 0, 1) := by decide +kernel
theorem dX0_sum_118 : decode cX0_sum 118 = .ok (.getfield 15, 3) := by decide +kernel
theorem dX0_sum_121 : decode cX0_sum 121 = .ok (.iconst 0, 1) := by decide +kernel
theorem dX0_sum_122 : decode cX0_sum 122 = .ok (.iload 4, 2) := by decide +kernel
theorem dX0_sum_124 : decode cX0_sum 124 = .ok (.invokevirtual 107, 3) := by decide +kernel
theorem dX0_sum_127 : decode cX0_sum 127 = .ok (.ireturn, 1) := by decide +kernel
theorem dX0_sum_128 : decode cX0_sum 128 = .ok (.aload_n 0, 1) := by decide +kernel
theorem dX0_sum_129 : decode cX0_sum 129 = .ok (.getfield 22, 3) := by decide +kernel
theorem dX0_sum_132 : decode cX0_sum 132 = .ok (.iload_n 1, 1) := by decide +kernel
theorem dX0_sum_133 : decode cX0_sum 133 = .ok (.invokevirtual 100, 3) := by decide +kernel
theorem dX0_sum_136 : decode cX0_sum 136 = .ok (.aload_n 0, 1) := by decide +kernel
theorem dX0_sum_137 : decode cX0_sum 137 = .ok (.getfield 22, 3) := by decide +kernel
theorem dX0_sum_140 : decode cX0_sum 140 = .ok (.iload_n 2, 1) := by decide +kernel
theorem dX0_sum_141 : decode cX0_sum 141 = .ok (.invokevirtual 100, 3) := by decide +kernel
theorem dX0_sum_144 : decode cX0_sum 144 = .ok (.if_icmp .ge 12, 3) := by decide +kernel
theorem dX0_sum_147 : decode cX0_sum 147 = .ok (.aload_n 0, 1) := by decide +kernel
theorem dX0_sum_148 : decode cX0_sum 148 = .ok (.iload_n 2, 1) := by decide +kernel
theorem dX0_sum_149 : decode cX0_sum 149 = .ok (.iload_n 1, 1) := by decide +kernel
theorem dX0_sum_150 : decode cX0_sum 150 = .ok (.invokevirtual 111, 3) := by decide +kernel
theorem dX0_sum_153 : decode cX0_sum 153 = .ok (.goto 9, 3) := by decide +kernel
theorem dX0_sum_156 : decode cX0_sum 156 = .ok (.aload_n 0, 1) := by decide +kernel
theorem dX0_sum_157 : decode cX0_sum 157 = .ok (.iload_n 1, 1) := by decide +kernel
theorem dX0_sum_158 : decode cX0_sum 158 = .ok (.iload_n 2, 1) := by decide +kernel
theorem dX0_sum_159 : decode cX0_sum 159 = .ok (.invokevirtual 111, 3) := by decide +kernel
theorem dX0_sum_162 : decode cX0_sum 162 = .ok (.ireturn, 1) := by decide +kernel
theorem dX0_sum_163 : decode cX0_sum 163 = .ok (.ldc 56, 2) := by decide +kernel
theorem dX0_sum_165 : decode cX0_sum 165 = .ok (.ireturn, 1) := by decide +kernel
theorem dX0_union_0 : decode cX0_union 0 = .ok (.iconst 0, 1) := by decide +kernel
theorem dX0_union_1 : decode cX0_union 1 = .ok (.istore_n 3, 1) := by decide +kernel
theorem dX0_union_2 : decode cX0_union 2 = .ok (.iconst 0, 1) := by decide +kernel
theorem dX0_union_3 : decode cX0_union 3 = .ok (.istore 4, 2) := by decide +kernel
theorem dX0_union_5 : decode cX0_union 5 = .ok (.iconst 0, 1) := by decide +kernel
theorem dX0_union_6 : decode cX0_union 6 = .ok (.istore 5, 2) := by decide +kernel
theorem dX0_union_8 : decode cX0_union 8 = .ok (.iload 5, 2) := by decide +kernel
theorem dX0_union_10 : decode cX0_union 10 = .ok (.aload_n 0, 1) := by decide +kernel
theorem dX0_union_11 : decode cX0_union 11 = .ok (.getfield 22, 3) := by decide +kernel
theorem dX0_union_14 : decode cX0_union 14 = .ok (.iload_n 2, 1) := by decide +kernel
theorem dX0_union_15 : decode cX0_union 15 = .ok (.invokevirtual 100, 3) := by decide +kernel
theorem dX0_union_18 : decode cX0_union 18 = .ok (.if_icmp .ge 103, 3) := by decide +kernel
theorem dX0_union_21 : decode cX0_union 21 = .ok (.aload_n 0, 1) := by decide +kernel
theorem dX0_union_22 : decode cX0_union 22 = .ok (.getfield 22, 3) := by decide +kernel
theorem dX0_union_25 : decode cX0_union 25 = .ok (.iload_n 2, 1) := by decide +kernel
theorem dX0_union_26 : decode cX0_union 26 = .ok (.iload 5, 2) := by decide +kernel
theorem dX0_union_28 : decode cX0_union 28 = .ok (.invokevirtual 154, 3) := by decide +kernel
theorem dX0_union_31 : decode cX0_union 31 = .ok (.istore 6, 2) := by decide +kernel
theorem dX0_union_33 : decode cX0_union 33 = .ok (.aload_n 0, 1) := by decide +kernel
theorem dX0_union_34 : decode cX0_union 34 = .ok (.iload_n 1, 1) := by decide +kernel
theorem dX0_union_35 : decode cX0_union 35 = .ok (.iload_n 3, 1) := by decide +kernel
theorem dX0_union_36 : decode cX0_union 36 = .ok (.iload 6, 2) := by decide +kernel
theorem dX0_union_38 : decode cX0_union 38 = .ok (.invokevirtual 157, 3) := by decide +kernel
theorem dX0_union_41 : decode cX0_union 41 = .ok (.istore 7, 2) := by decide +kernel
theorem dX0_union_43 : decode cX0_union 43 = .ok (.aload_n 0, 1) := by decide +kernel
theorem dX0_union_44 : decode cX0_union 44 = .ok (.iload_n 1, 1) := by decide +kernel
theorem dX0_union_45 : decode cX0_union 45 = .ok (.iload_n 3, 1) := by decide +kernel
theorem dX0_union_46 : decode cX0_union 46 = .ok (.iload 7, 2) := by decide +kernel
theorem dX0_union_48 : decode cX0_union 48 = .ok (.iload 4, 2) := by decide +kernel
theorem dX0_union_50 : decode cX0_union 50 = .ok (.invokevirtual 103, 3) := by decide +kernel
theorem dX0_union_53 : decode cX0_union 53 = .ok (.istore 4, 2) := by decide +kernel
theorem dX0_union_55 : decode cX0_union 55 = .ok (.iload 7, 2) := by decide +kernel
theorem dX0_union_57 : decode cX0_union 57 = .ok (.istore_n 3, 1) := by decide +kernel
theorem dX0_union_58 : decode cX0_union 58 = .ok (.iload 7, 2) := by decide +kernel
theorem dX0_union_60 : decode cX0_union 60 = .ok (.aload_n 0, 1) := by decide +kernel
theorem dX0_union_61 : decode cX0_union 61 = .ok (.getfield 22, 3) := by decide +kernel
theorem dX0_union_64 : decode cX0_union 64 = .ok (.iload_n 1, 1) := by decide +kernel
theorem dX0_union_65 : decode cX0_union 65 = .ok (.invokevirtual 100, 3) := by decide +kernel
theorem dX0_union_68 : decode cX0_union 68 = .ok (.if_icmp .ge 25, 3) := by decide +kernel
theorem dX0_union_71 : decode cX0_union 71 = .ok (.aload_n 0, 1) := by decide +kernel
theorem dX0_union_72 : decode cX0_union 72 = .ok (.getfield 22, 3) := by decide +kernel
theorem dX0_union_75 : decode cX0_union 75 = .ok (.aload_n 0, 1) := by decide +kernel
theorem dX0_union_76 : decode cX0_union 76 = .ok (.getfield 22, 3) := by decide +kernel
theorem dX0_union_79 : decode cX0_union 79 = .ok (.iload_n 1, 1) := by decide +kernel
theorem dX0_union_80 : decode cX0_union 80 = .ok (.iload 7, 2) := by decide +kernel
theorem dX0_union_82 : decode cX0_union 82 = .ok (.invokevirtual 154, 3) := by decide +kernel
theorem dX0_union_85 : decode cX0_union 85 = .ok (.iload 6, 2) := by decide +kernel
theorem dX0_union_87 : decode cX0_union 87 = .ok (.invokevirtual 60, 3) := by decide +kernel
theorem dX0_union_90 : decode cX0_union 90 = .ok (.ifCond .ne 25, 3) := by decide +kernel
theorem dX0_union_93 : decode cX0_union 93 = .ok (.iload 4, 2) := by decide +kernel
theorem dX0_union_95 : decode cX0_union 95 = .ok (.aload_n 0, 1) := by decide +kernel
theorem dX0_union_96 : decode cX0_union 96 = .ok (.getfield 15, 3) := by decide +kernel
theorem dX0_union_99 : decode cX0_union 99 = .ok (.arraylength, 1) := by decide +kernel
theorem dX0_union_100 : decode cX0_union 100 = .ok (.if_icmp .ge 15, 3) := by decide +kernel
theorem dX0_union_103 : decode cX0_union 103 = .ok (.aload_n 0, 1) := by decide +kernel
theorem dX0_union_104 : decode cX0_union 104 = .ok (.getfield 15, 3) := by decide +kernel
theorem dX0_union_107 : decode cX0_union 107 = .ok (.iload 4, 2) := by decide +kernel
theorem dX0_union_109 : decode cX0_union 109 = .ok (.iload 6, 2) := by decide +kernel
theorem dX0_union_111 : decode cX0_union 111 = .ok (.iastore, 1) := by decide +kernel
theorem dX0_union_112 : decode cX0_union 112 = .ok (.iinc 4 1, 3) := by decide +kernel
theorem dX0_union_115 : decode cX0_union 115 = .ok (.iinc 5 1, 3) := by decide +kernel
theorem dX0_union_118 : decode cX0_union 118 = .ok (.goto (-110), 3) := by decide +kernel
theorem dX0_union_121 : decode cX0_union 121 = .ok (.aload_n 0, 1) := by decide +kernel
theorem dX0_union_122 : decode cX0_union 122 = .ok (.iload_n 1, 1) := by decide +kernel
theorem dX0_union_123 : decode cX0_union 123 = .ok (.iload_n 3, 1) := by decide +kernel
theorem dX0_union_124 : decode cX0_union 124 = .ok (.aload_n 0, 1) := by decide +kernel
theorem dX0_union_125 : decode cX0_union 125 = .ok (.getfield 22, 3) := by decide +kernel
theorem dX0_union_128 : decode cX0_union 128 = .ok (.iload_n 1, 1) := by decide +kernel
theorem dX0_union_129 : decode cX0_union 129 = .ok (.invokevirtual 100, 3) := by decide +kernel
theorem dX0_union_132 : decode cX0_union 132 = .ok (.iload 4, 2) := by decide +kernel
theorem dX0_union_134 : decode cX0_union 134 = .ok (.invokevirtual 103, 3) := by decide +kernel
theorem dX0_union_137 : decode cX0_union 137 = .ok (.istore 4, 2) := by decide +kernel
theorem dX0_union_139 : decode cX0_union 139 = .ok (.aload_n 0, 1) := by decide +kernel
theorem dX0_union_140 : decode cX0_union 140 = .ok (.getfield 22, 3) := by decide +kernel
theorem dX0_union_143 : decode cX0_union 143 = .ok (.bipush 6, 2) := by decide +kernel
theorem dX0_union_145 : decode cX0_union 145 = .ok (.aload_n 0, 1) := by decide +kernel
theorem dX0_union_146 : decode cX0_union 146 = .ok (.getfield 15, 3) := by decide +kernel
theorem dX0_union_149 : decode cX0_union 149 = .ok (.iconst 0, 1) := by decide +kernel
theorem dX0_union_150 : decode cX0_union 150 = .ok (.iload 4, 2) := by decide +kernel
theorem dX0_union_152 : decode cX0_union 152 = .ok (.invokevirtual 160, 3) := by decide +kernel
theorem dX0_union_155 : decode cX0_union 155 = .ok (.ireturn, 1) := by decide +kernel
theorem dX0_withImages_0 : decode cX0_withImages 0 = .ok (.aload_n 0, 1) := by decide +kernel
theorem dX0_withImages_1 : decode cX0_withImages 1 = .ok (.iload_n 1, 1) := by decide +kernel
theorem dX0_withImages_2 : decode cX0_withImages 2 = .ok (.iload_n 2, 1) := by decide +kernel
theorem dX0_withImages_3 : decode cX0_withImages 3 = .ok (.invokevirtual 267, 3) := by decide +kernel
theorem dX0_withImages_6 : decode cX0_withImages 6 = .ok (.istore 4, 2) := by decide +kernel
theorem dX0_withImages_8 : decode cX0_withImages 8 = .ok (.aload_n 0, 1) := by decide +kernel
theorem dX0_withImages_9 : decode cX0_withImages 9 = .ok (.iload_n 1, 1) := by decide +kernel
theorem dX0_withImages_10 : decode cX0_withImages 10 = .ok (.iload 4, 2) := by decide +kernel
theorem dX0_withImages_12 : decode cX0_withImages 12 = .ok (.iload_n 2, 1) := by decide +kernel
theorem dX0_withImages_13 : decode cX0_withImages 13 = .ok (.invokevirtual 270, 3) := by decide +kernel
theorem dX0_withImages_16 : decode cX0_withImages 16 = .ok (.istore 5, 2) := by decide +kernel
theorem dX0_withImages_18 : decode cX0_withImages 18 = .ok (.aload_n 0, 1) := by decide +kernel
theorem dX0_withImages_19 : decode cX0_withImages 19 = .ok (.getfield 22, 3) := by decide +kernel
theorem dX0_withImages_22 : decode cX0_withImages 22 = .ok (.iload_n 1, 1) := by decide +kernel
theorem dX0_withImages_23 : decode cX0_withImages 23 = .ok (.invokevirtual 179, 3) := by decide +kernel
theorem dX0_withImages_26 : decode cX0_withImages 26 = .ok (.aload_n 0, 1) := by decide +kernel
theorem dX0_withImages_27 : decode cX0_withImages 27 = .ok (.getfield 22, 3) := by decide +kernel
theorem dX0_withImages_30 : decode cX0_withImages 30 = .ok (.iload_n 3, 1) := by decide +kernel
theorem dX0_withImages_31 : decode cX0_withImages 31 = .ok (.invokevirtual 179, 3) := by decide +kernel
theorem dX0_withImages_34 : decode cX0_withImages 34 = .ok (.iadd, 1) := by decide +kernel
theorem dX0_withImages_35 : decode cX0_withImages 35 = .ok (.iconst 1, 1) := by decide +kernel
theorem dX0_withImages_36 : decode cX0_withImages 36 = .ok (.isub, 1) := by decide +kernel
theorem dX0_withImages_37 : decode cX0_withImages 37 = .ok (.aload_n 0, 1) := by decide +kernel
theorem dX0_withImages_38 : decode cX0_withImages 38 = .ok (.getfield 22, 3) := by decide +kernel
theorem dX0_withImages_41 : decode cX0_withImages 41 = .ok (.iload_n 3, 1) := by decide +kernel
theorem dX0_withImages_42 : decode cX0_withImages 42 = .ok (.invokevirtual 100, 3) := by decide +kernel
theorem dX0_withImages_45 : decode cX0_withImages 45 = .ok (.iconst 1, 1) := by decide +kernel
theorem dX0_withImages_46 : decode cX0_withImages 46 = .ok (.aload_n 0, 1) := by decide +kernel
theorem dX0_withImages_47 : decode cX0_withImages 47 = .ok (.getfield 22, 3) := by decide +kernel
theorem dX0_withImages_50 : decode cX0_withImages 50 = .ok (.iload_n 2, 1) := by decide +kernel
theorem dX0_withImages_51 : decode cX0_withImages 51 = .ok (.invokevirtual 179, 3) := by decide +kernel
theorem dX0_withImages_54 : decode cX0_withImages 54 = .ok (.iadd, 1) := by decide +kernel
theorem dX0_withImages_55 : decode cX0_withImages 55 = .ok (.imul, 1) := by decide +kernel
theorem dX0_withImages_56 : decode cX0_withImages 56 = .ok (.iadd, 1) := by decide +kernel
theorem dX0_withImages_57 : decode cX0_withImages 57 = .ok (.istore 6, 2) := by decide +kernel
theorem dX0_withImages_59 : decode cX0_withImages 59 = .ok (.iload 4, 2) := by decide +kernel
theorem dX0_withImages_61 : decode cX0_withImages 61 = .ok (.istore 7, 2) := by decide +kernel
theorem dX0_withImages_63 : decode cX0_withImages 63 = .ok (.iload 7, 2) := by decide +kernel
theorem dX0_withImages_65 : decode cX0_withImages 65 = .ok (.iload 5, 2) := by decide +kernel
theorem dX0_withImages_67 : decode cX0_withImages 67 = .ok (.if_icmp .ge 31, 3) := by decide +kernel
theorem dX0_withImages_70 : decode cX0_withImages 70 = .ok (.iload 6, 2) := by decide +kernel
theorem dX0_withImages_72 : decode cX0_withImages 72 = .ok (.aload_n 0, 1) := by decide +kernel
theorem dX0_withImages_73 : decode cX0_withImages 73 = .ok (.getfield 22, 3) := by decide +kernel
theorem dX0_withImages_76 : decode cX0_withImages 76 = .ok (.aload_n 0, 1) := by decide +kernel
theorem dX0_withImages_77 : decode cX0_withImages 77 = .ok (.getfield 22, 3) := by decide +kernel
theorem dX0_withImages_80 : decode cX0_withImages 80 = .ok (.iload_n 1, 1) := by decide +kernel
theorem dX0_withImages_81 : decode cX0_withImages 81 = .ok (.iload 7, 2) := by decide +kernel
theorem dX0_withImages_83 : decode cX0_withImages 83 = .ok (.invokevirtual 154, 3) := by decide +kernel
theorem dX0_withImages_86 : decode cX0_withImages 86 = .ok (.invokevirtual 179, 3) := by decide +kernel
theorem dX0_withImages_89 : decode cX0_withImages 89 = .ok (.isub, 1) := by decide +kernel
theorem dX0_withImages_90 : decode cX0_withImages 90 = .ok (.istore 6, 2) := by decide +kernel
theorem dX0_withImages_92 : decode cX0_withImages 92 = .ok (.iinc 7 1, 3) := by decide +kernel
theorem dX0_withImages_95 : decode cX0_withImages 95 = .ok (.goto (-32), 3) := by decide +kernel
theorem dX0_withImages_98 : decode cX0_withImages 98 = .ok (.iload 6, 2) := by decide +kernel
theorem dX0_withImages_100 : decode cX0_withImages 100 = .ok (.sipush 1000, 3) := by decide +kernel
theorem dX0_withImages_103 : decode cX0_withImages 103 = .ok (.if_icmp .le 6, 3) := by decide +kernel
theorem dX0_withImages_106 : decode cX0_withImages 106 = .ok (.ldc 139, 2) := by decide +kernel
theorem dX0_withImages_108 : decode cX0_withImages 108 = .ok (.ireturn, 1) := by decide +kernel
theorem dX0_withImages_109 : decode cX0_withImages 109 = .ok (.aload_n 0, 1) := by decide +kernel
theorem dX0_withImages_110 : decode cX0_withImages 110 = .ok (.iload_n 1, 1) := by decide +kernel
theorem dX0_withImages_111 : decode cX0_withImages 111 = .ok (.iconst 0, 1) := by decide +kernel
theorem dX0_withImages_112 : decode cX0_withImages 112 = .ok (.iload 4, 2) := by decide +kernel
theorem dX0_withImages_114 : decode cX0_withImages 114 = .ok (.iconst 0, 1) := by decide +kernel
theorem dX0_withImages_115 : decode cX0_withImages 115 = .ok (.invokevirtual 103, 3) := by decide +kernel
theorem dX0_withImages_118 : decode cX0_withImages 118 = .ok (.istore 7, 2) := by decide +kernel
theorem dX0_withImages_120 : decode cX0_withImages 120 = .ok (.iconst 0, 1) := by decide +kernel
theorem dX0_withImages_121 : decode cX0_withImages 121 = .ok (.istore 8, 2) := by decide +kernel
theorem dX0_withImages_123 : decode cX0_withImages 123 = .ok (.iload 8, 2) := by decide +kernel
theorem dX0_withImages_125 : decode cX0_withImages 125 = .ok (.aload_n 0, 1) := by decide +kernel
theorem dX0_withImages_126 : decode cX0_withImages 126 = .ok (.getfield 22, 3) := by decide +kernel
theorem dX0_withImages_129 : decode cX0_withImages 129 = .ok (.iload_n 3, 1) := by decide +kernel
theorem dX0_withImages_130 : decode cX0_withImages 130 = .ok (.invokevirtual 100, 3) := by decide +kernel
theorem dX0_withImages_133 : decode cX0_withImages 133 = .ok (.if_icmp .ge 65, 3) := by decide +kernel
theorem dX0_withImages_136 : decode cX0_withImages 136 = .ok (.iload 7, 2) := by decide +kernel
theorem dX0_withImages_138 : decode cX0_withImages 138 = .ok (.aload_n 0, 1) := by decide +kernel
theorem dX0_withImages_139 : decode cX0_withImages 139 = .ok (.getfield 15, 3) := by decide +kernel
theorem dX0_withImages_142 : decode cX0_withImages 142 = .ok (.arraylength, 1) := by decide +kernel
theorem dX0_withImages_143 : decode cX0_withImages 143 = .ok (.if_icmp .ge 55, 3) := by decide +kernel
theorem dX0_withImages_146 : decode cX0_withImages 146 = .ok (.aload_n 0, 1) := by decide +kernel
theorem dX0_withImages_147 : decode cX0_withImages 147 = .ok (.getfield 15, 3) := by decide +kernel
theorem dX0_withImages_150 : decode cX0_withImages 150 = .ok (.iload 7, 2) := by decide +kernel
theorem dX0_withImages_152 : decode cX0_withImages 152 = .ok (.aload_n 0, 1) := by decide +kernel
theorem dX0_withImages_153 : decode cX0_withImages 153 = .ok (.iload_n 2, 1) := by decide +kernel
theorem dX0_withImages_154 : decode cX0_withImages 154 = .ok (.aload_n 0, 1) := by decide +kernel
theorem dX0_withImages_155 : decode cX0_withImages 155 = .ok (.getfield 22, 3) := by decide +kernel
theorem dX0_withImages_158 : decode cX0_withImages 158 = .ok (.iload_n 3, 1) := by decide +kernel
theorem dX0_withImages_159 : decode cX0_withImages 159 = .ok (.iload 8, 2) := by decide +kernel
theorem dX0_withImages_161 : decode cX0_withImages 161 = .ok (.invokevirtual 154, 3) := by decide +kernel
theorem dX0_withImages_164 : decode cX0_withImages 164 = .ok (.invokevirtual 291, 3) := by decide +kernel
theorem dX0_withImages_167 : decode cX0_withImages 167 = .ok (.iastore, 1) := by decide +kernel
theorem dX0_withImages_168 : decode cX0_withImages 168 = .ok (.aload_n 0, 1) := by decide +kernel
theorem dX0_withImages_169 : decode cX0_withImages 169 = .ok (.getfield 15, 3) := by decide +kernel
theorem dX0_withImages_172 : decode cX0_withImages 172 = .ok (.iload 7, 2) := by decide +kernel
theorem dX0_withImages_174 : decode cX0_withImages 174 = .ok (.iaload, 1) := by decide +kernel
theorem dX0_withImages_175 : decode cX0_withImages 175 = .ok (.invokestatic 72, 3) := by decide +kernel
theorem dX0_withImages_178 : decode cX0_withImages 178 = .ok (.ifCond .eq 11, 3) := by decide +kernel
theorem dX0_withImages_181 : decode cX0_withImages 181 = .ok (.aload_n 0, 1) := by decide +kernel
theorem dX0_withImages_182 : decode cX0_withImages 182 = .ok (.getfield 15, 3) := by decide +kernel
theorem dX0_withImages_185 : decode cX0_withImages 185 = .ok (.iload 7, 2) := by decide +kernel
theorem dX0_withImages_187 : decode cX0_withImages 187 = .ok (.iaload, 1) := by decide +kernel
theorem dX0_withImages_188 : decode cX0_withImages 188 = .ok (.ireturn, 1) := by decide +kernel
theorem dX0_withImages_189 : decode cX0_withImages 189 = .ok (.iinc 7 1, 3) := by decide +kernel
theorem dX0_withImages_192 : decode cX0_withImages 192 = .ok (.iinc 8 1, 3) := by decide +kernel
theorem dX0_withImages_195 : decode cX0_withImages 195 = .ok (.goto (-72), 3) := by decide +kernel
theorem dX0_withImages_198 : decode cX0_withImages 198 = .ok (.aload_n 0, 1) := by decide +kernel
theorem dX0_withImages_199 : decode cX0_withImages 199 = .ok (.iload_n 1, 1) := by decide +kernel
theorem dX0_withImages_200 : decode cX0_withImages 200 = .ok (.iload 5, 2) := by decide +kernel
theorem dX0_withImages_202 : decode cX0_withImages 202 = .ok (.aload_n 0, 1) := by decide +kernel
theorem dX0_withImages_203 : decode cX0_withImages 203 = .ok (.getfield 22, 3) := by decide +kernel
theorem dX0_withImages_206 : decode cX0_withImages 206 = .ok (.iload_n 1, 1) := by decide +kernel
theorem dX0_withImages_207 : decode cX0_withImages 207 = .ok (.invokevirtual 100, 3) := by decide +kernel
theorem dX0_withImages_210 : decode cX0_withImages 210 = .ok (.iload 7, 2) := by decide +kernel
theorem dX0_withImages_212 : decode cX0_withImages 212 = .ok (.invokevirtual 103, 3) := by decide +kernel
theorem dX0_withImages_215 : decode cX0_withImages 215 = .ok (.istore 7, 2) := by decide +kernel
theorem dX0_withImages_217 : decode cX0_withImages 217 = .ok (.aload_n 0, 1) := by decide +kernel
theorem dX0_withImages_218 : decode cX0_withImages 218 = .ok (.getfield 22, 3) := by decide +kernel
theorem dX0_withImages_221 : decode cX0_withImages 221 = .ok (.bipush 6, 2) := by decide +kernel
theorem dX0_withImages_223 : decode cX0_withImages 223 = .ok (.aload_n 0, 1) := by decide +kernel
theorem dX0_withImages_224 : decode cX0_withImages 224 = .ok (.getfield 15, 3) := by decide +kernel
theorem dX0_withImages_227 : decode cX0_withImages 227 = .ok (.iconst 0, 1) := by decide +kernel
theorem dX0_withImages_228 : decode cX0_withImages 228 = .ok (.iload 7, 2) := by decide +kernel
theorem dX0_withImages_230 : decode cX0_withImages 230 = .ok (.invokevirtual 160, 3) := by decide +kernel
theorem dX0_withImages_233 : decode cX0_withImages 233 = .ok (.ireturn, 1) := by decide +kernel
theorem dX0_withMember_0 : decode cX0_withMember 0 = .ok (.aload_n 0, 1) := by decide +kernel
theorem dX0_withMember_1 : decode cX0_withMember 1 = .ok (.getfield 22, 3) := by decide +kernel
theorem dX0_withMember_4 : decode cX0_withMember 4 = .ok (.iload_n 1, 1) := by decide +kernel
theorem dX0_withMember_5 : decode cX0_withMember 5 = .ok (.invokevirtual 87, 3) := by decide +kernel
theorem dX0_withMember_8 : decode cX0_withMember 8 = .ok (.istore 4, 2) := by decide +kernel
theorem dX0_withMember_10 : decode cX0_withMember 10 = .ok (.iload 4, 2) := by decide +kernel
theorem dX0_withMember_12 : decode cX0_withMember 12 = .ok (.iconst 5, 1) := by decide +kernel
theorem dX0_withMember_13 : decode cX0_withMember 13 = .ok (.if_icmp .eq 33, 3) := by decide +kernel
theorem dX0_withMember_16 : decode cX0_withMember 16 = .ok (.iload 4, 2) := by decide +kernel
theorem dX0_withMember_18 : decode cX0_withMember 18 = .ok (.iconst 4, 1) := by decide +kernel
theorem dX0_withMember_19 : decode cX0_withMember 19 = .ok (.if_icmp .ne 31, 3) := by decide +kernel
theorem dX0_withMember_22 : decode cX0_withMember 22 = .ok (.aload_n 0, 1) := by decide +kernel
theorem dX0_withMember_23 : decode cX0_withMember 23 = .ok (.getfield 22, 3) := by decide +kernel
theorem dX0_withMember_26 : decode cX0_withMember 26 = .ok (.iload_n 3, 1) := by decide +kernel
theorem dX0_withMember_27 : decode cX0_withMember 27 = .ok (.invokevirtual 87, 3) := by decide +kernel
theorem dX0_withMember_30 : decode cX0_withMember 30 = .ok (.iconst 4, 1) := by decide +kernel
theorem dX0_withMember_31 : decode cX0_withMember 31 = .ok (.if_icmp .ne 19, 3) := by decide +kernel
theorem dX0_withMember_34 : decode cX0_withMember 34 = .ok (.aload_n 0, 1) := by decide +kernel
theorem dX0_withMember_35 : decode cX0_withMember 35 = .ok (.getfield 22, 3) := by decide +kernel
theorem dX0_withMember_38 : decode cX0_withMember 38 = .ok (.iload_n 3, 1) := by decide +kernel
theorem dX0_withMember_39 : decode cX0_withMember 39 = .ok (.invokevirtual 100, 3) := by decide +kernel
theorem dX0_withMember_42 : decode cX0_withMember 42 = .ok (.iconst 1, 1) := by decide +kernel
theorem dX0_withMember_43 : decode cX0_withMember 43 = .ok (.if_icmp .ne 7, 3) := by decide +kernel
theorem dX0_withMember_46 : decode cX0_withMember 46 = .ok (.iconst 1, 1) := by decide +kernel
theorem dX0_withMember_47 : decode cX0_withMember 47 = .ok (.goto 4, 3) := by decide +kernel
theorem dX0_withMember_50 : decode cX0_withMember 50 = .ok (.iconst 0, 1) := by decide +kernel
theorem dX0_withMember_51 : decode cX0_withMember 51 = .ok (.istore 5, 2) := by decide +kernel
theorem dX0_withMember_53 : decode cX0_withMember 53 = .ok (.iload 5, 2) := by decide +kernel
theorem dX0_withMember_55 : decode cX0_withMember 55 = .ok (.ifCond .eq 15, 3) := by decide +kernel
theorem dX0_withMember_58 : decode cX0_withMember 58 = .ok (.aload_n 0, 1) := by decide +kernel
theorem dX0_withMember_59 : decode cX0_withMember 59 = .ok (.getfield 22, 3) := by decide +kernel
theorem dX0_withMember_62 : decode cX0_withMember 62 = .ok (.iload_n 2, 1) := by decide +kernel
theorem dX0_withMember_63 : decode cX0_withMember 63 = .ok (.invokevirtual 87, 3) := by decide +kernel
theorem dX0_withMember_66 : decode cX0_withMember 66 = .ok (.iconst 2, 1) := by decide +kernel
theorem dX0_withMember_67 : decode cX0_withMember 67 = .ok (.if_icmp .eq 6, 3) := by decide +kernel
theorem dX0_withMember_70 : decode cX0_withMember 70 = .ok (.ldc 56, 2) := by decide +kernel
theorem dX0_withMember_72 : decode cX0_withMember 72 = .ok (.ireturn, 1) := by decide +kernel
theorem dX0_withMember_73 : decode cX0_withMember 73 = .ok (.aload_n 0, 1) := by decide +kernel
theorem dX0_withMember_74 : decode cX0_withMember 74 = .ok (.getfield 26, 3) := by decide +kernel
theorem dX0_withMember_77 : decode cX0_withMember 77 = .ok (.iload_n 2, 1) := by decide +kernel
theorem dX0_withMember_78 : decode cX0_withMember 78 = .ok (.invokevirtual 133, 3) := by decide +kernel
theorem dX0_withMember_81 : decode cX0_withMember 81 = .ok (.istore 6, 2) := by decide +kernel
theorem dX0_withMember_83 : decode cX0_withMember 83 = .ok (.aload_n 0, 1) := by decide +kernel
theorem dX0_withMember_84 : decode cX0_withMember 84 = .ok (.getfield 22, 3) := by decide +kernel
theorem dX0_withMember_87 : decode cX0_withMember 87 = .ok (.iload_n 1, 1) := by decide +kernel
theorem dX0_withMember_88 : decode cX0_withMember 88 = .ok (.invokevirtual 100, 3) := by decide +kernel
theorem dX0_withMember_91 : decode cX0_withMember 91 = .ok (.istore 7, 2) := by decide +kernel
theorem dX0_withMember_93 : decode cX0_withMember 93 = .ok (.iload 6, 2) := by decide +kernel
theorem dX0_withMember_95 : decode cX0_withMember 95 = .ok (.iconst 1, 1) := by decide +kernel
theorem dX0_withMember_96 : decode cX0_withMember 96 = .ok (.if_icmp .lt 18, 3) := by decide +kernel
theorem dX0_withMember_99 : decode cX0_withMember 99 = .ok (.iload 4, 2) := by decide +kernel
theorem dX0_withMember_101 : decode cX0_withMember 101 = .ok (.iconst 4, 1) := by decide +kernel
theorem dX0_withMember_102 : decode cX0_withMember 102 = .ok (.if_icmp .ne 15, 3) := by decide +kernel
theorem dX0_withMember_105 : decode cX0_withMember 105 = .ok (.iload 6, 2) := by decide +kernel
theorem dX0_withMember_107 : decode cX0_withMember 107 = .ok (.iload 7, 2) := by decide +kernel
theorem dX0_withMember_109 : decode cX0_withMember 109 = .ok (.iconst 1, 1) := by decide +kernel
theorem dX0_withMember_110 : decode cX0_withMember 110 = .ok (.iadd, 1) := by decide +kernel
theorem dX0_withMember_111 : decode cX0_withMember 111 = .ok (.if_icmp .le 6, 3) := by decide +kernel
theorem dX0_withMember_114 : decode cX0_withMember 114 = .ok (.ldc 132, 2) := by decide +kernel
theorem dX0_withMember_116 : decode cX0_withMember 116 = .ok (.ireturn, 1) := by decide +kernel
theorem dX0_withMember_117 : decode cX0_withMember 117 = .ok (.iload 4, 2) := by decide +kernel
theorem dX0_withMember_119 : decode cX0_withMember 119 = .ok (.iconst 4, 1) := by decide +kernel
theorem dX0_withMember_120 : decode cX0_withMember 120 = .ok (.if_icmp .ne 59, 3) := by decide +kernel
theorem dX0_withMember_123 : decode cX0_withMember 123 = .ok (.aload_n 0, 1) := by decide +kernel
theorem dX0_withMember_124 : decode cX0_withMember 124 = .ok (.getfield 22, 3) := by decide +kernel
theorem dX0_withMember_127 : decode cX0_withMember 127 = .ok (.iload_n 1, 1) := by decide +kernel
theorem dX0_withMember_128 : decode cX0_withMember 128 = .ok (.iconst 0, 1) := by decide +kernel
theorem dX0_withMember_129 : decode cX0_withMember 129 = .ok (.iload 7, 2) := by decide +kernel
theorem dX0_withMember_131 : decode cX0_withMember 131 = .ok (.aload_n 0, 1) := by decide +kernel
theorem dX0_withMember_132 : decode cX0_withMember 132 = .ok (.getfield 9, 3) := by decide +kernel
theorem dX0_withMember_135 : decode cX0_withMember 135 = .ok (.iconst 0, 1) := by decide +kernel
theorem dX0_withMember_136 : decode cX0_withMember 136 = .ok (.invokevirtual 114, 3) := by decide +kernel
theorem dX0_withMember_139 : decode cX0_withMember 139 = .ok (.pop, 1) := by decide +kernel
theorem dX0_withMember_140 : decode cX0_withMember 140 = .ok (.aload_n 0, 1) := by decide +kernel
theorem dX0_withMember_141 : decode cX0_withMember 141 = .ok (.getfield 9, 3) := by decide +kernel
theorem dX0_withMember_144 : decode cX0_withMember 144 = .ok (.iload 6, 2) := by decide +kernel
theorem dX0_withMember_146 : decode cX0_withMember 146 = .ok (.iconst 1, 1) := by decide +kernel
theorem dX0_withMember_147 : decode cX0_withMember 147 = .ok (.isub, 1) := by decide +kernel
theorem dX0_withMember_148 : decode cX0_withMember 148 = .ok (.aload_n 0, 1) := by decide +kernel
theorem dX0_withMember_149 : decode cX0_withMember 149 = .ok (.getfield 22, 3) := by decide +kernel
theorem dX0_withMember_152 : decode cX0_withMember 152 = .ok (.iload_n 3, 1) := by decide +kernel
theorem dX0_withMember_153 : decode cX0_withMember 153 = .ok (.iconst 0, 1) := by decide +kernel
theorem dX0_withMember_154 : decode cX0_withMember 154 = .ok (.invokevirtual 171, 3) := by decide +kernel
theorem dX0_withMember_157 : decode cX0_withMember 157 = .ok (.i2b, 1) := by decide +kernel
theorem dX0_withMember_158 : decode cX0_withMember 158 = .ok (.bastore, 1) := by decide +kernel
theorem dX0_withMember_159 : decode cX0_withMember 159 = .ok (.aload_n 0, 1) := by decide +kernel
theorem dX0_withMember_160 : decode cX0_withMember 160 = .ok (.getfield 22, 3) := by decide +kernel
theorem dX0_withMember_163 : decode cX0_withMember 163 = .ok (.aload_n 0, 1) := by decide +kernel
theorem dX0_withMember_164 : decode cX0_withMember 164 = .ok (.getfield 9, 3) := by decide +kernel
theorem dX0_withMember_167 : decode cX0_withMember 167 = .ok (.iconst 0, 1) := by decide +kernel
theorem dX0_withMember_168 : decode cX0_withMember 168 = .ok (.iload 7, 2) := by decide +kernel
theorem dX0_withMember_170 : decode cX0_withMember 170 = .ok (.iload 6, 2) := by decide +kernel
theorem dX0_withMember_172 : decode cX0_withMember 172 = .ok (.invokestatic 288, 3) := by decide +kernel
theorem dX0_withMember_175 : decode cX0_withMember 175 = .ok (.invokevirtual 118, 3) := by decide +kernel
theorem dX0_withMember_178 : decode cX0_withMember 178 = .ok (.ireturn, 1) := by decide +kernel
theorem dX0_withMember_179 : decode cX0_withMember 179 = .ok (.iload 6, 2) := by decide +kernel
theorem dX0_withMember_181 : decode cX0_withMember 181 = .ok (.iload 7, 2) := by decide +kernel
theorem dX0_withMember_183 : decode cX0_withMember 183 = .ok (.if_icmp .le 11, 3) := by decide +kernel
theorem dX0_withMember_186 : decode cX0_withMember 186 = .ok (.iload_n 3, 1) := by decide +kernel
theorem dX0_withMember_187 : decode cX0_withMember 187 = .ok (.ldc 167, 2) := by decide +kernel
theorem dX0_withMember_189 : decode cX0_withMember 189 = .ok (.if_icmp .ne 5, 3) := by decide +kernel
theorem dX0_withMember_192 : decode cX0_withMember 192 = .ok (.iload_n 1, 1) := by decide +kernel
theorem dX0_withMember_193 : decode cX0_withMember 193 = .ok (.ireturn, 1) := by decide +kernel
theorem dX0_withMember_194 : decode cX0_withMember 194 = .ok (.iload 6, 2) := by decide +kernel
theorem dX0_withMember_196 : decode cX0_withMember 196 = .ok (.sipush 1000, 3) := by decide +kernel
theorem dX0_withMember_199 : decode cX0_withMember 199 = .ok (.if_icmp .le 6, 3) := by decide +kernel
theorem dX0_withMember_202 : decode cX0_withMember 202 = .ok (.ldc 139, 2) := by decide +kernel
theorem dX0_withMember_204 : decode cX0_withMember 204 = .ok (.ireturn, 1) := by decide +kernel
theorem dX0_withMember_205 : decode cX0_withMember 205 = .ok (.aload_n 0, 1) := by decide +kernel
theorem dX0_withMember_206 : decode cX0_withMember 206 = .ok (.iload_n 1, 1) := by decide +kernel
theorem dX0_withMember_207 : decode cX0_withMember 207 = .ok (.iconst 0, 1) := by decide +kernel
theorem dX0_withMember_208 : decode cX0_withMember 208 = .ok (.iload 7, 2) := by decide +kernel
theorem dX0_withMember_210 : decode cX0_withMember 210 = .ok (.iconst 0, 1) := by decide +kernel
theorem dX0_withMember_211 : decode cX0_withMember 211 = .ok (.invokevirtual 103, 3) := by decide +kernel
theorem dX0_withMember_214 : decode cX0_withMember 214 = .ok (.pop, 1) := by decide +kernel
theorem dX0_withMember_215 : decode cX0_withMember 215 = .ok (.iload 7, 2) := by decide +kernel
theorem dX0_withMember_217 : decode cX0_withMember 217 = .ok (.istore 8, 2) := by decide +kernel
theorem dX0_withMember_219 : decode cX0_withMember 219 = .ok (.iload 8, 2) := by decide +kernel
theorem dX0_withMember_221 : decode cX0_withMember 221 = .ok (.iload 6, 2) := by decide +kernel
theorem dX0_withMember_223 : decode cX0_withMember 223 = .ok (.if_icmp .ge 18, 3) := by decide +kernel
theorem dX0_withMember_226 : decode cX0_withMember 226 = .ok (.aload_n 0, 1) := by decide +kernel
theorem dX0_withMember_227 : decode cX0_withMember 227 = .ok (.getfield 15, 3) := by decide +kernel
theorem dX0_withMember_230 : decode cX0_withMember 230 = .ok (.iload 8, 2) := by decide +kernel
theorem dX0_withMember_232 : decode cX0_withMember 232 = .ok (.ldc 167, 2) := by decide +kernel
theorem dX0_withMember_234 : decode cX0_withMember 234 = .ok (.iastore, 1) := by decide +kernel
theorem dX0_withMember_235 : decode cX0_withMember 235 = .ok (.iinc 8 1, 3) := by decide +kernel
theorem dX0_withMember_238 : decode cX0_withMember 238 = .ok (.goto (-19), 3) := by decide +kernel
theorem dX0_withMember_241 : decode cX0_withMember 241 = .ok (.aload_n 0, 1) := by decide +kernel
theorem dX0_withMember_242 : decode cX0_withMember 242 = .ok (.getfield 15, 3) := by decide +kernel
theorem dX0_withMember_245 : decode cX0_withMember 245 = .ok (.iload 6, 2) := by decide +kernel
theorem dX0_withMember_247 : decode cX0_withMember 247 = .ok (.iconst 1, 1) := by decide +kernel
theorem dX0_withMember_248 : decode cX0_withMember 248 = .ok (.isub, 1) := by decide +kernel
theorem dX0_withMember_249 : decode cX0_withMember 249 = .ok (.iload_n 3, 1) := by decide +kernel
theorem dX0_withMember_250 : decode cX0_withMember 250 = .ok (.iastore, 1) := by decide +kernel
theorem dX0_withMember_251 : decode cX0_withMember 251 = .ok (.aload_n 0, 1) := by decide +kernel
theorem dX0_withMember_252 : decode cX0_withMember 252 = .ok (.getfield 22, 3) := by decide +kernel
theorem dX0_withMember_255 : decode cX0_withMember 255 = .ok (.aload_n 0, 1) := by decide +kernel
theorem dX0_withMember_256 : decode cX0_withMember 256 = .ok (.getfield 15, 3) := by decide +kernel
theorem dX0_withMember_259 : decode cX0_withMember 259 = .ok (.iconst 0, 1) := by decide +kernel
theorem dX0_withMember_260 : decode cX0_withMember 260 = .ok (.iload 7, 2) := by decide +kernel
theorem dX0_withMember_262 : decode cX0_withMember 262 = .ok (.iload 6, 2) := by decide +kernel
theorem dX0_withMember_264 : decode cX0_withMember 264 = .ok (.invokestatic 288, 3) := by decide +kernel
theorem dX0_withMember_267 : decode cX0_withMember 267 = .ok (.invokevirtual 107, 3) := by decide +kernel
theorem dX0_withMember_270 : decode cX0_withMember 270 = .ok (.ireturn, 1) := by decide +kernel
theorem dX0_withPair_0 : decode cX0_withPair 0 = .ok (.aload_n 0, 1) := by decide +kernel
theorem dX0_withPair_1 : decode cX0_withPair 1 = .ok (.iload_n 1, 1) := by decide +kernel
theorem dX0_withPair_2 : decode cX0_withPair 2 = .ok (.iload_n 2, 1) := by decide +kernel
theorem dX0_withPair_3 : decode cX0_withPair 3 = .ok (.invokevirtual 267, 3) := by decide +kernel
theorem dX0_withPair_6 : decode cX0_withPair 6 = .ok (.istore 4, 2) := by decide +kernel
theorem dX0_withPair_8 : decode cX0_withPair 8 = .ok (.aload_n 0, 1) := by decide +kernel
theorem dX0_withPair_9 : decode cX0_withPair 9 = .ok (.iload_n 1, 1) := by decide +kernel
theorem dX0_withPair_10 : decode cX0_withPair 10 = .ok (.iload 4, 2) := by decide +kernel
theorem dX0_withPair_12 : decode cX0_withPair 12 = .ok (.iload_n 2, 1) := by decide +kernel
theorem dX0_withPair_13 : decode cX0_withPair 13 = .ok (.invokevirtual 270, 3) := by decide +kernel
theorem dX0_withPair_16 : decode cX0_withPair 16 = .ok (.istore 5, 2) := by decide +kernel
theorem dX0_withPair_18 : decode cX0_withPair 18 = .ok (.aload_n 0, 1) := by decide +kernel
theorem dX0_withPair_19 : decode cX0_withPair 19 = .ok (.iload_n 1, 1) := by decide +kernel
theorem dX0_withPair_20 : decode cX0_withPair 20 = .ok (.iconst 0, 1) := by decide +kernel
theorem dX0_withPair_21 : decode cX0_withPair 21 = .ok (.iload 4, 2) := by decide +kernel
theorem dX0_withPair_23 : decode cX0_withPair 23 = .ok (.iconst 0, 1) := by decide +kernel
theorem dX0_withPair_24 : decode cX0_withPair 24 = .ok (.invokevirtual 103, 3) := by decide +kernel
theorem dX0_withPair_27 : decode cX0_withPair 27 = .ok (.istore 6, 2) := by decide +kernel
theorem dX0_withPair_29 : decode cX0_withPair 29 = .ok (.iload_n 3, 1) := by decide +kernel
theorem dX0_withPair_30 : decode cX0_withPair 30 = .ok (.ldc 167, 2) := by decide +kernel
theorem dX0_withPair_32 : decode cX0_withPair 32 = .ok (.if_icmp .eq 40, 3) := by decide +kernel
theorem dX0_withPair_35 : decode cX0_withPair 35 = .ok (.aload_n 0, 1) := by decide +kernel
theorem dX0_withPair_36 : decode cX0_withPair 36 = .ok (.getfield 15, 3) := by decide +kernel
theorem dX0_withPair_39 : decode cX0_withPair 39 = .ok (.iload 6, 2) := by decide +kernel
theorem dX0_withPair_41 : decode cX0_withPair 41 = .ok (.aload_n 0, 1) := by decide +kernel
theorem dX0_withPair_42 : decode cX0_withPair 42 = .ok (.iload_n 2, 1) := by decide +kernel
theorem dX0_withPair_43 : decode cX0_withPair 43 = .ok (.iload_n 3, 1) := by decide +kernel
theorem dX0_withPair_44 : decode cX0_withPair 44 = .ok (.invokevirtual 291, 3) := by decide +kernel
theorem dX0_withPair_47 : decode cX0_withPair 47 = .ok (.iastore, 1) := by decide +kernel
theorem dX0_withPair_48 : decode cX0_withPair 48 = .ok (.aload_n 0, 1) := by decide +kernel
theorem dX0_withPair_49 : decode cX0_withPair 49 = .ok (.getfield 15, 3) := by decide +kernel
theorem dX0_withPair_52 : decode cX0_withPair 52 = .ok (.iload 6, 2) := by decide +kernel
theorem dX0_withPair_54 : decode cX0_withPair 54 = .ok (.iaload, 1) := by decide +kernel
theorem dX0_withPair_55 : decode cX0_withPair 55 = .ok (.invokestatic 72, 3) := by decide +kernel
theorem dX0_withPair_58 : decode cX0_withPair 58 = .ok (.ifCond .eq 11, 3) := by decide +kernel
theorem dX0_withPair_61 : decode cX0_withPair 61 = .ok (.aload_n 0, 1) := by decide +kernel
theorem dX0_withPair_62 : decode cX0_withPair 62 = .ok (.getfield 15, 3) := by decide +kernel
theorem dX0_withPair_65 : decode cX0_withPair 65 = .ok (.iload 6, 2) := by decide +kernel
theorem dX0_withPair_67 : decode cX0_withPair 67 = .ok (.iaload, 1) := by decide +kernel
theorem dX0_withPair_68 : decode cX0_withPair 68 = .ok (.ireturn, 1) := by decide +kernel
theorem dX0_withPair_69 : decode cX0_withPair 69 = .ok (.iinc 6 1, 3) := by decide +kernel
theorem dX0_withPair_72 : decode cX0_withPair 72 = .ok (.aload_n 0, 1) := by decide +kernel
theorem dX0_withPair_73 : decode cX0_withPair 73 = .ok (.iload_n 1, 1) := by decide +kernel
theorem dX0_withPair_74 : decode cX0_withPair 74 = .ok (.iload 5, 2) := by decide +kernel
theorem dX0_withPair_76 : decode cX0_withPair 76 = .ok (.aload_n 0, 1) := by decide +kernel
theorem dX0_withPair_77 : decode cX0_withPair 77 = .ok (.getfield 22, 3) := by decide +kernel
theorem dX0_withPair_80 : decode cX0_withPair 80 = .ok (.iload_n 1, 1) := by decide +kernel
theorem dX0_withPair_81 : decode cX0_withPair 81 = .ok (.invokevirtual 100, 3) := by decide +kernel
theorem dX0_withPair_84 : decode cX0_withPair 84 = .ok (.iload 6, 2) := by decide +kernel
theorem dX0_withPair_86 : decode cX0_withPair 86 = .ok (.invokevirtual 103, 3) := by decide +kernel
theorem dX0_withPair_89 : decode cX0_withPair 89 = .ok (.istore 6, 2) := by decide +kernel
theorem dX0_withPair_91 : decode cX0_withPair 91 = .ok (.aload_n 0, 1) := by decide +kernel
theorem dX0_withPair_92 : decode cX0_withPair 92 = .ok (.getfield 22, 3) := by decide +kernel
theorem dX0_withPair_95 : decode cX0_withPair 95 = .ok (.bipush 6, 2) := by decide +kernel
theorem dX0_withPair_97 : decode cX0_withPair 97 = .ok (.aload_n 0, 1) := by decide +kernel
theorem dX0_withPair_98 : decode cX0_withPair 98 = .ok (.getfield 15, 3) := by decide +kernel
theorem dX0_withPair_101 : decode cX0_withPair 101 = .ok (.iconst 0, 1) := by decide +kernel
theorem dX0_withPair_102 : decode cX0_withPair 102 = .ok (.iload 6, 2) := by decide +kernel
theorem dX0_withPair_104 : decode cX0_withPair 104 = .ok (.invokevirtual 160, 3) := by decide +kernel
theorem dX0_withPair_107 : decode cX0_withPair 107 = .ok (.ireturn, 1) := by decide +kernel
theorem dX0_withSlice_0 : decode cX0_withSlice 0 = .ok (.aload_n 0, 1) := by decide +kernel
theorem dX0_withSlice_1 : decode cX0_withSlice 1 = .ok (.getfield 22, 3) := by decide +kernel
theorem dX0_withSlice_4 : decode cX0_withSlice 4 = .ok (.iload 4, 2) := by decide +kernel
theorem dX0_withSlice_6 : decode cX0_withSlice 6 = .ok (.invokevirtual 87, 3) := by decide +kernel
theorem dX0_withSlice_9 : decode cX0_withSlice 9 = .ok (.aload_n 0, 1) := by decide +kernel
theorem dX0_withSlice_10 : decode cX0_withSlice 10 = .ok (.getfield 22, 3) := by decide +kernel
theorem dX0_withSlice_13 : decode cX0_withSlice 13 = .ok (.iload_n 1, 1) := by decide +kernel
theorem dX0_withSlice_14 : decode cX0_withSlice 14 = .ok (.invokevirtual 87, 3) := by decide +kernel
theorem dX0_withSlice_17 : decode cX0_withSlice 17 = .ok (.if_icmp .ne 13, 3) := by decide +kernel
theorem dX0_withSlice_20 : decode cX0_withSlice 20 = .ok (.aload_n 0, 1) := by decide +kernel
theorem dX0_withSlice_21 : decode cX0_withSlice 21 = .ok (.iload_n 1, 1) := by decide +kernel
theorem dX0_withSlice_22 : decode cX0_withSlice 22 = .ok (.iload_n 2, 1) := by decide +kernel
theorem dX0_withSlice_23 : decode cX0_withSlice 23 = .ok (.iload_n 3, 1) := by decide +kernel
theorem dX0_withSlice_24 : decode cX0_withSlice 24 = .ok (.invokevirtual 273, 3) := by decide +kernel
theorem dX0_withSlice_27 : decode cX0_withSlice 27 = .ok (.goto 5, 3) := by decide +kernel
theorem dX0_withSlice_30 : decode cX0_withSlice 30 = .ok (.ldc 56, 2) := by decide +kernel
theorem dX0_withSlice_32 : decode cX0_withSlice 32 = .ok (.istore 5, 2) := by decide +kernel
theorem dX0_withSlice_34 : decode cX0_withSlice 34 = .ok (.iload 5, 2) := by decide +kernel
theorem dX0_withSlice_36 : decode cX0_withSlice 36 = .ok (.ifCond .eq 6, 3) := by decide +kernel
theorem dX0_withSlice_39 : decode cX0_withSlice 39 = .ok (.iload 5, 2) := by decide +kernel
theorem dX0_withSlice_41 : decode cX0_withSlice 41 = .ok (.ireturn, 1) := by decide +kernel
theorem dX0_withSlice_42 : decode cX0_withSlice 42 = .ok (.aload_n 0, 1) := by decide +kernel
theorem dX0_withSlice_43 : decode cX0_withSlice 43 = .ok (.getfield 26, 3) := by decide +kernel
theorem dX0_withSlice_46 : decode cX0_withSlice 46 = .ok (.iload_n 2, 1) := by decide +kernel
theorem dX0_withSlice_47 : decode cX0_withSlice 47 = .ok (.invokevirtual 133, 3) := by decide +kernel
theorem dX0_withSlice_50 : decode cX0_withSlice 50 = .ok (.iconst 1, 1) := by decide +kernel
theorem dX0_withSlice_51 : decode cX0_withSlice 51 = .ok (.isub, 1) := by decide +kernel
theorem dX0_withSlice_52 : decode cX0_withSlice 52 = .ok (.istore 6, 2) := by decide +kernel
theorem dX0_withSlice_54 : decode cX0_withSlice 54 = .ok (.aload_n 0, 1) := by decide +kernel
theorem dX0_withSlice_55 : decode cX0_withSlice 55 = .ok (.getfield 26, 3) := by decide +kernel
theorem dX0_withSlice_58 : decode cX0_withSlice 58 = .ok (.iload_n 3, 1) := by decide +kernel
theorem dX0_withSlice_59 : decode cX0_withSlice 59 = .ok (.invokevirtual 133, 3) := by decide +kernel
theorem dX0_withSlice_62 : decode cX0_withSlice 62 = .ok (.istore 7, 2) := by decide +kernel
theorem dX0_withSlice_64 : decode cX0_withSlice 64 = .ok (.aload_n 0, 1) := by decide +kernel
theorem dX0_withSlice_65 : decode cX0_withSlice 65 = .ok (.getfield 22, 3) := by decide +kernel
theorem dX0_withSlice_68 : decode cX0_withSlice 68 = .ok (.iload_n 1, 1) := by decide +kernel
theorem dX0_withSlice_69 : decode cX0_withSlice 69 = .ok (.invokevirtual 100, 3) := by decide +kernel
theorem dX0_withSlice_72 : decode cX0_withSlice 72 = .ok (.istore 8, 2) := by decide +kernel
theorem dX0_withSlice_74 : decode cX0_withSlice 74 = .ok (.aload_n 0, 1) := by decide +kernel
theorem dX0_withSlice_75 : decode cX0_withSlice 75 = .ok (.getfield 22, 3) := by decide +kernel
theorem dX0_withSlice_78 : decode cX0_withSlice 78 = .ok (.iload_n 1, 1) := by decide +kernel
theorem dX0_withSlice_79 : decode cX0_withSlice 79 = .ok (.invokevirtual 87, 3) := by decide +kernel
theorem dX0_withSlice_82 : decode cX0_withSlice 82 = .ok (.iconst 4, 1) := by decide +kernel
theorem dX0_withSlice_83 : decode cX0_withSlice 83 = .ok (.if_icmp .ne 86, 3) := by decide +kernel
theorem dX0_withSlice_86 : decode cX0_withSlice 86 = .ok (.aload_n 0, 1) := by decide +kernel
theorem dX0_withSlice_87 : decode cX0_withSlice 87 = .ok (.getfield 22, 3) := by decide +kernel
theorem dX0_withSlice_90 : decode cX0_withSlice 90 = .ok (.iload_n 1, 1) := by decide +kernel
theorem dX0_withSlice_91 : decode cX0_withSlice 91 = .ok (.iconst 0, 1) := by decide +kernel
theorem dX0_withSlice_92 : decode cX0_withSlice 92 = .ok (.iload 6, 2) := by decide +kernel
theorem dX0_withSlice_94 : decode cX0_withSlice 94 = .ok (.aload_n 0, 1) := by decide +kernel
theorem dX0_withSlice_95 : decode cX0_withSlice 95 = .ok (.getfield 9, 3) := by decide +kernel
theorem dX0_withSlice_98 : decode cX0_withSlice 98 = .ok (.iconst 0, 1) := by decide +kernel
theorem dX0_withSlice_99 : decode cX0_withSlice 99 = .ok (.invokevirtual 114, 3) := by decide +kernel
theorem dX0_withSlice_102 : decode cX0_withSlice 102 = .ok (.istore 9, 2) := by decide +kernel
theorem dX0_withSlice_104 : decode cX0_withSlice 104 = .ok (.aload_n 0, 1) := by decide +kernel
theorem dX0_withSlice_105 : decode cX0_withSlice 105 = .ok (.getfield 22, 3) := by decide +kernel
theorem dX0_withSlice_108 : decode cX0_withSlice 108 = .ok (.iload 4, 2) := by decide +kernel
theorem dX0_withSlice_110 : decode cX0_withSlice 110 = .ok (.iconst 0, 1) := by decide +kernel
theorem dX0_withSlice_111 : decode cX0_withSlice 111 = .ok (.aload_n 0, 1) := by decide +kernel
theorem dX0_withSlice_112 : decode cX0_withSlice 112 = .ok (.getfield 22, 3) := by decide +kernel
theorem dX0_withSlice_115 : decode cX0_withSlice 115 = .ok (.iload 4, 2) := by decide +kernel
theorem dX0_withSlice_117 : decode cX0_withSlice 117 = .ok (.invokevirtual 100, 3) := by decide +kernel
theorem dX0_withSlice_120 : decode cX0_withSlice 120 = .ok (.aload_n 0, 1) := by decide +kernel
theorem dX0_withSlice_121 : decode cX0_withSlice 121 = .ok (.getfield 9, 3) := by decide +kernel
theorem dX0_withSlice_124 : decode cX0_withSlice 124 = .ok (.iload 9, 2) := by decide +kernel
theorem dX0_withSlice_126 : decode cX0_withSlice 126 = .ok (.invokevirtual 114, 3) := by decide +kernel
theorem dX0_withSlice_129 : decode cX0_withSlice 129 = .ok (.istore 9, 2) := by decide +kernel
theorem dX0_withSlice_131 : decode cX0_withSlice 131 = .ok (.aload_n 0, 1) := by decide +kernel
theorem dX0_withSlice_132 : decode cX0_withSlice 132 = .ok (.getfield 22, 3) := by decide +kernel
theorem dX0_withSlice_135 : decode cX0_withSlice 135 = .ok (.iload_n 1, 1) := by decide +kernel
theorem dX0_withSlice_136 : decode cX0_withSlice 136 = .ok (.iload 7, 2) := by decide +kernel
theorem dX0_withSlice_138 : decode cX0_withSlice 138 = .ok (.iload 8, 2) := by decide +kernel
theorem dX0_withSlice_140 : decode cX0_withSlice 140 = .ok (.iload 7, 2) := by decide +kernel
theorem dX0_withSlice_142 : decode cX0_withSlice 142 = .ok (.isub, 1) := by decide +kernel
theorem dX0_withSlice_143 : decode cX0_withSlice 143 = .ok (.aload_n 0, 1) := by decide +kernel
theorem dX0_withSlice_144 : decode cX0_withSlice 144 = .ok (.getfield 9, 3) := by decide +kernel
theorem dX0_withSlice_147 : decode cX0_withSlice 147 = .ok (.iload 9, 2) := by decide +kernel
theorem dX0_withSlice_149 : decode cX0_withSlice 149 = .ok (.invokevirtual 114, 3) := by decide +kernel
theorem dX0_withSlice_152 : decode cX0_withSlice 152 = .ok (.istore 9, 2) := by decide +kernel
theorem dX0_withSlice_154 : decode cX0_withSlice 154 = .ok (.aload_n 0, 1) := by decide +kernel
theorem dX0_withSlice_155 : decode cX0_withSlice 155 = .ok (.getfield 22, 3) := by decide +kernel
theorem dX0_withSlice_158 : decode cX0_withSlice 158 = .ok (.aload_n 0, 1) := by decide +kernel
theorem dX0_withSlice_159 : decode cX0_withSlice 159 = .ok (.getfield 9, 3) := by decide +kernel
theorem dX0_withSlice_162 : decode cX0_withSlice 162 = .ok (.iconst 0, 1) := by decide +kernel
theorem dX0_withSlice_163 : decode cX0_withSlice 163 = .ok (.iload 9, 2) := by decide +kernel
theorem dX0_withSlice_165 : decode cX0_withSlice 165 = .ok (.invokevirtual 118, 3) := by decide +kernel
theorem dX0_withSlice_168 : decode cX0_withSlice 168 = .ok (.ireturn, 1) := by decide +kernel
theorem dX0_withSlice_169 : decode cX0_withSlice 169 = .ok (.aload_n 0, 1) := by decide +kernel
theorem dX0_withSlice_170 : decode cX0_withSlice 170 = .ok (.iload_n 1, 1) := by decide +kernel
theorem dX0_withSlice_171 : decode cX0_withSlice 171 = .ok (.iconst 0, 1) := by decide +kernel
theorem dX0_withSlice_172 : decode cX0_withSlice 172 = .ok (.iload 6, 2) := by decide +kernel
theorem dX0_withSlice_174 : decode cX0_withSlice 174 = .ok (.iconst 0, 1) := by decide +kernel
theorem dX0_withSlice_175 : decode cX0_withSlice 175 = .ok (.invokevirtual 103, 3) := by decide +kernel
theorem dX0_withSlice_178 : decode cX0_withSlice 178 = .ok (.istore 9, 2) := by decide +kernel
theorem dX0_withSlice_180 : decode cX0_withSlice 180 = .ok (.aload_n 0, 1) := by decide +kernel
theorem dX0_withSlice_181 : decode cX0_withSlice 181 = .ok (.iload 4, 2) := by decide +kernel
theorem dX0_withSlice_183 : decode cX0_withSlice 183 = .ok (.iconst 0, 1) := by decide +kernel
theorem dX0_withSlice_184 : decode cX0_withSlice 184 = .ok (.aload_n 0, 1) := by decide +kernel
theorem dX0_withSlice_185 : decode cX0_withSlice 185 = .ok (.getfield 22, 3) := by decide +kernel
theorem dX0_withSlice_188 : decode cX0_withSlice 188 = .ok (.iload 4, 2) := by decide +kernel
theorem dX0_withSlice_190 : decode cX0_withSlice 190 = .ok (.invokevirtual 100, 3) := by decide +kernel
theorem dX0_withSlice_193 : decode cX0_withSlice 193 = .ok (.iload 9, 2) := by decide +kernel
theorem dX0_withSlice_195 : decode cX0_withSlice 195 = .ok (.invokevirtual 103, 3) := by decide +kernel
theorem dX0_withSlice_198 : decode cX0_withSlice 198 = .ok (.istore 9, 2) := by decide +kernel
theorem dX0_withSlice_200 : decode cX0_withSlice 200 = .ok (.aload_n 0, 1) := by decide +kernel
theorem dX0_withSlice_201 : decode cX0_withSlice 201 = .ok (.iload_n 1, 1) := by decide +kernel
theorem dX0_withSlice_202 : decode cX0_withSlice 202 = .ok (.iload 7, 2) := by decide +kernel
theorem dX0_withSlice_204 : decode cX0_withSlice 204 = .ok (.iload 8, 2) := by decide +kernel
theorem dX0_withSlice_206 : decode cX0_withSlice 206 = .ok (.iload 9, 2) := by decide +kernel
theorem dX0_withSlice_208 : decode cX0_withSlice 208 = .ok (.invokevirtual 103, 3) := by decide +kernel
theorem dX0_withSlice_211 : decode cX0_withSlice 211 = .ok (.istore 9, 2) := by decide +kernel
theorem dX0_withSlice_213 : decode cX0_withSlice 213 = .ok (.aload_n 0, 1) := by decide +kernel
theorem dX0_withSlice_214 : decode cX0_withSlice 214 = .ok (.getfield 22, 3) := by decide +kernel
theorem dX0_withSlice_217 : decode cX0_withSlice 217 = .ok (.aload_n 0, 1) := by decide +kernel
theorem dX0_withSlice_218 : decode cX0_withSlice 218 = .ok (.getfield 15, 3) := by decide +kernel
theorem dX0_withSlice_221 : decode cX0_withSlice 221 = .ok (.iconst 0, 1) := by decide +kernel
theorem dX0_withSlice_222 : decode cX0_withSlice 222 = .ok (.iload 9, 2) := by decide +kernel
theorem dX0_withSlice_224 : decode cX0_withSlice 224 = .ok (.invokevirtual 107, 3) := by decide +kernel
theorem dX0_withSlice_227 : decode cX0_withSlice 227 = .ok (.ireturn, 1) := by decide +kernel
theorem dX0_without_0 : decode cX0_without 0 = .ok (.iconst 0, 1) := by decide +kernel
theorem dX0_without_1 : decode cX0_without 1 = .ok (.istore_n 3, 1) := by decide +kernel
theorem dX0_without_2 : decode cX0_without 2 = .ok (.iconst 0, 1) := by decide +kernel
theorem dX0_without_3 : decode cX0_without 3 = .ok (.istore 4, 2) := by decide +kernel
theorem dX0_without_5 : decode cX0_without 5 = .ok (.iconst 0, 1) := by decide +kernel
theorem dX0_without_6 : decode cX0_without 6 = .ok (.istore 5, 2) := by decide +kernel
theorem dX0_without_8 : decode cX0_without 8 = .ok (.iload 5, 2) := by decide +kernel
theorem dX0_without_10 : decode cX0_without 10 = .ok (.aload_n 0, 1) := by decide +kernel
theorem dX0_without_11 : decode cX0_without 11 = .ok (.getfield 22, 3) := by decide +kernel
theorem dX0_without_14 : decode cX0_without 14 = .ok (.iload_n 2, 1) := by decide +kernel
theorem dX0_without_15 : decode cX0_without 15 = .ok (.invokevirtual 100, 3) := by decide +kernel
theorem dX0_without_18 : decode cX0_without 18 = .ok (.if_icmp .ge 88, 3) := by decide +kernel
theorem dX0_without_21 : decode cX0_without 21 = .ok (.aload_n 0, 1) := by decide +kernel
theorem dX0_without_22 : decode cX0_without 22 = .ok (.getfield 22, 3) := by decide +kernel
theorem dX0_without_25 : decode cX0_without 25 = .ok (.iload_n 2, 1) := by decide +kernel
theorem dX0_without_26 : decode cX0_without 26 = .ok (.iload 5, 2) := by decide +kernel
theorem dX0_without_28 : decode cX0_without 28 = .ok (.invokevirtual 154, 3) := by decide +kernel
theorem dX0_without_31 : decode cX0_without 31 = .ok (.istore 6, 2) := by decide +kernel
theorem dX0_without_33 : decode cX0_without 33 = .ok (.aload_n 0, 1) := by decide +kernel
theorem dX0_without_34 : decode cX0_without 34 = .ok (.iload_n 1, 1) := by decide +kernel
theorem dX0_without_35 : decode cX0_without 35 = .ok (.iload_n 3, 1) := by decide +kernel
theorem dX0_without_36 : decode cX0_without 36 = .ok (.iload 6, 2) := by decide +kernel
theorem dX0_without_38 : decode cX0_without 38 = .ok (.invokevirtual 157, 3) := by decide +kernel
theorem dX0_without_41 : decode cX0_without 41 = .ok (.istore 7, 2) := by decide +kernel
theorem dX0_without_43 : decode cX0_without 43 = .ok (.aload_n 0, 1) := by decide +kernel
theorem dX0_without_44 : decode cX0_without 44 = .ok (.iload_n 1, 1) := by decide +kernel
theorem dX0_without_45 : decode cX0_without 45 = .ok (.iload_n 3, 1) := by decide +kernel
theorem dX0_without_46 : decode cX0_without 46 = .ok (.iload 7, 2) := by decide +kernel
theorem dX0_without_48 : decode cX0_without 48 = .ok (.iload 4, 2) := by decide +kernel
theorem dX0_without_50 : decode cX0_without 50 = .ok (.invokevirtual 103, 3) := by decide +kernel
theorem dX0_without_53 : decode cX0_without 53 = .ok (.istore 4, 2) := by decide +kernel
theorem dX0_without_55 : decode cX0_without 55 = .ok (.iload 7, 2) := by decide +kernel
theorem dX0_without_57 : decode cX0_without 57 = .ok (.aload_n 0, 1) := by decide +kernel
theorem dX0_without_58 : decode cX0_without 58 = .ok (.getfield 22, 3) := by decide +kernel
theorem dX0_without_61 : decode cX0_without 61 = .ok (.iload_n 1, 1) := by decide +kernel
theorem dX0_without_62 : decode cX0_without 62 = .ok (.invokevirtual 100, 3) := by decide +kernel
theorem dX0_without_65 : decode cX0_without 65 = .ok (.if_icmp .ge 32, 3) := by decide +kernel
theorem dX0_without_68 : decode cX0_without 68 = .ok (.aload_n 0, 1) := by decide +kernel
theorem dX0_without_69 : decode cX0_without 69 = .ok (.getfield 22, 3) := by decide +kernel
theorem dX0_without_72 : decode cX0_without 72 = .ok (.aload_n 0, 1) := by decide +kernel
theorem dX0_without_73 : decode cX0_without 73 = .ok (.getfield 22, 3) := by decide +kernel
theorem dX0_without_76 : decode cX0_without 76 = .ok (.iload_n 1, 1) := by decide +kernel
theorem dX0_without_77 : decode cX0_without 77 = .ok (.iload 7, 2) := by decide +kernel
theorem dX0_without_79 : decode cX0_without 79 = .ok (.invokevirtual 154, 3) := by decide +kernel
theorem dX0_without_82 : decode cX0_without 82 = .ok (.iload 6, 2) := by decide +kernel
theorem dX0_without_84 : decode cX0_without 84 = .ok (.invokevirtual 60, 3) := by decide +kernel
theorem dX0_without_87 : decode cX0_without 87 = .ok (.ifCond .eq 10, 3) := by decide +kernel
theorem dX0_without_90 : decode cX0_without 90 = .ok (.iload 7, 2) := by decide +kernel
theorem dX0_without_92 : decode cX0_without 92 = .ok (.iconst 1, 1) := by decide +kernel
theorem dX0_without_93 : decode cX0_without 93 = .ok (.iadd, 1) := by decide +kernel
theorem dX0_without_94 : decode cX0_without 94 = .ok (.goto 5, 3) := by decide +kernel
theorem dX0_without_97 : decode cX0_without 97 = .ok (.iload 7, 2) := by decide +kernel
theorem dX0_without_99 : decode cX0_without 99 = .ok (.istore_n 3, 1) := by decide +kernel
theorem dX0_without_100 : decode cX0_without 100 = .ok (.iinc 5 1, 3) := by decide +kernel
theorem dX0_without_103 : decode cX0_without 103 = .ok (.goto (-95), 3) := by decide +kernel
theorem dX0_without_106 : decode cX0_without 106 = .ok (.aload_n 0, 1) := by decide +kernel
theorem dX0_without_107 : decode cX0_without 107 = .ok (.iload_n 1, 1) := by decide +kernel
theorem dX0_without_108 : decode cX0_without 108 = .ok (.iload_n 3, 1) := by decide +kernel
theorem dX0_without_109 : decode cX0_without 109 = .ok (.aload_n 0, 1) := by decide +kernel
theorem dX0_without_110 : decode cX0_without 110 = .ok (.getfield 22, 3) := by decide +kernel
theorem dX0_without_113 : decode cX0_without 113 = .ok (.iload_n 1, 1) := by decide +kernel
theorem dX0_without_114 : decode cX0_without 114 = .ok (.invokevirtual 100, 3) := by decide +kernel
theorem dX0_without_117 : decode cX0_without 117 = .ok (.iload 4, 2) := by decide +kernel
theorem dX0_without_119 : decode cX0_without 119 = .ok (.invokevirtual 103, 3) := by decide +kernel
theorem dX0_without_122 : decode cX0_without 122 = .ok (.istore 4, 2) := by decide +kernel
theorem dX0_without_124 : decode cX0_without 124 = .ok (.aload_n 0, 1) := by decide +kernel
theorem dX0_without_125 : decode cX0_without 125 = .ok (.getfield 22, 3) := by decide +kernel
theorem dX0_without_128 : decode cX0_without 128 = .ok (.bipush 6, 2) := by decide +kernel
theorem dX0_without_130 : decode cX0_without 130 = .ok (.aload_n 0, 1) := by decide +kernel
theorem dX0_without_131 : decode cX0_without 131 = .ok (.getfield 15, 3) := by decide +kernel
theorem dX0_without_134 : decode cX0_without 134 = .ok (.iconst 0, 1) := by decide +kernel
theorem dX0_without_135 : decode cX0_without 135 = .ok (.iload 4, 2) := by decide +kernel
theorem dX0_without_137 : decode cX0_without 137 = .ok (.invokevirtual 160, 3) := by decide +kernel
theorem dX0_without_140 : decode cX0_without 140 = .ok (.ireturn, 1) := by decide +kernel
theorem dX0_written_0 : decode cX0_written 0 = .ok (.iload_n 1, 1) := by decide +kernel
theorem dX0_written_1 : decode cX0_written 1 = .ok (.lookupswitch 69 #[(96, 27), (97, 58)], 27) := by decide +kernel
theorem dX0_written_28 : decode cX0_written 28 = .ok (.aload_n 0, 1) := by decide +kernel
theorem dX0_written_29 : decode cX0_written 29 = .ok (.getfield 22, 3) := by decide +kernel
theorem dX0_written_32 : decode cX0_written 32 = .ok (.iload_n 2, 1) := by decide +kernel
theorem dX0_written_33 : decode cX0_written 33 = .ok (.invokevirtual 191, 3) := by decide +kernel
theorem dX0_written_36 : decode cX0_written 36 = .ok (.ifCond .eq 14, 3) := by decide +kernel
theorem dX0_written_39 : decode cX0_written 39 = .ok (.aload_n 0, 1) := by decide +kernel
theorem dX0_written_40 : decode cX0_written 40 = .ok (.iload_n 2, 1) := by decide +kernel
theorem dX0_written_41 : decode cX0_written 41 = .ok (.iload_n 3, 1) := by decide +kernel
theorem dX0_written_42 : decode cX0_written 42 = .ok (.iload 5, 2) := by decide +kernel
theorem dX0_written_44 : decode cX0_written 44 = .ok (.invokevirtual 276, 3) := by decide +kernel
theorem dX0_written_47 : decode cX0_written 47 = .ok (.goto 11, 3) := by decide +kernel
theorem dX0_written_50 : decode cX0_written 50 = .ok (.aload_n 0, 1) := by decide +kernel
theorem dX0_written_51 : decode cX0_written 51 = .ok (.iload_n 2, 1) := by decide +kernel
theorem dX0_written_52 : decode cX0_written 52 = .ok (.iload_n 3, 1) := by decide +kernel
theorem dX0_written_53 : decode cX0_written 53 = .ok (.iload 5, 2) := by decide +kernel
theorem dX0_written_55 : decode cX0_written 55 = .ok (.invokevirtual 279, 3) := by decide +kernel
theorem dX0_written_58 : decode cX0_written 58 = .ok (.ireturn, 1) := by decide +kernel
theorem dX0_written_59 : decode cX0_written 59 = .ok (.aload_n 0, 1) := by decide +kernel
theorem dX0_written_60 : decode cX0_written 60 = .ok (.iload_n 2, 1) := by decide +kernel
theorem dX0_written_61 : decode cX0_written 61 = .ok (.iload_n 3, 1) := by decide +kernel
theorem dX0_written_62 : decode cX0_written 62 = .ok (.iload 4, 2) := by decide +kernel
theorem dX0_written_64 : decode cX0_written 64 = .ok (.iload 5, 2) := by decide +kernel
theorem dX0_written_66 : decode cX0_written 66 = .ok (.invokevirtual 282, 3) := by decide +kernel
theorem dX0_written_69 : decode cX0_written 69 = .ok (.ireturn, 1) := by decide +kernel
theorem dX0_written_70 : decode cX0_written 70 = .ok (.aload_n 0, 1) := by decide +kernel
theorem dX0_written_71 : decode cX0_written 71 = .ok (.getfield 22, 3) := by decide +kernel
theorem dX0_written_74 : decode cX0_written 74 = .ok (.iload_n 2, 1) := by decide +kernel
theorem dX0_written_75 : decode cX0_written 75 = .ok (.invokevirtual 191, 3) := by decide +kernel
theorem dX0_written_78 : decode cX0_written 78 = .ok (.ifCond .eq 28, 3) := by decide +kernel
theorem dX0_written_81 : decode cX0_written 81 = .ok (.aload_n 0, 1) := by decide +kernel
theorem dX0_written_82 : decode cX0_written 82 = .ok (.getfield 22, 3) := by decide +kernel
theorem dX0_written_85 : decode cX0_written 85 = .ok (.iload 5, 2) := by decide +kernel
theorem dX0_written_87 : decode cX0_written 87 = .ok (.invokevirtual 87, 3) := by decide +kernel
theorem dX0_written_90 : decode cX0_written 90 = .ok (.bipush 6, 2) := by decide +kernel
theorem dX0_written_92 : decode cX0_written 92 = .ok (.if_icmp .ne 14, 3) := by decide +kernel
theorem dX0_written_95 : decode cX0_written 95 = .ok (.aload_n 0, 1) := by decide +kernel
theorem dX0_written_96 : decode cX0_written 96 = .ok (.iload_n 2, 1) := by decide +kernel
theorem dX0_written_97 : decode cX0_written 97 = .ok (.iload_n 3, 1) := by decide +kernel
theorem dX0_written_98 : decode cX0_written 98 = .ok (.iload 5, 2) := by decide +kernel
theorem dX0_written_100 : decode cX0_written 100 = .ok (.invokevirtual 285, 3) := by decide +kernel
theorem dX0_written_103 : decode cX0_written 103 = .ok (.goto 5, 3) := by decide +kernel
theorem dX0_written_106 : decode cX0_written 106 = .ok (.ldc 56, 2) := by decide +kernel
theorem dX0_written_108 : decode cX0_written 108 = .ok (.ireturn, 1) := by decide +kernel
theorem dX10_absolute_0 : decode cX10_absolute 0 = .ok (.aload_n 0, 1) := by decide +kernel
theorem dX10_absolute_1 : decode cX10_absolute 1 = .ok (.iload_n 1, 1) := by decide +kernel
theorem dX10_absolute_2 : decode cX10_absolute 2 = .ok (.invokevirtual 68, 3) := by decide +kernel
theorem dX10_absolute_5 : decode cX10_absolute 5 = .ok (.ifCond .eq 11, 3) := by decide +kernel
theorem dX10_absolute_8 : decode cX10_absolute 8 = .ok (.aload_n 0, 1) := by decide +kernel
theorem dX10_absolute_9 : decode cX10_absolute 9 = .ok (.iload_n 1, 1) := by decide +kernel
theorem dX10_absolute_10 : decode cX10_absolute 10 = .ok (.invokevirtual 76, 3) := by decide +kernel
theorem dX10_absolute_13 : decode cX10_absolute 13 = .ok (.goto 4, 3) := by decide +kernel
theorem dX10_absolute_16 : decode cX10_absolute 16 = .ok (.iload_n 1, 1) := by decide +kernel
theorem dX10_absolute_17 : decode cX10_absolute 17 = .ok (.ireturn, 1) := by decide +kernel
theorem dX10_addBack_0 : decode cX10_addBack 0 = .ok (.iconst 0, 1) := by decide +kernel
theorem dX10_addBack_1 : decode cX10_addBack 1 = .ok (.istore_n 3, 1) := by decide +kernel
theorem dX10_addBack_2 : decode cX10_addBack 2 = .ok (.iconst 0, 1) := by decide +kernel
theorem dX10_addBack_3 : decode cX10_addBack 3 = .ok (.istore 4, 2) := by decide +kernel
theorem dX10_addBack_5 : decode cX10_addBack 5 = .ok (.iload 4, 2) := by decide +kernel
theorem dX10_addBack_7 : decode cX10_addBack 7 = .ok (.iload_n 2, 1) := by decide +kernel
theorem dX10_addBack_8 : decode cX10_addBack 8 = .ok (.if_icmp .ge 47, 3) := by decide +kernel
theorem dX10_addBack_11 : decode cX10_addBack 11 = .ok (.iload_n 3, 1) := by decide +kernel
theorem dX10_addBack_12 : decode cX10_addBack 12 = .ok (.aload_n 0, 1) := by decide +kernel
theorem dX10_addBack_13 : decode cX10_addBack 13 = .ok (.getfield 21, 3) := by decide +kernel
theorem dX10_addBack_16 : decode cX10_addBack 16 = .ok (.iload_n 1, 1) := by decide +kernel
theorem dX10_addBack_17 : decode cX10_addBack 17 = .ok (.iload 4, 2) := by decide +kernel
theorem dX10_addBack_19 : decode cX10_addBack 19 = .ok (.iadd, 1) := by decide +kernel
theorem dX10_addBack_20 : decode cX10_addBack 20 = .ok (.iaload, 1) := by decide +kernel
theorem dX10_addBack_21 : decode cX10_addBack 21 = .ok (.iadd, 1) := by decide +kernel
theorem dX10_addBack_22 : decode cX10_addBack 22 = .ok (.aload_n 0, 1) := by decide +kernel
theorem dX10_addBack_23 : decode cX10_addBack 23 = .ok (.getfield 24, 3) := by decide +kernel
theorem dX10_addBack_26 : decode cX10_addBack 26 = .ok (.iload 4, 2) := by decide +kernel
theorem dX10_addBack_28 : decode cX10_addBack 28 = .ok (.iaload, 1) := by decide +kernel
theorem dX10_addBack_29 : decode cX10_addBack 29 = .ok (.iadd, 1) := by decide +kernel
theorem dX10_addBack_30 : decode cX10_addBack 30 = .ok (.istore_n 3, 1) := by decide +kernel
theorem dX10_addBack_31 : decode cX10_addBack 31 = .ok (.aload_n 0, 1) := by decide +kernel
theorem dX10_addBack_32 : decode cX10_addBack 32 = .ok (.getfield 21, 3) := by decide +kernel
theorem dX10_addBack_35 : decode cX10_addBack 35 = .ok (.iload_n 1, 1) := by decide +kernel
theorem dX10_addBack_36 : decode cX10_addBack 36 = .ok (.iload 4, 2) := by decide +kernel
theorem dX10_addBack_38 : decode cX10_addBack 38 = .ok (.iadd, 1) := by decide +kernel
theorem dX10_addBack_39 : decode cX10_addBack 39 = .ok (.iload_n 3, 1) := by decide +kernel
theorem dX10_addBack_40 : decode cX10_addBack 40 = .ok (.ldc 149, 2) := by decide +kernel
theorem dX10_addBack_42 : decode cX10_addBack 42 = .ok (.iand, 1) := by decide +kernel
theorem dX10_addBack_43 : decode cX10_addBack 43 = .ok (.iastore, 1) := by decide +kernel
theorem dX10_addBack_44 : decode cX10_addBack 44 = .ok (.iload_n 3, 1) := by decide +kernel
theorem dX10_addBack_45 : decode cX10_addBack 45 = .ok (.bipush 16, 2) := by decide +kernel
theorem dX10_addBack_47 : decode cX10_addBack 47 = .ok (.iushr, 1) := by decide +kernel
theorem dX10_addBack_48 : decode cX10_addBack 48 = .ok (.istore_n 3, 1) := by decide +kernel
theorem dX10_addBack_49 : decode cX10_addBack 49 = .ok (.iinc 4 1, 3) := by decide +kernel
theorem dX10_addBack_52 : decode cX10_addBack 52 = .ok (.goto (-47), 3) := by decide +kernel
theorem dX10_addBack_55 : decode cX10_addBack 55 = .ok (.aload_n 0, 1) := by decide +kernel
theorem dX10_addBack_56 : decode cX10_addBack 56 = .ok (.getfield 21, 3) := by decide +kernel
theorem dX10_addBack_59 : decode cX10_addBack 59 = .ok (.iload_n 1, 1) := by decide +kernel
theorem dX10_addBack_60 : decode cX10_addBack 60 = .ok (.iload_n 2, 1) := by decide +kernel
theorem dX10_addBack_61 : decode cX10_addBack 61 = .ok (.iadd, 1) := by decide +kernel
theorem dX10_addBack_62 : decode cX10_addBack 62 = .ok (.aload_n 0, 1) := by decide +kernel
theorem dX10_addBack_63 : decode cX10_addBack 63 = .ok (.getfield 21, 3) := by decide +kernel
theorem dX10_addBack_66 : decode cX10_addBack 66 = .ok (.iload_n 1, 1) := by decide +kernel
theorem dX10_addBack_67 : decode cX10_addBack 67 = .ok (.iload_n 2, 1) := by decide +kernel
theorem dX10_addBack_68 : decode cX10_addBack 68 = .ok (.iadd, 1) := by decide +kernel
theorem dX10_addBack_69 : decode cX10_addBack 69 = .ok (.iaload, 1) := by decide +kernel
theorem dX10_addBack_70 : decode cX10_addBack 70 = .ok (.iload_n 3, 1) := by decide +kernel
theorem dX10_addBack_71 : decode cX10_addBack 71 = .ok (.iadd, 1) := by decide +kernel
theorem dX10_addBack_72 : decode cX10_addBack 72 = .ok (.ldc 149, 2) := by decide +kernel
theorem dX10_addBack_74 : decode cX10_addBack 74 = .ok (.iand, 1) := by decide +kernel
theorem dX10_addBack_75 : decode cX10_addBack 75 = .ok (.iastore, 1) := by decide +kernel
theorem dX10_addBack_76 : decode cX10_addBack 76 = .ok (.return_, 1) := by decide +kernel
theorem dX10_addLimbs_0 : decode cX10_addLimbs 0 = .ok (.iload_n 1, 1) := by decide +kernel
theorem dX10_addLimbs_1 : decode cX10_addLimbs 1 = .ok (.iload_n 2, 1) := by decide +kernel
theorem dX10_addLimbs_2 : decode cX10_addLimbs 2 = .ok (.invokestatic 100, 3) := by decide +kernel
theorem dX10_addLimbs_5 : decode cX10_addLimbs 5 = .ok (.istore_n 3, 1) := by decide +kernel
theorem dX10_addLimbs_6 : decode cX10_addLimbs 6 = .ok (.lconst 0, 1) := by decide +kernel
theorem dX10_addLimbs_7 : decode cX10_addLimbs 7 = .ok (.lstore 4, 2) := by decide +kernel
theorem dX10_addLimbs_9 : decode cX10_addLimbs 9 = .ok (.iconst 0, 1) := by decide +kernel
theorem dX10_addLimbs_10 : decode cX10_addLimbs 10 = .ok (.istore 6, 2) := by decide +kernel
theorem dX10_addLimbs_12 : decode cX10_addLimbs 12 = .ok (.iload 6, 2) := by decide +kernel
theorem dX10_addLimbs_14 : decode cX10_addLimbs 14 = .ok (.iload_n 3, 1) := by decide +kernel
theorem dX10_addLimbs_15 : decode cX10_addLimbs 15 = .ok (.if_icmp .ge 76, 3) := by decide +kernel
theorem dX10_addLimbs_18 : decode cX10_addLimbs 18 = .ok (.lload 4, 2) := by decide +kernel
theorem dX10_addLimbs_20 : decode cX10_addLimbs 20 = .ok (.iload 6, 2) := by decide +kernel
theorem dX10_addLimbs_22 : decode cX10_addLimbs 22 = .ok (.iload_n 1, 1) := by decide +kernel
theorem dX10_addLimbs_23 : decode cX10_addLimbs 23 = .ok (.if_icmp .ge 18, 3) := by decide +kernel
theorem dX10_addLimbs_26 : decode cX10_addLimbs 26 = .ok (.aload_n 0, 1) := by decide +kernel
theorem dX10_addLimbs_27 : decode cX10_addLimbs 27 = .ok (.getfield 9, 3) := by decide +kernel
theorem dX10_addLimbs_30 : decode cX10_addLimbs 30 = .ok (.iload 6, 2) := by decide +kernel
theorem dX10_addLimbs_32 : decode cX10_addLimbs 32 = .ok (.iaload, 1) := by decide +kernel
theorem dX10_addLimbs_33 : decode cX10_addLimbs 33 = .ok (.i2l, 1) := by decide +kernel
theorem dX10_addLimbs_34 : decode cX10_addLimbs 34 = .ok (.ldc2_w 105, 3) := by decide +kernel
theorem dX10_addLimbs_37 : decode cX10_addLimbs 37 = .ok (.land, 1) := by decide +kernel
theorem dX10_addLimbs_38 : decode cX10_addLimbs 38 = .ok (.goto 4, 3) := by decide +kernel
theorem dX10_addLimbs_41 : decode cX10_addLimbs 41 = .ok (.lconst 0, 1) := by decide +kernel
theorem dX10_addLimbs_42 : decode cX10_addLimbs 42 = .ok (.ladd, 1) := by decide +kernel
theorem dX10_addLimbs_43 : decode cX10_addLimbs 43 = .ok (.iload 6, 2) := by decide +kernel
theorem dX10_addLimbs_45 : decode cX10_addLimbs 45 = .ok (.iload_n 2, 1) := by decide +kernel
theorem dX10_addLimbs_46 : decode cX10_addLimbs 46 = .ok (.if_icmp .ge 18, 3) := by decide +kernel
theorem dX10_addLimbs_49 : decode cX10_addLimbs 49 = .ok (.aload_n 0, 1) := by decide +kernel
theorem dX10_addLimbs_50 : decode cX10_addLimbs 50 = .ok (.getfield 15, 3) := by decide +kernel
theorem dX10_addLimbs_53 : decode cX10_addLimbs 53 = .ok (.iload 6, 2) := by decide +kernel
theorem dX10_addLimbs_55 : decode cX10_addLimbs 55 = .ok (.iaload, 1) := by decide +kernel
theorem dX10_addLimbs_56 : decode cX10_addLimbs 56 = .ok (.i2l, 1) := by decide +kernel
theorem dX10_addLimbs_57 : decode cX10_addLimbs 57 = .ok (.ldc2_w 105, 3) := by decide +kernel
theorem dX10_addLimbs_60 : decode cX10_addLimbs 60 = .ok (.land, 1) := by decide +kernel
theorem dX10_addLimbs_61 : decode cX10_addLimbs 61 = .ok (.goto 4, 3) := by decide +kernel
theorem dX10_addLimbs_64 : decode cX10_addLimbs 64 = .ok (.lconst 0, 1) := by decide +kernel
theorem dX10_addLimbs_65 : decode cX10_addLimbs 65 = .ok (.ladd, 1) := by decide +kernel
theorem dX10_addLimbs_66 : decode cX10_addLimbs 66 = .ok (.lstore 4, 2) := by decide +kernel
theorem dX10_addLimbs_68 : decode cX10_addLimbs 68 = .ok (.aload_n 0, 1) := by decide +kernel
theorem dX10_addLimbs_69 : decode cX10_addLimbs 69 = .ok (.getfield 18, 3) := by decide +kernel
theorem dX10_addLimbs_72 : decode cX10_addLimbs 72 = .ok (.iload 6, 2) := by decide +kernel
theorem dX10_addLimbs_74 : decode cX10_addLimbs 74 = .ok (.lload 4, 2) := by decide +kernel
theorem dX10_addLimbs_76 : decode cX10_addLimbs 76 = .ok (.l2i, 1) := by decide +kernel
theorem dX10_addLimbs_77 : decode cX10_addLimbs 77 = .ok (.iastore, 1) := by decide +kernel
theorem dX10_addLimbs_78 : decode cX10_addLimbs 78 = .ok (.lload 4, 2) := by decide +kernel
theorem dX10_addLimbs_80 : decode cX10_addLimbs 80 = .ok (.bipush 32, 2) := by decide +kernel
theorem dX10_addLimbs_82 : decode cX10_addLimbs 82 = .ok (.lushr, 1) := by decide +kernel
theorem dX10_addLimbs_83 : decode cX10_addLimbs 83 = .ok (.lstore 4, 2) := by decide +kernel
theorem dX10_addLimbs_85 : decode cX10_addLimbs 85 = .ok (.iinc 6 1, 3) := by decide +kernel
theorem dX10_addLimbs_88 : decode cX10_addLimbs 88 = .ok (.goto (-76), 3) := by decide +kernel
theorem dX10_addLimbs_91 : decode cX10_addLimbs 91 = .ok (.aload_n 0, 1) := by decide +kernel
theorem dX10_addLimbs_92 : decode cX10_addLimbs 92 = .ok (.getfield 18, 3) := by decide +kernel
theorem dX10_addLimbs_95 : decode cX10_addLimbs 95 = .ok (.iload_n 3, 1) := by decide +kernel
theorem dX10_addLimbs_96 : decode cX10_addLimbs 96 = .ok (.lload 4, 2) := by decide +kernel
theorem dX10_addLimbs_98 : decode cX10_addLimbs 98 = .ok (.l2i, 1) := by decide +kernel
theorem dX10_addLimbs_99 : decode cX10_addLimbs 99 = .ok (.iastore, 1) := by decide +kernel
theorem dX10_addLimbs_100 : decode cX10_addLimbs 100 = .ok (.iload_n 3, 1) := by decide +kernel
theorem dX10_addLimbs_101 : decode cX10_addLimbs 101 = .ok (.iconst 1, 1) := by decide +kernel
theorem dX10_addLimbs_102 : decode cX10_addLimbs 102 = .ok (.iadd, 1) := by decide +kernel
theorem dX10_addLimbs_103 : decode cX10_addLimbs 103 = .ok (.ireturn, 1) := by decide +kernel
theorem dX10_addOne_0 : decode cX10_addOne 0 = .ok (.iconst 0, 1) := by decide +kernel
theorem dX10_addOne_1 : decode cX10_addOne 1 = .ok (.istore_n 2, 1) := by decide +kernel
theorem dX10_addOne_2 : decode cX10_addOne 2 = .ok (.iload_n 2, 1) := by decide +kernel
theorem dX10_addOne_3 : decode cX10_addOne 3 = .ok (.iload_n 1, 1) := by decide +kernel
theorem dX10_addOne_4 : decode cX10_addOne 4 = .ok (.if_icmp .ge 30, 3) := by decide +kernel
theorem dX10_addOne_7 : decode cX10_addOne 7 = .ok (.aload_n 0, 1) := by decide +kernel
theorem dX10_addOne_8 : decode cX10_addOne 8 = .ok (.getfield 18, 3) := by decide +kernel
theorem dX10_addOne_11 : decode cX10_addOne 11 = .ok (.iload_n 2, 1) := by decide +kernel
theorem dX10_addOne_12 : decode cX10_addOne 12 = .ok (.dup2, 1) := by decide +kernel
theorem dX10_addOne_13 : decode cX10_addOne 13 = .ok (.iaload, 1) := by decide +kernel
theorem dX10_addOne_14 : decode cX10_addOne 14 = .ok (.iconst 1, 1) := by decide +kernel
theorem dX10_addOne_15 : decode cX10_addOne 15 = .ok (.iadd, 1) := by decide +kernel
theorem dX10_addOne_16 : decode cX10_addOne 16 = .ok (.iastore, 1) := by decide +kernel
theorem dX10_addOne_17 : decode cX10_addOne 17 = .ok (.aload_n 0, 1) := by decide +kernel
theorem dX10_addOne_18 : decode cX10_addOne 18 = .ok (.getfield 18, 3) := by decide +kernel
theorem dX10_addOne_21 : decode cX10_addOne 21 = .ok (.iload_n 2, 1) := by decide +kernel
theorem dX10_addOne_22 : decode cX10_addOne 22 = .ok (.iaload, 1) := by decide +kernel
theorem dX10_addOne_23 : decode cX10_addOne 23 = .ok (.ifCond .eq 5, 3) := by decide +kernel
theorem dX10_addOne_26 : decode cX10_addOne 26 = .ok (.iload_n 1, 1) := by decide +kernel
theorem dX10_addOne_27 : decode cX10_addOne 27 = .ok (.ireturn, 1) := by decide +kernel
theorem dX10_addOne_28 : decode cX10_addOne 28 = .ok (.iinc 2 1, 3) := by decide +kernel
theorem dX10_addOne_31 : decode cX10_addOne 31 = .ok (.goto (-29), 3) := by decide +kernel
theorem dX10_addOne_34 : decode cX10_addOne 34 = .ok (.aload_n 0, 1) := by decide +kernel
theorem dX10_addOne_35 : decode cX10_addOne 35 = .ok (.getfield 18, 3) := by decide +kernel
theorem dX10_addOne_38 : decode cX10_addOne 38 = .ok (.iload_n 1, 1) := by decide +kernel
theorem dX10_addOne_39 : decode cX10_addOne 39 = .ok (.iconst 1, 1) := by decide +kernel
theorem dX10_addOne_40 : decode cX10_addOne 40 = .ok (.iastore, 1) := by decide +kernel
theorem dX10_addOne_41 : decode cX10_addOne 41 = .ok (.iload_n 1, 1) := by decide +kernel
theorem dX10_addOne_42 : decode cX10_addOne 42 = .ok (.iconst 1, 1) := by decide +kernel
theorem dX10_addOne_43 : decode cX10_addOne 43 = .ok (.iadd, 1) := by decide +kernel
theorem dX10_addOne_44 : decode cX10_addOne 44 = .ok (.ireturn, 1) := by decide +kernel
theorem dX10_added_0 : decode cX10_added 0 = .ok (.iload_n 1, 1) := by decide +kernel
theorem dX10_added_1 : decode cX10_added 1 = .ok (.ifCond .ge 39, 3) := by decide +kernel
theorem dX10_added_4 : decode cX10_added 4 = .ok (.iload_n 2, 1) := by decide +kernel
theorem dX10_added_5 : decode cX10_added 5 = .ok (.ifCond .ge 35, 3) := by decide +kernel
theorem dX10_added_8 : decode cX10_added 8 = .ok (.iload_n 2, 1) := by decide +kernel
theorem dX10_added_9 : decode cX10_added 9 = .ok (.iconst 4, 1) := by decide +kernel
theorem dX10_added_10 : decode cX10_added 10 = .ok (.ishl, 1) := by decide +kernel
theorem dX10_added_11 : decode cX10_added 11 = .ok (.iconst 4, 1) := by decide +kernel
theorem dX10_added_12 : decode cX10_added 12 = .ok (.ishr, 1) := by decide +kernel
theorem dX10_added_13 : decode cX10_added 13 = .ok (.i2l, 1) := by decide +kernel
theorem dX10_added_14 : decode cX10_added 14 = .ok (.lstore 4, 2) := by decide +kernel
theorem dX10_added_16 : decode cX10_added 16 = .ok (.aload_n 0, 1) := by decide +kernel
theorem dX10_added_17 : decode cX10_added 17 = .ok (.iload_n 1, 1) := by decide +kernel
theorem dX10_added_18 : decode cX10_added 18 = .ok (.iconst 4, 1) := by decide +kernel
theorem dX10_added_19 : decode cX10_added 19 = .ok (.ishl, 1) := by decide +kernel
theorem dX10_added_20 : decode cX10_added 20 = .ok (.iconst 4, 1) := by decide +kernel
theorem dX10_added_21 : decode cX10_added 21 = .ok (.ishr, 1) := by decide +kernel
theorem dX10_added_22 : decode cX10_added 22 = .ok (.i2l, 1) := by decide +kernel
theorem dX10_added_23 : decode cX10_added 23 = .ok (.iload_n 3, 1) := by decide +kernel
theorem dX10_added_24 : decode cX10_added 24 = .ok (.ifCond .eq 9, 3) := by decide +kernel
theorem dX10_added_27 : decode cX10_added 27 = .ok (.lload 4, 2) := by decide +kernel
theorem dX10_added_29 : decode cX10_added 29 = .ok (.lneg, 1) := by decide +kernel
theorem dX10_added_30 : decode cX10_added 30 = .ok (.goto 5, 3) := by decide +kernel
theorem dX10_added_33 : decode cX10_added 33 = .ok (.lload 4, 2) := by decide +kernel
theorem dX10_added_35 : decode cX10_added 35 = .ok (.ladd, 1) := by decide +kernel
theorem dX10_added_36 : decode cX10_added 36 = .ok (.invokevirtual 79, 3) := by decide +kernel
theorem dX10_added_39 : decode cX10_added 39 = .ok (.ireturn, 1) := by decide +kernel
theorem dX10_added_40 : decode cX10_added 40 = .ok (.aload_n 0, 1) := by decide +kernel
theorem dX10_added_41 : decode cX10_added 41 = .ok (.iload_n 1, 1) := by decide +kernel
theorem dX10_added_42 : decode cX10_added 42 = .ok (.aload_n 0, 1) := by decide +kernel
theorem dX10_added_43 : decode cX10_added 43 = .ok (.getfield 9, 3) := by decide +kernel
theorem dX10_added_46 : decode cX10_added 46 = .ok (.invokevirtual 64, 3) := by decide +kernel
theorem dX10_added_49 : decode cX10_added 49 = .ok (.istore 4, 2) := by decide +kernel
theorem dX10_added_51 : decode cX10_added 51 = .ok (.aload_n 0, 1) := by decide +kernel
theorem dX10_added_52 : decode cX10_added 52 = .ok (.iload_n 2, 1) := by decide +kernel
theorem dX10_added_53 : decode cX10_added 53 = .ok (.aload_n 0, 1) := by decide +kernel
theorem dX10_added_54 : decode cX10_added 54 = .ok (.getfield 15, 3) := by decide +kernel
theorem dX10_added_57 : decode cX10_added 57 = .ok (.invokevirtual 64, 3) := by decide +kernel
theorem dX10_added_60 : decode cX10_added 60 = .ok (.istore 5, 2) := by decide +kernel
theorem dX10_added_62 : decode cX10_added 62 = .ok (.aload_n 0, 1) := by decide +kernel
theorem dX10_added_63 : decode cX10_added 63 = .ok (.iload_n 1, 1) := by decide +kernel
theorem dX10_added_64 : decode cX10_added 64 = .ok (.invokevirtual 68, 3) := by decide +kernel
theorem dX10_added_67 : decode cX10_added 67 = .ok (.istore 6, 2) := by decide +kernel
theorem dX10_added_69 : decode cX10_added 69 = .ok (.aload_n 0, 1) := by decide +kernel
theorem dX10_added_70 : decode cX10_added 70 = .ok (.iload_n 2, 1) := by decide +kernel
theorem dX10_added_71 : decode cX10_added 71 = .ok (.invokevirtual 68, 3) := by decide +kernel
theorem dX10_added_74 : decode cX10_added 74 = .ok (.iload_n 3, 1) := by decide +kernel
theorem dX10_added_75 : decode cX10_added 75 = .ok (.if_icmp .eq 7, 3) := by decide +kernel
theorem dX10_added_78 : decode cX10_added 78 = .ok (.iconst 1, 1) := by decide +kernel
theorem dX10_added_79 : decode cX10_added 79 = .ok (.goto 4, 3) := by decide +kernel
theorem dX10_added_82 : decode cX10_added 82 = .ok (.iconst 0, 1) := by decide +kernel
theorem dX10_added_83 : decode cX10_added 83 = .ok (.istore 7, 2) := by decide +kernel
theorem dX10_added_85 : decode cX10_added 85 = .ok (.iload 6, 2) := by decide +kernel
theorem dX10_added_87 : decode cX10_added 87 = .ok (.iload 7, 2) := by decide +kernel
theorem dX10_added_89 : decode cX10_added 89 = .ok (.if_icmp .ne 18, 3) := by decide +kernel
theorem dX10_added_92 : decode cX10_added 92 = .ok (.aload_n 0, 1) := by decide +kernel
theorem dX10_added_93 : decode cX10_added 93 = .ok (.aload_n 0, 1) := by decide +kernel
theorem dX10_added_94 : decode cX10_added 94 = .ok (.iload 4, 2) := by decide +kernel
theorem dX10_added_96 : decode cX10_added 96 = .ok (.iload 5, 2) := by decide +kernel
theorem dX10_added_98 : decode cX10_added 98 = .ok (.invokevirtual 83, 3) := by decide +kernel
theorem dX10_added_101 : decode cX10_added 101 = .ok (.iload 6, 2) := by decide +kernel
theorem dX10_added_103 : decode cX10_added 103 = .ok (.invokevirtual 72, 3) := by decide +kernel
theorem dX10_added_106 : decode cX10_added 106 = .ok (.ireturn, 1) := by decide +kernel
theorem dX10_added_107 : decode cX10_added 107 = .ok (.aload_n 0, 1) := by decide +kernel
theorem dX10_added_108 : decode cX10_added 108 = .ok (.iload 4, 2) := by decide +kernel
theorem dX10_added_110 : decode cX10_added 110 = .ok (.iload 5, 2) := by decide +kernel
theorem dX10_added_112 : decode cX10_added 112 = .ok (.invokevirtual 87, 3) := by decide +kernel
theorem dX10_added_115 : decode cX10_added 115 = .ok (.istore 8, 2) := by decide +kernel
theorem dX10_added_117 : decode cX10_added 117 = .ok (.iload 8, 2) := by decide +kernel
theorem dX10_added_119 : decode cX10_added 119 = .ok (.ifCond .ne 6, 3) := by decide +kernel
theorem dX10_added_122 : decode cX10_added 122 = .ok (.ldc 37, 2) := by decide +kernel
theorem dX10_added_124 : decode cX10_added 124 = .ok (.ireturn, 1) := by decide +kernel
theorem dX10_added_125 : decode cX10_added 125 = .ok (.iload 8, 2) := by decide +kernel
theorem dX10_added_127 : decode cX10_added 127 = .ok (.ifCond .le 26, 3) := by decide +kernel
theorem dX10_added_130 : decode cX10_added 130 = .ok (.aload_n 0, 1) := by decide +kernel
theorem dX10_added_131 : decode cX10_added 131 = .ok (.aload_n 0, 1) := by decide +kernel
theorem dX10_added_132 : decode cX10_added 132 = .ok (.aload_n 0, 1) := by decide +kernel
theorem dX10_added_133 : decode cX10_added 133 = .ok (.getfield 9, 3) := by decide +kernel
theorem dX10_added_136 : decode cX10_added 136 = .ok (.iload 4, 2) := by decide +kernel
theorem dX10_added_138 : decode cX10_added 138 = .ok (.aload_n 0, 1) := by decide +kernel
theorem dX10_added_139 : decode cX10_added 139 = .ok (.getfield 15, 3) := by decide +kernel
theorem dX10_added_142 : decode cX10_added 142 = .ok (.iload 5, 2) := by decide +kernel
theorem dX10_added_144 : decode cX10_added 144 = .ok (.invokevirtual 90, 3) := by decide +kernel
theorem dX10_added_147 : decode cX10_added 147 = .ok (.iload 6, 2) := by decide +kernel
theorem dX10_added_149 : decode cX10_added 149 = .ok (.invokevirtual 72, 3) := by decide +kernel
theorem dX10_added_152 : decode cX10_added 152 = .ok (.ireturn, 1) := by decide +kernel
theorem dX10_added_153 : decode cX10_added 153 = .ok (.aload_n 0, 1) := by decide +kernel
theorem dX10_added_154 : decode cX10_added 154 = .ok (.aload_n 0, 1) := by decide +kernel
theorem dX10_added_155 : decode cX10_added 155 = .ok (.aload_n 0, 1) := by decide +kernel
theorem dX10_added_156 : decode cX10_added 156 = .ok (.getfield 15, 3) := by decide +kernel
theorem dX10_added_159 : decode cX10_added 159 = .ok (.iload 5, 2) := by decide +kernel
theorem dX10_added_161 : decode cX10_added 161 = .ok (.aload_n 0, 1) := by decide +kernel
theorem dX10_added_162 : decode cX10_added 162 = .ok (.getfield 9, 3) := by decide +kernel
theorem dX10_added_165 : decode cX10_added 165 = .ok (.iload 4, 2) := by decide +kernel
theorem dX10_added_167 : decode cX10_added 167 = .ok (.invokevirtual 90, 3) := by decide +kernel
theorem dX10_added_170 : decode cX10_added 170 = .ok (.iload 7, 2) := by decide +kernel
theorem dX10_added_172 : decode cX10_added 172 = .ok (.invokevirtual 72, 3) := by decide +kernel
theorem dX10_added_175 : decode cX10_added 175 = .ok (.ireturn, 1) := by decide +kernel
theorem dX10_clamped_0 : decode cX10_clamped 0 = .ok (.iload_n 1, 1) := by decide +kernel
theorem dX10_clamped_1 : decode cX10_clamped 1 = .ok (.ifCond .ge 9, 3) := by decide +kernel
theorem dX10_clamped_4 : decode cX10_clamped 4 = .ok (.iload_n 1, 1) := by decide +kernel
theorem dX10_clamped_5 : decode cX10_clamped 5 = .ok (.iconst 4, 1) := by decide +kernel
theorem dX10_clamped_6 : decode cX10_clamped 6 = .ok (.ishl, 1) := by decide +kernel
theorem dX10_clamped_7 : decode cX10_clamped 7 = .ok (.iconst 4, 1) := by decide +kernel
theorem dX10_clamped_8 : decode cX10_clamped 8 = .ok (.ishr, 1) := by decide +kernel
theorem dX10_clamped_9 : decode cX10_clamped 9 = .ok (.ireturn, 1) := by decide +kernel
theorem dX10_clamped_10 : decode cX10_clamped 10 = .ok (.aload_n 0, 1) := by decide +kernel
theorem dX10_clamped_11 : decode cX10_clamped 11 = .ok (.getfield 33, 3) := by decide +kernel
theorem dX10_clamped_14 : decode cX10_clamped 14 = .ok (.getfield 53, 3) := by decide +kernel
theorem dX10_clamped_17 : decode cX10_clamped 17 = .ok (.iload_n 1, 1) := by decide +kernel
theorem dX10_clamped_18 : decode cX10_clamped 18 = .ok (.iaload, 1) := by decide +kernel
theorem dX10_clamped_19 : decode cX10_clamped 19 = .ok (.bipush 8, 2) := by decide +kernel
theorem dX10_clamped_21 : decode cX10_clamped 21 = .ok (.iand, 1) := by decide +kernel
theorem dX10_clamped_22 : decode cX10_clamped 22 = .ok (.ifCond .eq 8, 3) := by decide +kernel
theorem dX10_clamped_25 : decode cX10_clamped 25 = .ok (.ldc 56, 2) := by decide +kernel
theorem dX10_clamped_27 : decode cX10_clamped 27 = .ok (.goto 5, 3) := by decide +kernel
theorem dX10_clamped_30 : decode cX10_clamped 30 = .ok (.ldc 57, 2) := by decide +kernel
theorem dX10_clamped_32 : decode cX10_clamped 32 = .ok (.ireturn, 1) := by decide +kernel
theorem dX10_compareLimbs_0 : decode cX10_compareLimbs 0 = .ok (.iload_n 1, 1) := by decide +kernel
theorem dX10_compareLimbs_1 : decode cX10_compareLimbs 1 = .ok (.iload_n 2, 1) := by decide +kernel
theorem dX10_compareLimbs_2 : decode cX10_compareLimbs 2 = .ok (.invokestatic 94, 3) := by decide +kernel
theorem dX10_compareLimbs_5 : decode cX10_compareLimbs 5 = .ok (.istore_n 3, 1) := by decide +kernel
theorem dX10_compareLimbs_6 : decode cX10_compareLimbs 6 = .ok (.iload_n 1, 1) := by decide +kernel
theorem dX10_compareLimbs_7 : decode cX10_compareLimbs 7 = .ok (.iconst 1, 1) := by decide +kernel
theorem dX10_compareLimbs_8 : decode cX10_compareLimbs 8 = .ok (.isub, 1) := by decide +kernel
theorem dX10_compareLimbs_9 : decode cX10_compareLimbs 9 = .ok (.istore 4, 2) := by decide +kernel
theorem dX10_compareLimbs_11 : decode cX10_compareLimbs 11 = .ok (.iload 4, 2) := by decide +kernel
theorem dX10_compareLimbs_13 : decode cX10_compareLimbs 13 = .ok (.ifCond .lt 37, 3) := by decide +kernel
theorem dX10_compareLimbs_16 : decode cX10_compareLimbs 16 = .ok (.iload_n 3, 1) := by decide +kernel
theorem dX10_compareLimbs_17 : decode cX10_compareLimbs 17 = .ok (.ifCond .ne 33, 3) := by decide +kernel
theorem dX10_compareLimbs_20 : decode cX10_compareLimbs 20 = .ok (.aload_n 0, 1) := by decide +kernel
theorem dX10_compareLimbs_21 : decode cX10_compareLimbs 21 = .ok (.getfield 9, 3) := by decide +kernel
theorem dX10_compareLimbs_24 : decode cX10_compareLimbs 24 = .ok (.iload 4, 2) := by decide +kernel
theorem dX10_compareLimbs_26 : decode cX10_compareLimbs 26 = .ok (.iaload, 1) := by decide +kernel
theorem dX10_compareLimbs_27 : decode cX10_compareLimbs 27 = .ok (.ldc 99, 2) := by decide +kernel
theorem dX10_compareLimbs_29 : decode cX10_compareLimbs 29 = .ok (.ixor, 1) := by decide +kernel
theorem dX10_compareLimbs_30 : decode cX10_compareLimbs 30 = .ok (.aload_n 0, 1) := by decide +kernel
theorem dX10_compareLimbs_31 : decode cX10_compareLimbs 31 = .ok (.getfield 15, 3) := by decide +kernel
theorem dX10_compareLimbs_34 : decode cX10_compareLimbs 34 = .ok (.iload 4, 2) := by decide +kernel
theorem dX10_compareLimbs_36 : decode cX10_compareLimbs 36 = .ok (.iaload, 1) := by decide +kernel
theorem dX10_compareLimbs_37 : decode cX10_compareLimbs 37 = .ok (.ldc 99, 2) := by decide +kernel
theorem dX10_compareLimbs_39 : decode cX10_compareLimbs 39 = .ok (.ixor, 1) := by decide +kernel
theorem dX10_compareLimbs_40 : decode cX10_compareLimbs 40 = .ok (.invokestatic 94, 3) := by decide +kernel
theorem dX10_compareLimbs_43 : decode cX10_compareLimbs 43 = .ok (.istore_n 3, 1) := by decide +kernel
theorem dX10_compareLimbs_44 : decode cX10_compareLimbs 44 = .ok (.iinc 4 (-1), 3) := by decide +kernel
theorem dX10_compareLimbs_47 : decode cX10_compareLimbs 47 = .ok (.goto (-36), 3) := by decide +kernel
theorem dX10_compareLimbs_50 : decode cX10_compareLimbs 50 = .ok (.iload_n 3, 1) := by decide +kernel
theorem dX10_compareLimbs_51 : decode cX10_compareLimbs 51 = .ok (.ireturn, 1) := by decide +kernel
theorem dX10_divideLimbs_0 : decode cX10_divideLimbs 0 = .ok (.aload_n 0, 1) := by decide +kernel
theorem dX10_divideLimbs_1 : decode cX10_divideLimbs 1 = .ok (.getfield 27, 3) := by decide +kernel
theorem dX10_divideLimbs_4 : decode cX10_divideLimbs 4 = .ok (.iconst 0, 1) := by decide +kernel
theorem dX10_divideLimbs_5 : decode cX10_divideLimbs 5 = .ok (.invokestatic 143, 3) := by decide +kernel
theorem dX10_divideLimbs_8 : decode cX10_divideLimbs 8 = .ok (.aload_n 0, 1) := by decide +kernel
theorem dX10_divideLimbs_9 : decode cX10_divideLimbs 9 = .ok (.getfield 21, 3) := by decide +kernel
theorem dX10_divideLimbs_12 : decode cX10_divideLimbs 12 = .ok (.iconst 0, 1) := by decide +kernel
theorem dX10_divideLimbs_13 : decode cX10_divideLimbs 13 = .ok (.invokestatic 143, 3) := by decide +kernel
theorem dX10_divideLimbs_16 : decode cX10_divideLimbs 16 = .ok (.aload_n 0, 1) := by decide +kernel
theorem dX10_divideLimbs_17 : decode cX10_divideLimbs 17 = .ok (.getfield 24, 3) := by decide +kernel
theorem dX10_divideLimbs_20 : decode cX10_divideLimbs 20 = .ok (.iconst 0, 1) := by decide +kernel
theorem dX10_divideLimbs_21 : decode cX10_divideLimbs 21 = .ok (.invokestatic 143, 3) := by decide +kernel
theorem dX10_divideLimbs_24 : decode cX10_divideLimbs 24 = .ok (.iconst 0, 1) := by decide +kernel
theorem dX10_divideLimbs_25 : decode cX10_divideLimbs 25 = .ok (.istore_n 3, 1) := by decide +kernel
theorem dX10_divideLimbs_26 : decode cX10_divideLimbs 26 = .ok (.iload_n 3, 1) := by decide +kernel
theorem dX10_divideLimbs_27 : decode cX10_divideLimbs 27 = .ok (.iload_n 1, 1) := by decide +kernel
theorem dX10_divideLimbs_28 : decode cX10_divideLimbs 28 = .ok (.if_icmp .ge 45, 3) := by decide +kernel
theorem dX10_divideLimbs_31 : decode cX10_divideLimbs 31 = .ok (.aload_n 0, 1) := by decide +kernel
theorem dX10_divideLimbs_32 : decode cX10_divideLimbs 32 = .ok (.getfield 21, 3) := by decide +kernel
theorem dX10_divideLimbs_35 : decode cX10_divideLimbs 35 = .ok (.iconst 2, 1) := by decide +kernel
theorem dX10_divideLimbs_36 : decode cX10_divideLimbs 36 = .ok (.iload_n 3, 1) := by decide +kernel
theorem dX10_divideLimbs_37 : decode cX10_divideLimbs 37 = .ok (.imul, 1) := by decide +kernel
theorem dX10_divideLimbs_38 : decode cX10_divideLimbs 38 = .ok (.aload_n 0, 1) := by decide +kernel
theorem dX10_divideLimbs_39 : decode cX10_divideLimbs 39 = .ok (.getfield 9, 3) := by decide +kernel
theorem dX10_divideLimbs_42 : decode cX10_divideLimbs 42 = .ok (.iload_n 3, 1) := by decide +kernel
theorem dX10_divideLimbs_43 : decode cX10_divideLimbs 43 = .ok (.iaload, 1) := by decide +kernel
theorem dX10_divideLimbs_44 : decode cX10_divideLimbs 44 = .ok (.ldc 149, 2) := by decide +kernel
theorem dX10_divideLimbs_46 : decode cX10_divideLimbs 46 = .ok (.iand, 1) := by decide +kernel
theorem dX10_divideLimbs_47 : decode cX10_divideLimbs 47 = .ok (.iastore, 1) := by decide +kernel
theorem dX10_divideLimbs_48 : decode cX10_divideLimbs 48 = .ok (.aload_n 0, 1) := by decide +kernel
theorem dX10_divideLimbs_49 : decode cX10_divideLimbs 49 = .ok (.getfield 21, 3) := by decide +kernel
theorem dX10_divideLimbs_52 : decode cX10_divideLimbs 52 = .ok (.iconst 2, 1) := by decide +kernel
theorem dX10_divideLimbs_53 : decode cX10_divideLimbs 53 = .ok (.iload_n 3, 1) := by decide +kernel
theorem dX10_divideLimbs_54 : decode cX10_divideLimbs 54 = .ok (.imul, 1) := by decide +kernel
theorem dX10_divideLimbs_55 : decode cX10_divideLimbs 55 = .ok (.iconst 1, 1) := by decide +kernel
theorem dX10_divideLimbs_56 : decode cX10_divideLimbs 56 = .ok (.iadd, 1) := by decide +kernel
theorem dX10_divideLimbs_57 : decode cX10_divideLimbs 57 = .ok (.aload_n 0, 1) := by decide +kernel
theorem dX10_divideLimbs_58 : decode cX10_divideLimbs 58 = .ok (.getfield 9, 3) := by decide +kernel
theorem dX10_divideLimbs_61 : decode cX10_divideLimbs 61 = .ok (.iload_n 3, 1) := by decide +kernel
theorem dX10_divideLimbs_62 : decode cX10_divideLimbs 62 = .ok (.iaload, 1) := by decide +kernel
theorem dX10_divideLimbs_63 : decode cX10_divideLimbs 63 = .ok (.bipush 16, 2) := by decide +kernel
theorem dX10_divideLimbs_65 : decode cX10_divideLimbs 65 = .ok (.iushr, 1) := by decide +kernel
theorem dX10_divideLimbs_66 : decode cX10_divideLimbs 66 = .ok (.iastore, 1) := by decide +kernel
theorem dX10_divideLimbs_67 : decode cX10_divideLimbs 67 = .ok (.iinc 3 1, 3) := by decide +kernel
theorem dX10_divideLimbs_70 : decode cX10_divideLimbs 70 = .ok (.goto (-44), 3) := by decide +kernel
theorem dX10_divideLimbs_73 : decode cX10_divideLimbs 73 = .ok (.iconst 0, 1) := by decide +kernel
theorem dX10_divideLimbs_74 : decode cX10_divideLimbs 74 = .ok (.istore_n 3, 1) := by decide +kernel
theorem dX10_divideLimbs_75 : decode cX10_divideLimbs 75 = .ok (.iload_n 3, 1) := by decide +kernel
theorem dX10_divideLimbs_76 : decode cX10_divideLimbs 76 = .ok (.iload_n 2, 1) := by decide +kernel
theorem dX10_divideLimbs_77 : decode cX10_divideLimbs 77 = .ok (.if_icmp .ge 45, 3) := by decide +kernel
theorem dX10_divideLimbs_80 : decode cX10_divideLimbs 80 = .ok (.aload_n 0, 1) := by decide +kernel
theorem dX10_divideLimbs_81 : decode cX10_divideLimbs 81 = .ok (.getfield 24, 3) := by decide +kernel
theorem dX10_divideLimbs_84 : decode cX10_divideLimbs 84 = .ok (.iconst 2, 1) := by decide +kernel
theorem dX10_divideLimbs_85 : decode cX10_divideLimbs 85 = .ok (.iload_n 3, 1) := by decide +kernel
theorem dX10_divideLimbs_86 : decode cX10_divideLimbs 86 = .ok (.imul, 1) := by decide +kernel
theorem dX10_divideLimbs_87 : decode cX10_divideLimbs 87 = .ok (.aload_n 0, 1) := by decide +kernel
theorem dX10_divideLimbs_88 : decode cX10_divideLimbs 88 = .ok (.getfield 15, 3) := by decide +kernel
theorem dX10_divideLimbs_91 : decode cX10_divideLimbs 91 = .ok (.iload_n 3, 1) := by decide +kernel
theorem dX10_divideLimbs_92 : decode cX10_divideLimbs 92 = .ok (.iaload, 1) := by decide +kernel
theorem dX10_divideLimbs_93 : decode cX10_divideLimbs 93 = .ok (.ldc 149, 2) := by decide +kernel
theorem dX10_divideLimbs_95 : decode cX10_divideLimbs 95 = .ok (.iand, 1) := by decide +kernel
theorem dX10_divideLimbs_96 : decode cX10_divideLimbs 96 = .ok (.iastore, 1) := by decide +kernel
theorem dX10_divideLimbs_97 : decode cX10_divideLimbs 97 = .ok (.aload_n 0, 1) := by decide +kernel
theorem dX10_divideLimbs_98 : decode cX10_divideLimbs 98 = .ok (.getfield 24, 3) := by decide +kernel
theorem dX10_divideLimbs_101 : decode cX10_divideLimbs 101 = .ok (.iconst 2, 1) := by decide +kernel
theorem dX10_divideLimbs_102 : decode cX10_divideLimbs 102 = .ok (.iload_n 3, 1) := by decide +kernel
theorem dX10_divideLimbs_103 : decode cX10_divideLimbs 103 = .ok (.imul, 1) := by decide +kernel
theorem dX10_divideLimbs_104 : decode cX10_divideLimbs 104 = .ok (.iconst 1, 1) := by decide +kernel
theorem dX10_divideLimbs_105 : decode cX10_divideLimbs 105 = .ok (.iadd, 1) := by decide +kernel
theorem dX10_divideLimbs_106 : decode cX10_divideLimbs 106 = .ok (.aload_n 0, 1) := by decide +kernel
theorem dX10_divideLimbs_107 : decode cX10_divideLimbs 107 = .ok (.getfield 15, 3) := by decide +kernel
theorem dX10_divideLimbs_110 : decode cX10_divideLimbs 110 = .ok (.iload_n 3, 1) := by decide +kernel
theorem dX10_divideLimbs_111 : decode cX10_divideLimbs 111 = .ok (.iaload, 1) := by decide +kernel
theorem dX10_divideLimbs_112 : decode cX10_divideLimbs 112 = .ok (.bipush 16, 2) := by decide +kernel
theorem dX10_divideLimbs_114 : decode cX10_divideLimbs 114 = .ok (.iushr, 1) := by decide +kernel
theorem dX10_divideLimbs_115 : decode cX10_divideLimbs 115 = .ok (.iastore, 1) := by decide +kernel
theorem dX10_divideLimbs_116 : decode cX10_divideLimbs 116 = .ok (.iinc 3 1, 3) := by decide +kernel
theorem dX10_divideLimbs_119 : decode cX10_divideLimbs 119 = .ok (.goto (-44), 3) := by decide +kernel
theorem dX10_divideLimbs_122 : decode cX10_divideLimbs 122 = .ok (.iconst 2, 1) := by decide +kernel
theorem dX10_divideLimbs_123 : decode cX10_divideLimbs 123 = .ok (.iload_n 2, 1) := by decide +kernel
theorem dX10_divideLimbs_124 : decode cX10_divideLimbs 124 = .ok (.imul, 1) := by decide +kernel
theorem dX10_divideLimbs_125 : decode cX10_divideLimbs 125 = .ok (.istore_n 3, 1) := by decide +kernel
theorem dX10_divideLimbs_126 : decode cX10_divideLimbs 126 = .ok (.iload_n 3, 1) := by decide +kernel
theorem dX10_divideLimbs_127 : decode cX10_divideLimbs 127 = .ok (.ifCond .le 17, 3) := by decide +kernel
theorem dX10_divideLimbs_130 : decode cX10_divideLimbs 130 = .ok (.aload_n 0, 1) := by decide +kernel
theorem dX10_divideLimbs_131 : decode cX10_divideLimbs 131 = .ok (.getfield 24, 3) := by decide +kernel
theorem dX10_divideLimbs_134 : decode cX10_divideLimbs 134 = .ok (.iload_n 3, 1) := by decide +kernel
theorem dX10_divideLimbs_135 : decode cX10_divideLimbs 135 = .ok (.iconst 1, 1) := by decide +kernel
theorem dX10_divideLimbs_136 : decode cX10_divideLimbs 136 = .ok (.isub, 1) := by decide +kernel
theorem dX10_divideLimbs_137 : decode cX10_divideLimbs 137 = .ok (.iaload, 1) := by decide +kernel
theorem dX10_divideLimbs_138 : decode cX10_divideLimbs 138 = .ok (.ifCond .ne 6, 3) := by decide +kernel
theorem dX10_divideLimbs_141 : decode cX10_divideLimbs 141 = .ok (.iinc 3 (-1), 3) := by decide +kernel
theorem dX10_divideLimbs_144 : decode cX10_divideLimbs 144 = .ok (.iconst 0, 1) := by decide +kernel
theorem dX10_divideLimbs_145 : decode cX10_divideLimbs 145 = .ok (.istore 4, 2) := by decide +kernel
theorem dX10_divideLimbs_147 : decode cX10_divideLimbs 147 = .ok (.iconst 0, 1) := by decide +kernel
theorem dX10_divideLimbs_148 : decode cX10_divideLimbs 148 = .ok (.istore 5, 2) := by decide +kernel
theorem dX10_divideLimbs_150 : decode cX10_divideLimbs 150 = .ok (.iload 5, 2) := by decide +kernel
theorem dX10_divideLimbs_152 : decode cX10_divideLimbs 152 = .ok (.bipush 15, 2) := by decide +kernel
theorem dX10_divideLimbs_154 : decode cX10_divideLimbs 154 = .ok (.if_icmp .ge 33, 3) := by decide +kernel
theorem dX10_divideLimbs_157 : decode cX10_divideLimbs 157 = .ok (.iload_n 3, 1) := by decide +kernel
theorem dX10_divideLimbs_158 : decode cX10_divideLimbs 158 = .ok (.ifCond .le 29, 3) := by decide +kernel
theorem dX10_divideLimbs_161 : decode cX10_divideLimbs 161 = .ok (.aload_n 0, 1) := by decide +kernel
theorem dX10_divideLimbs_162 : decode cX10_divideLimbs 162 = .ok (.getfield 24, 3) := by decide +kernel
theorem dX10_divideLimbs_165 : decode cX10_divideLimbs 165 = .ok (.iload_n 3, 1) := by decide +kernel
theorem dX10_divideLimbs_166 : decode cX10_divideLimbs 166 = .ok (.iconst 1, 1) := by decide +kernel
theorem dX10_divideLimbs_167 : decode cX10_divideLimbs 167 = .ok (.isub, 1) := by decide +kernel
theorem dX10_divideLimbs_168 : decode cX10_divideLimbs 168 = .ok (.iaload, 1) := by decide +kernel
theorem dX10_divideLimbs_169 : decode cX10_divideLimbs 169 = .ok (.iload 4, 2) := by decide +kernel
theorem dX10_divideLimbs_171 : decode cX10_divideLimbs 171 = .ok (.ishl, 1) := by decide +kernel
theorem dX10_divideLimbs_172 : decode cX10_divideLimbs 172 = .ok (.ldc 150, 2) := by decide +kernel
theorem dX10_divideLimbs_174 : decode cX10_divideLimbs 174 = .ok (.iand, 1) := by decide +kernel
theorem dX10_divideLimbs_175 : decode cX10_divideLimbs 175 = .ok (.ifCond .ne 12, 3) := by decide +kernel
theorem dX10_divideLimbs_178 : decode cX10_divideLimbs 178 = .ok (.iinc 4 1, 3) := by decide +kernel
theorem dX10_divideLimbs_181 : decode cX10_divideLimbs 181 = .ok (.iinc 5 1, 3) := by decide +kernel
theorem dX10_divideLimbs_184 : decode cX10_divideLimbs 184 = .ok (.goto (-34), 3) := by decide +kernel
theorem dX10_divideLimbs_187 : decode cX10_divideLimbs 187 = .ok (.aload_n 0, 1) := by decide +kernel
theorem dX10_divideLimbs_188 : decode cX10_divideLimbs 188 = .ok (.getfield 21, 3) := by decide +kernel
theorem dX10_divideLimbs_191 : decode cX10_divideLimbs 191 = .ok (.iconst 2, 1) := by decide +kernel
theorem dX10_divideLimbs_192 : decode cX10_divideLimbs 192 = .ok (.iload_n 1, 1) := by decide +kernel
theorem dX10_divideLimbs_193 : decode cX10_divideLimbs 193 = .ok (.imul, 1) := by decide +kernel
theorem dX10_divideLimbs_194 : decode cX10_divideLimbs 194 = .ok (.iconst 1, 1) := by decide +kernel
theorem dX10_divideLimbs_195 : decode cX10_divideLimbs 195 = .ok (.iadd, 1) := by decide +kernel
theorem dX10_divideLimbs_196 : decode cX10_divideLimbs 196 = .ok (.iload 4, 2) := by decide +kernel
theorem dX10_divideLimbs_198 : decode cX10_divideLimbs 198 = .ok (.invokestatic 151, 3) := by decide +kernel
theorem dX10_divideLimbs_201 : decode cX10_divideLimbs 201 = .ok (.aload_n 0, 1) := by decide +kernel
theorem dX10_divideLimbs_202 : decode cX10_divideLimbs 202 = .ok (.getfield 24, 3) := by decide +kernel
theorem dX10_divideLimbs_205 : decode cX10_divideLimbs 205 = .ok (.iload_n 3, 1) := by decide +kernel
theorem dX10_divideLimbs_206 : decode cX10_divideLimbs 206 = .ok (.iload 4, 2) := by decide +kernel
theorem dX10_divideLimbs_208 : decode cX10_divideLimbs 208 = .ok (.invokestatic 151, 3) := by decide +kernel
theorem dX10_divideLimbs_211 : decode cX10_divideLimbs 211 = .ok (.iconst 2, 1) := by decide +kernel
theorem dX10_divideLimbs_212 : decode cX10_divideLimbs 212 = .ok (.iload_n 1, 1) := by decide +kernel
theorem dX10_divideLimbs_213 : decode cX10_divideLimbs 213 = .ok (.imul, 1) := by decide +kernel
theorem dX10_divideLimbs_214 : decode cX10_divideLimbs 214 = .ok (.iload_n 3, 1) := by decide +kernel
theorem dX10_divideLimbs_215 : decode cX10_divideLimbs 215 = .ok (.isub, 1) := by decide +kernel
theorem dX10_divideLimbs_216 : decode cX10_divideLimbs 216 = .ok (.istore 5, 2) := by decide +kernel
theorem dX10_divideLimbs_218 : decode cX10_divideLimbs 218 = .ok (.iload 5, 2) := by decide +kernel
theorem dX10_divideLimbs_220 : decode cX10_divideLimbs 220 = .ok (.ifCond .lt 23, 3) := by decide +kernel
theorem dX10_divideLimbs_223 : decode cX10_divideLimbs 223 = .ok (.aload_n 0, 1) := by decide +kernel
theorem dX10_divideLimbs_224 : decode cX10_divideLimbs 224 = .ok (.getfield 27, 3) := by decide +kernel
theorem dX10_divideLimbs_227 : decode cX10_divideLimbs 227 = .ok (.iload 5, 2) := by decide +kernel
theorem dX10_divideLimbs_229 : decode cX10_divideLimbs 229 = .ok (.aload_n 0, 1) := by decide +kernel
theorem dX10_divideLimbs_230 : decode cX10_divideLimbs 230 = .ok (.iload 5, 2) := by decide +kernel
theorem dX10_divideLimbs_232 : decode cX10_divideLimbs 232 = .ok (.iload_n 3, 1) := by decide +kernel
theorem dX10_divideLimbs_233 : decode cX10_divideLimbs 233 = .ok (.invokevirtual 155, 3) := by decide +kernel
theorem dX10_divideLimbs_236 : decode cX10_divideLimbs 236 = .ok (.iastore, 1) := by decide +kernel
theorem dX10_divideLimbs_237 : decode cX10_divideLimbs 237 = .ok (.iinc 5 (-1), 3) := by decide +kernel
theorem dX10_divideLimbs_240 : decode cX10_divideLimbs 240 = .ok (.goto (-22), 3) := by decide +kernel
theorem dX10_divideLimbs_243 : decode cX10_divideLimbs 243 = .ok (.aload_n 0, 1) := by decide +kernel
theorem dX10_divideLimbs_244 : decode cX10_divideLimbs 244 = .ok (.getfield 21, 3) := by decide +kernel
theorem dX10_divideLimbs_247 : decode cX10_divideLimbs 247 = .ok (.iload_n 3, 1) := by decide +kernel
theorem dX10_divideLimbs_248 : decode cX10_divideLimbs 248 = .ok (.iload 4, 2) := by decide +kernel
theorem dX10_divideLimbs_250 : decode cX10_divideLimbs 250 = .ok (.invokestatic 158, 3) := by decide +kernel
theorem dX10_divideLimbs_253 : decode cX10_divideLimbs 253 = .ok (.iconst 0, 1) := by decide +kernel
theorem dX10_divideLimbs_254 : decode cX10_divideLimbs 254 = .ok (.istore 5, 2) := by decide +kernel
theorem dX10_divideLimbs_256 : decode cX10_divideLimbs 256 = .ok (.iconst 0, 1) := by decide +kernel
theorem dX10_divideLimbs_257 : decode cX10_divideLimbs 257 = .ok (.istore 6, 2) := by decide +kernel
theorem dX10_divideLimbs_259 : decode cX10_divideLimbs 259 = .ok (.iload 6, 2) := by decide +kernel
theorem dX10_divideLimbs_261 : decode cX10_divideLimbs 261 = .ok (.iconst 2, 1) := by decide +kernel
theorem dX10_divideLimbs_262 : decode cX10_divideLimbs 262 = .ok (.iload_n 1, 1) := by decide +kernel
theorem dX10_divideLimbs_263 : decode cX10_divideLimbs 263 = .ok (.imul, 1) := by decide +kernel
theorem dX10_divideLimbs_264 : decode cX10_divideLimbs 264 = .ok (.iconst 1, 1) := by decide +kernel
theorem dX10_divideLimbs_265 : decode cX10_divideLimbs 265 = .ok (.iadd, 1) := by decide +kernel
theorem dX10_divideLimbs_266 : decode cX10_divideLimbs 266 = .ok (.if_icmp .ge 30, 3) := by decide +kernel
theorem dX10_divideLimbs_269 : decode cX10_divideLimbs 269 = .ok (.aload_n 0, 1) := by decide +kernel
theorem dX10_divideLimbs_270 : decode cX10_divideLimbs 270 = .ok (.getfield 21, 3) := by decide +kernel
theorem dX10_divideLimbs_273 : decode cX10_divideLimbs 273 = .ok (.iload 6, 2) := by decide +kernel
theorem dX10_divideLimbs_275 : decode cX10_divideLimbs 275 = .ok (.iaload, 1) := by decide +kernel
theorem dX10_divideLimbs_276 : decode cX10_divideLimbs 276 = .ok (.ifCond .eq 10, 3) := by decide +kernel
theorem dX10_divideLimbs_279 : decode cX10_divideLimbs 279 = .ok (.iload 5, 2) := by decide +kernel
theorem dX10_divideLimbs_281 : decode cX10_divideLimbs 281 = .ok (.iconst 1, 1) := by decide +kernel
theorem dX10_divideLimbs_282 : decode cX10_divideLimbs 282 = .ok (.iadd, 1) := by decide +kernel
theorem dX10_divideLimbs_283 : decode cX10_divideLimbs 283 = .ok (.goto 5, 3) := by decide +kernel
theorem dX10_divideLimbs_286 : decode cX10_divideLimbs 286 = .ok (.iload 5, 2) := by decide +kernel
theorem dX10_divideLimbs_288 : decode cX10_divideLimbs 288 = .ok (.istore 5, 2) := by decide +kernel
theorem dX10_divideLimbs_290 : decode cX10_divideLimbs 290 = .ok (.iinc 6 1, 3) := by decide +kernel
theorem dX10_divideLimbs_293 : decode cX10_divideLimbs 293 = .ok (.goto (-34), 3) := by decide +kernel
theorem dX10_divideLimbs_296 : decode cX10_divideLimbs 296 = .ok (.iload 5, 2) := by decide +kernel
theorem dX10_divideLimbs_298 : decode cX10_divideLimbs 298 = .ok (.ireturn, 1) := by decide +kernel
theorem dX10_divided_0 : decode cX10_divided 0 = .ok (.iload_n 2, 1) := by decide +kernel
theorem dX10_divided_1 : decode cX10_divided 1 = .ok (.ldc 37, 2) := by decide +kernel
theorem dX10_divided_3 : decode cX10_divided 3 = .ok (.if_icmp .ne 6, 3) := by decide +kernel
theorem dX10_divided_6 : decode cX10_divided 6 = .ok (.ldc 122, 2) := by decide +kernel
theorem dX10_divided_8 : decode cX10_divided 8 = .ok (.ireturn, 1) := by decide +kernel
theorem dX10_divided_9 : decode cX10_divided 9 = .ok (.iload_n 1, 1) := by decide +kernel
theorem dX10_divided_10 : decode cX10_divided 10 = .ok (.ifCond .ge 23, 3) := by decide +kernel
theorem dX10_divided_13 : decode cX10_divided 13 = .ok (.iload_n 2, 1) := by decide +kernel
theorem dX10_divided_14 : decode cX10_divided 14 = .ok (.ifCond .ge 19, 3) := by decide +kernel
theorem dX10_divided_17 : decode cX10_divided 17 = .ok (.aload_n 0, 1) := by decide +kernel
theorem dX10_divided_18 : decode cX10_divided 18 = .ok (.iload_n 1, 1) := by decide +kernel
theorem dX10_divided_19 : decode cX10_divided 19 = .ok (.invokestatic 113, 3) := by decide +kernel
theorem dX10_divided_22 : decode cX10_divided 22 = .ok (.i2l, 1) := by decide +kernel
theorem dX10_divided_23 : decode cX10_divided 23 = .ok (.iload_n 2, 1) := by decide +kernel
theorem dX10_divided_24 : decode cX10_divided 24 = .ok (.invokestatic 113, 3) := by decide +kernel
theorem dX10_divided_27 : decode cX10_divided 27 = .ok (.i2l, 1) := by decide +kernel
theorem dX10_divided_28 : decode cX10_divided 28 = .ok (.iload_n 3, 1) := by decide +kernel
theorem dX10_divided_29 : decode cX10_divided 29 = .ok (.invokevirtual 123, 3) := by decide +kernel
theorem dX10_divided_32 : decode cX10_divided 32 = .ok (.ireturn, 1) := by decide +kernel
theorem dX10_divided_33 : decode cX10_divided 33 = .ok (.aload_n 0, 1) := by decide +kernel
theorem dX10_divided_34 : decode cX10_divided 34 = .ok (.iload_n 1, 1) := by decide +kernel
theorem dX10_divided_35 : decode cX10_divided 35 = .ok (.aload_n 0, 1) := by decide +kernel
theorem dX10_divided_36 : decode cX10_divided 36 = .ok (.getfield 9, 3) := by decide +kernel
theorem dX10_divided_39 : decode cX10_divided 39 = .ok (.invokevirtual 64, 3) := by decide +kernel
theorem dX10_divided_42 : decode cX10_divided 42 = .ok (.istore 4, 2) := by decide +kernel
theorem dX10_divided_44 : decode cX10_divided 44 = .ok (.aload_n 0, 1) := by decide +kernel
theorem dX10_divided_45 : decode cX10_divided 45 = .ok (.iload_n 2, 1) := by decide +kernel
theorem dX10_divided_46 : decode cX10_divided 46 = .ok (.aload_n 0, 1) := by decide +kernel
theorem dX10_divided_47 : decode cX10_divided 47 = .ok (.getfield 15, 3) := by decide +kernel
theorem dX10_divided_50 : decode cX10_divided 50 = .ok (.invokevirtual 64, 3) := by decide +kernel
theorem dX10_divided_53 : decode cX10_divided 53 = .ok (.istore 5, 2) := by decide +kernel
theorem dX10_divided_55 : decode cX10_divided 55 = .ok (.aload_n 0, 1) := by decide +kernel
theorem dX10_divided_56 : decode cX10_divided 56 = .ok (.iload_n 1, 1) := by decide +kernel
theorem dX10_divided_57 : decode cX10_divided 57 = .ok (.invokevirtual 68, 3) := by decide +kernel
theorem dX10_divided_60 : decode cX10_divided 60 = .ok (.istore 6, 2) := by decide +kernel
theorem dX10_divided_62 : decode cX10_divided 62 = .ok (.aload_n 0, 1) := by decide +kernel
theorem dX10_divided_63 : decode cX10_divided 63 = .ok (.iload 4, 2) := by decide +kernel
theorem dX10_divided_65 : decode cX10_divided 65 = .ok (.iload 5, 2) := by decide +kernel
theorem dX10_divided_67 : decode cX10_divided 67 = .ok (.invokevirtual 127, 3) := by decide +kernel
theorem dX10_divided_70 : decode cX10_divided 70 = .ok (.istore 7, 2) := by decide +kernel
theorem dX10_divided_72 : decode cX10_divided 72 = .ok (.iload 7, 2) := by decide +kernel
theorem dX10_divided_74 : decode cX10_divided 74 = .ok (.ifCond .ne 7, 3) := by decide +kernel
theorem dX10_divided_77 : decode cX10_divided 77 = .ok (.iconst 1, 1) := by decide +kernel
theorem dX10_divided_78 : decode cX10_divided 78 = .ok (.goto 4, 3) := by decide +kernel
theorem dX10_divided_81 : decode cX10_divided 81 = .ok (.iconst 0, 1) := by decide +kernel
theorem dX10_divided_82 : decode cX10_divided 82 = .ok (.istore 8, 2) := by decide +kernel
theorem dX10_divided_84 : decode cX10_divided 84 = .ok (.iload_n 3, 1) := by decide +kernel
theorem dX10_divided_85 : decode cX10_divided 85 = .ok (.ifCond .eq 78, 3) := by decide +kernel
theorem dX10_divided_88 : decode cX10_divided 88 = .ok (.aload_n 0, 1) := by decide +kernel
theorem dX10_divided_89 : decode cX10_divided 89 = .ok (.iload 5, 2) := by decide +kernel
theorem dX10_divided_91 : decode cX10_divided 91 = .ok (.invokevirtual 130, 3) := by decide +kernel
theorem dX10_divided_94 : decode cX10_divided 94 = .ok (.iload 6, 2) := by decide +kernel
theorem dX10_divided_96 : decode cX10_divided 96 = .ok (.ifCond .eq 8, 3) := by decide +kernel
theorem dX10_divided_99 : decode cX10_divided 99 = .ok (.iload 8, 2) := by decide +kernel
theorem dX10_divided_101 : decode cX10_divided 101 = .ok (.ifCond .eq 11, 3) := by decide +kernel
theorem dX10_divided_104 : decode cX10_divided 104 = .ok (.aload_n 0, 1) := by decide +kernel
theorem dX10_divided_105 : decode cX10_divided 105 = .ok (.iload 5, 2) := by decide +kernel
theorem dX10_divided_107 : decode cX10_divided 107 = .ok (.iconst 0, 1) := by decide +kernel
theorem dX10_divided_108 : decode cX10_divided 108 = .ok (.invokevirtual 72, 3) := by decide +kernel
theorem dX10_divided_111 : decode cX10_divided 111 = .ok (.ireturn, 1) := by decide +kernel
theorem dX10_divided_112 : decode cX10_divided 112 = .ok (.aload_n 0, 1) := by decide +kernel
theorem dX10_divided_113 : decode cX10_divided 113 = .ok (.getfield 18, 3) := by decide +kernel
theorem dX10_divided_116 : decode cX10_divided 116 = .ok (.iconst 0, 1) := by decide +kernel
theorem dX10_divided_117 : decode cX10_divided 117 = .ok (.aload_n 0, 1) := by decide +kernel
theorem dX10_divided_118 : decode cX10_divided 118 = .ok (.getfield 9, 3) := by decide +kernel
theorem dX10_divided_121 : decode cX10_divided 121 = .ok (.iconst 0, 1) := by decide +kernel
theorem dX10_divided_122 : decode cX10_divided 122 = .ok (.iload 5, 2) := by decide +kernel
theorem dX10_divided_124 : decode cX10_divided 124 = .ok (.invokestatic 58, 3) := by decide +kernel
theorem dX10_divided_127 : decode cX10_divided 127 = .ok (.aload_n 0, 1) := by decide +kernel
theorem dX10_divided_128 : decode cX10_divided 128 = .ok (.iload_n 2, 1) := by decide +kernel
theorem dX10_divided_129 : decode cX10_divided 129 = .ok (.aload_n 0, 1) := by decide +kernel
theorem dX10_divided_130 : decode cX10_divided 130 = .ok (.getfield 15, 3) := by decide +kernel
theorem dX10_divided_133 : decode cX10_divided 133 = .ok (.invokevirtual 64, 3) := by decide +kernel
theorem dX10_divided_136 : decode cX10_divided 136 = .ok (.pop, 1) := by decide +kernel
theorem dX10_divided_137 : decode cX10_divided 137 = .ok (.aload_n 0, 1) := by decide +kernel
theorem dX10_divided_138 : decode cX10_divided 138 = .ok (.aload_n 0, 1) := by decide +kernel
theorem dX10_divided_139 : decode cX10_divided 139 = .ok (.aload_n 0, 1) := by decide +kernel
theorem dX10_divided_140 : decode cX10_divided 140 = .ok (.getfield 15, 3) := by decide +kernel
theorem dX10_divided_143 : decode cX10_divided 143 = .ok (.iload 5, 2) := by decide +kernel
theorem dX10_divided_145 : decode cX10_divided 145 = .ok (.aload_n 0, 1) := by decide +kernel
theorem dX10_divided_146 : decode cX10_divided 146 = .ok (.getfield 9, 3) := by decide +kernel
theorem dX10_divided_149 : decode cX10_divided 149 = .ok (.aload_n 0, 1) := by decide +kernel
theorem dX10_divided_150 : decode cX10_divided 150 = .ok (.iload 5, 2) := by decide +kernel
theorem dX10_divided_152 : decode cX10_divided 152 = .ok (.invokevirtual 134, 3) := by decide +kernel
theorem dX10_divided_155 : decode cX10_divided 155 = .ok (.invokevirtual 90, 3) := by decide +kernel
theorem dX10_divided_158 : decode cX10_divided 158 = .ok (.iconst 0, 1) := by decide +kernel
theorem dX10_divided_159 : decode cX10_divided 159 = .ok (.invokevirtual 72, 3) := by decide +kernel
theorem dX10_divided_162 : decode cX10_divided 162 = .ok (.ireturn, 1) := by decide +kernel
theorem dX10_divided_163 : decode cX10_divided 163 = .ok (.aload_n 0, 1) := by decide +kernel
theorem dX10_divided_164 : decode cX10_divided 164 = .ok (.iload 4, 2) := by decide +kernel
theorem dX10_divided_166 : decode cX10_divided 166 = .ok (.invokevirtual 137, 3) := by decide +kernel
theorem dX10_divided_169 : decode cX10_divided 169 = .ok (.istore 9, 2) := by decide +kernel
theorem dX10_divided_171 : decode cX10_divided 171 = .ok (.iload 6, 2) := by decide +kernel
theorem dX10_divided_173 : decode cX10_divided 173 = .ok (.ifCond .eq 16, 3) := by decide +kernel
theorem dX10_divided_176 : decode cX10_divided 176 = .ok (.iload 8, 2) := by decide +kernel
theorem dX10_divided_178 : decode cX10_divided 178 = .ok (.ifCond .ne 11, 3) := by decide +kernel
theorem dX10_divided_181 : decode cX10_divided 181 = .ok (.aload_n 0, 1) := by decide +kernel
theorem dX10_divided_182 : decode cX10_divided 182 = .ok (.iload 9, 2) := by decide +kernel
theorem dX10_divided_184 : decode cX10_divided 184 = .ok (.invokevirtual 140, 3) := by decide +kernel
theorem dX10_divided_187 : decode cX10_divided 187 = .ok (.istore 9, 2) := by decide +kernel
theorem dX10_divided_189 : decode cX10_divided 189 = .ok (.aload_n 0, 1) := by decide +kernel
theorem dX10_divided_190 : decode cX10_divided 190 = .ok (.iload 9, 2) := by decide +kernel
theorem dX10_divided_192 : decode cX10_divided 192 = .ok (.iload 6, 2) := by decide +kernel
theorem dX10_divided_194 : decode cX10_divided 194 = .ok (.aload_n 0, 1) := by decide +kernel
theorem dX10_divided_195 : decode cX10_divided 195 = .ok (.iload_n 2, 1) := by decide +kernel
theorem dX10_divided_196 : decode cX10_divided 196 = .ok (.invokevirtual 68, 3) := by decide +kernel
theorem dX10_divided_199 : decode cX10_divided 199 = .ok (.if_icmp .eq 7, 3) := by decide +kernel
theorem dX10_divided_202 : decode cX10_divided 202 = .ok (.iconst 1, 1) := by decide +kernel
theorem dX10_divided_203 : decode cX10_divided 203 = .ok (.goto 4, 3) := by decide +kernel
theorem dX10_divided_206 : decode cX10_divided 206 = .ok (.iconst 0, 1) := by decide +kernel
theorem dX10_divided_207 : decode cX10_divided 207 = .ok (.invokevirtual 72, 3) := by decide +kernel
theorem dX10_divided_210 : decode cX10_divided 210 = .ok (.ireturn, 1) := by decide +kernel
theorem dX10_dividedSmall_0 : decode cX10_dividedSmall 0 = .ok (.lload_n 3, 1) := by decide +kernel
theorem dX10_dividedSmall_1 : decode cX10_dividedSmall 1 = .ok (.lconst 0, 1) := by decide +kernel
theorem dX10_dividedSmall_2 : decode cX10_dividedSmall 2 = .ok (.lcmp, 1) := by decide +kernel
theorem dX10_dividedSmall_3 : decode cX10_dividedSmall 3 = .ok (.ifCond .ne 6, 3) := by decide +kernel
theorem dX10_dividedSmall_6 : decode cX10_dividedSmall 6 = .ok (.ldc 122, 2) := by decide +kernel
theorem dX10_dividedSmall_8 : decode cX10_dividedSmall 8 = .ok (.ireturn, 1) := by decide +kernel
theorem dX10_dividedSmall_9 : decode cX10_dividedSmall 9 = .ok (.lload_n 1, 1) := by decide +kernel
theorem dX10_dividedSmall_10 : decode cX10_dividedSmall 10 = .ok (.lload_n 3, 1) := by decide +kernel
theorem dX10_dividedSmall_11 : decode cX10_dividedSmall 11 = .ok (.lrem, 1) := by decide +kernel
theorem dX10_dividedSmall_12 : decode cX10_dividedSmall 12 = .ok (.lstore 6, 2) := by decide +kernel
theorem dX10_dividedSmall_14 : decode cX10_dividedSmall 14 = .ok (.lload 6, 2) := by decide +kernel
theorem dX10_dividedSmall_16 : decode cX10_dividedSmall 16 = .ok (.lconst 0, 1) := by decide +kernel
theorem dX10_dividedSmall_17 : decode cX10_dividedSmall 17 = .ok (.lcmp, 1) := by decide +kernel
theorem dX10_dividedSmall_18 : decode cX10_dividedSmall 18 = .ok (.ifCond .ge 20, 3) := by decide +kernel
theorem dX10_dividedSmall_21 : decode cX10_dividedSmall 21 = .ok (.lload 6, 2) := by decide +kernel
theorem dX10_dividedSmall_23 : decode cX10_dividedSmall 23 = .ok (.lload_n 3, 1) := by decide +kernel
theorem dX10_dividedSmall_24 : decode cX10_dividedSmall 24 = .ok (.lconst 0, 1) := by decide +kernel
theorem dX10_dividedSmall_25 : decode cX10_dividedSmall 25 = .ok (.lcmp, 1) := by decide +kernel
theorem dX10_dividedSmall_26 : decode cX10_dividedSmall 26 = .ok (.ifCond .ge 8, 3) := by decide +kernel
theorem dX10_dividedSmall_29 : decode cX10_dividedSmall 29 = .ok (.lload_n 3, 1) := by decide +kernel
theorem dX10_dividedSmall_30 : decode cX10_dividedSmall 30 = .ok (.lneg, 1) := by decide +kernel
theorem dX10_dividedSmall_31 : decode cX10_dividedSmall 31 = .ok (.goto 4, 3) := by decide +kernel
theorem dX10_dividedSmall_34 : decode cX10_dividedSmall 34 = .ok (.lload_n 3, 1) := by decide +kernel
theorem dX10_dividedSmall_35 : decode cX10_dividedSmall 35 = .ok (.ladd, 1) := by decide +kernel
theorem dX10_dividedSmall_36 : decode cX10_dividedSmall 36 = .ok (.lstore 6, 2) := by decide +kernel
theorem dX10_dividedSmall_38 : decode cX10_dividedSmall 38 = .ok (.aload_n 0, 1) := by decide +kernel
theorem dX10_dividedSmall_39 : decode cX10_dividedSmall 39 = .ok (.iload 5, 2) := by decide +kernel
theorem dX10_dividedSmall_41 : decode cX10_dividedSmall 41 = .ok (.ifCond .eq 8, 3) := by decide +kernel
theorem dX10_dividedSmall_44 : decode cX10_dividedSmall 44 = .ok (.lload 6, 2) := by decide +kernel
theorem dX10_dividedSmall_46 : decode cX10_dividedSmall 46 = .ok (.goto 9, 3) := by decide +kernel
theorem dX10_dividedSmall_49 : decode cX10_dividedSmall 49 = .ok (.lload_n 1, 1) := by decide +kernel
theorem dX10_dividedSmall_50 : decode cX10_dividedSmall 50 = .ok (.lload 6, 2) := by decide +kernel
theorem dX10_dividedSmall_52 : decode cX10_dividedSmall 52 = .ok (.lsub, 1) := by decide +kernel
theorem dX10_dividedSmall_53 : decode cX10_dividedSmall 53 = .ok (.lload_n 3, 1) := by decide +kernel
theorem dX10_dividedSmall_54 : decode cX10_dividedSmall 54 = .ok (.ldiv, 1) := by decide +kernel
theorem dX10_dividedSmall_55 : decode cX10_dividedSmall 55 = .ok (.invokevirtual 79, 3) := by decide +kernel
theorem dX10_dividedSmall_58 : decode cX10_dividedSmall 58 = .ok (.ireturn, 1) := by decide +kernel
theorem dX10_isBelow_0 : decode cX10_isBelow 0 = .ok (.iload_n 1, 1) := by decide +kernel
theorem dX10_isBelow_1 : decode cX10_isBelow 1 = .ok (.ifCond .ge 17, 3) := by decide +kernel
theorem dX10_isBelow_4 : decode cX10_isBelow 4 = .ok (.iload_n 1, 1) := by decide +kernel
theorem dX10_isBelow_5 : decode cX10_isBelow 5 = .ok (.iconst 4, 1) := by decide +kernel
theorem dX10_isBelow_6 : decode cX10_isBelow 6 = .ok (.ishl, 1) := by decide +kernel
theorem dX10_isBelow_7 : decode cX10_isBelow 7 = .ok (.ifCond .ge 7, 3) := by decide +kernel
theorem dX10_isBelow_10 : decode cX10_isBelow 10 = .ok (.iconst 1, 1) := by decide +kernel
theorem dX10_isBelow_11 : decode cX10_isBelow 11 = .ok (.goto 27, 3) := by decide +kernel
theorem dX10_isBelow_14 : decode cX10_isBelow 14 = .ok (.iconst 0, 1) := by decide +kernel
theorem dX10_isBelow_15 : decode cX10_isBelow 15 = .ok (.goto 23, 3) := by decide +kernel
theorem dX10_isBelow_18 : decode cX10_isBelow 18 = .ok (.aload_n 0, 1) := by decide +kernel
theorem dX10_isBelow_19 : decode cX10_isBelow 19 = .ok (.getfield 33, 3) := by decide +kernel
theorem dX10_isBelow_22 : decode cX10_isBelow 22 = .ok (.getfield 53, 3) := by decide +kernel
theorem dX10_isBelow_25 : decode cX10_isBelow 25 = .ok (.iload_n 1, 1) := by decide +kernel
theorem dX10_isBelow_26 : decode cX10_isBelow 26 = .ok (.iaload, 1) := by decide +kernel
theorem dX10_isBelow_27 : decode cX10_isBelow 27 = .ok (.bipush 8, 2) := by decide +kernel
theorem dX10_isBelow_29 : decode cX10_isBelow 29 = .ok (.iand, 1) := by decide +kernel
theorem dX10_isBelow_30 : decode cX10_isBelow 30 = .ok (.ifCond .eq 7, 3) := by decide +kernel
theorem dX10_isBelow_33 : decode cX10_isBelow 33 = .ok (.iconst 1, 1) := by decide +kernel
theorem dX10_isBelow_34 : decode cX10_isBelow 34 = .ok (.goto 4, 3) := by decide +kernel
theorem dX10_isBelow_37 : decode cX10_isBelow 37 = .ok (.iconst 0, 1) := by decide +kernel
theorem dX10_isBelow_38 : decode cX10_isBelow 38 = .ok (.ireturn, 1) := by decide +kernel
theorem dX10_load_0 : decode cX10_load 0 = .ok (.iload_n 1, 1) := by decide +kernel
theorem dX10_load_1 : decode cX10_load 1 = .ok (.ifCond .ge 32, 3) := by decide +kernel
theorem dX10_load_4 : decode cX10_load 4 = .ok (.iload_n 1, 1) := by decide +kernel
theorem dX10_load_5 : decode cX10_load 5 = .ok (.iconst 4, 1) := by decide +kernel
theorem dX10_load_6 : decode cX10_load 6 = .ok (.ishl, 1) := by decide +kernel
theorem dX10_load_7 : decode cX10_load 7 = .ok (.iconst 4, 1) := by decide +kernel
theorem dX10_load_8 : decode cX10_load 8 = .ok (.ishr, 1) := by decide +kernel
theorem dX10_load_9 : decode cX10_load 9 = .ok (.istore_n 3, 1) := by decide +kernel
theorem dX10_load_10 : decode cX10_load 10 = .ok (.aload_n 2, 1) := by decide +kernel
theorem dX10_load_11 : decode cX10_load 11 = .ok (.iconst 0, 1) := by decide +kernel
theorem dX10_load_12 : decode cX10_load 12 = .ok (.iload_n 3, 1) := by decide +kernel
theorem dX10_load_13 : decode cX10_load 13 = .ok (.ifCond .ge 8, 3) := by decide +kernel
theorem dX10_load_16 : decode cX10_load 16 = .ok (.iload_n 3, 1) := by decide +kernel
theorem dX10_load_17 : decode cX10_load 17 = .ok (.ineg, 1) := by decide +kernel
theorem dX10_load_18 : decode cX10_load 18 = .ok (.goto 4, 3) := by decide +kernel
theorem dX10_load_21 : decode cX10_load 21 = .ok (.iload_n 3, 1) := by decide +kernel
theorem dX10_load_22 : decode cX10_load 22 = .ok (.iastore, 1) := by decide +kernel
theorem dX10_load_23 : decode cX10_load 23 = .ok (.iload_n 3, 1) := by decide +kernel
theorem dX10_load_24 : decode cX10_load 24 = .ok (.ifCond .ne 7, 3) := by decide +kernel
theorem dX10_load_27 : decode cX10_load 27 = .ok (.iconst 0, 1) := by decide +kernel
theorem dX10_load_28 : decode cX10_load 28 = .ok (.goto 4, 3) := by decide +kernel
theorem dX10_load_31 : decode cX10_load 31 = .ok (.iconst 1, 1) := by decide +kernel
theorem dX10_load_32 : decode cX10_load 32 = .ok (.ireturn, 1) := by decide +kernel
theorem dX10_load_33 : decode cX10_load 33 = .ok (.aload_n 0, 1) := by decide +kernel
theorem dX10_load_34 : decode cX10_load 34 = .ok (.getfield 33, 3) := by decide +kernel
theorem dX10_load_37 : decode cX10_load 37 = .ok (.getfield 53, 3) := by decide +kernel
theorem dX10_load_40 : decode cX10_load 40 = .ok (.iload_n 1, 1) := by decide +kernel
theorem dX10_load_41 : decode cX10_load 41 = .ok (.iaload, 1) := by decide +kernel
theorem dX10_load_42 : decode cX10_load 42 = .ok (.iconst 4, 1) := by decide +kernel
theorem dX10_load_43 : decode cX10_load 43 = .ok (.iushr, 1) := by decide +kernel
theorem dX10_load_44 : decode cX10_load 44 = .ok (.sipush 4095, 3) := by decide +kernel
theorem dX10_load_47 : decode cX10_load 47 = .ok (.iand, 1) := by decide +kernel
theorem dX10_load_48 : decode cX10_load 48 = .ok (.istore_n 3, 1) := by decide +kernel
theorem dX10_load_49 : decode cX10_load 49 = .ok (.aload_n 0, 1) := by decide +kernel
theorem dX10_load_50 : decode cX10_load 50 = .ok (.getfield 33, 3) := by decide +kernel
theorem dX10_load_53 : decode cX10_load 53 = .ok (.getfield 53, 3) := by decide +kernel
theorem dX10_load_56 : decode cX10_load 56 = .ok (.iload_n 1, 1) := by decide +kernel
theorem dX10_load_57 : decode cX10_load 57 = .ok (.iconst 1, 1) := by decide +kernel
theorem dX10_load_58 : decode cX10_load 58 = .ok (.iadd, 1) := by decide +kernel
theorem dX10_load_59 : decode cX10_load 59 = .ok (.aload_n 2, 1) := by decide +kernel
theorem dX10_load_60 : decode cX10_load 60 = .ok (.iconst 0, 1) := by decide +kernel
theorem dX10_load_61 : decode cX10_load 61 = .ok (.iload_n 3, 1) := by decide +kernel
theorem dX10_load_62 : decode cX10_load 62 = .ok (.invokestatic 58, 3) := by decide +kernel
theorem dX10_load_65 : decode cX10_load 65 = .ok (.iload_n 3, 1) := by decide +kernel
theorem dX10_load_66 : decode cX10_load 66 = .ok (.ireturn, 1) := by decide +kernel
theorem dX10_made_0 : decode cX10_made 0 = .ok (.iload_n 1, 1) := by decide +kernel
theorem dX10_made_1 : decode cX10_made 1 = .ok (.istore_n 3, 1) := by decide +kernel
theorem dX10_made_2 : decode cX10_made 2 = .ok (.iload_n 1, 1) := by decide +kernel
theorem dX10_made_3 : decode cX10_made 3 = .ok (.istore 4, 2) := by decide +kernel
theorem dX10_made_5 : decode cX10_made 5 = .ok (.iload 4, 2) := by decide +kernel
theorem dX10_made_7 : decode cX10_made 7 = .ok (.ifCond .le 26, 3) := by decide +kernel
theorem dX10_made_10 : decode cX10_made 10 = .ok (.aload_n 0, 1) := by decide +kernel
theorem dX10_made_11 : decode cX10_made 11 = .ok (.getfield 18, 3) := by decide +kernel
theorem dX10_made_14 : decode cX10_made 14 = .ok (.iload 4, 2) := by decide +kernel
theorem dX10_made_16 : decode cX10_made 16 = .ok (.iconst 1, 1) := by decide +kernel
theorem dX10_made_17 : decode cX10_made 17 = .ok (.isub, 1) := by decide +kernel
theorem dX10_made_18 : decode cX10_made 18 = .ok (.iaload, 1) := by decide +kernel
theorem dX10_made_19 : decode cX10_made 19 = .ok (.ifCond .ne 14, 3) := by decide +kernel
theorem dX10_made_22 : decode cX10_made 22 = .ok (.iload 4, 2) := by decide +kernel
theorem dX10_made_24 : decode cX10_made 24 = .ok (.iconst 1, 1) := by decide +kernel
theorem dX10_made_25 : decode cX10_made 25 = .ok (.isub, 1) := by decide +kernel
theorem dX10_made_26 : decode cX10_made 26 = .ok (.istore_n 3, 1) := by decide +kernel
theorem dX10_made_27 : decode cX10_made 27 = .ok (.iinc 4 (-1), 3) := by decide +kernel
theorem dX10_made_30 : decode cX10_made 30 = .ok (.goto (-25), 3) := by decide +kernel
theorem dX10_made_33 : decode cX10_made 33 = .ok (.aload_n 0, 1) := by decide +kernel
theorem dX10_made_34 : decode cX10_made 34 = .ok (.getfield 18, 3) := by decide +kernel
theorem dX10_made_37 : decode cX10_made 37 = .ok (.iconst 0, 1) := by decide +kernel
theorem dX10_made_38 : decode cX10_made 38 = .ok (.iaload, 1) := by decide +kernel
theorem dX10_made_39 : decode cX10_made 39 = .ok (.istore 4, 2) := by decide +kernel
theorem dX10_made_41 : decode cX10_made 41 = .ok (.iload_n 3, 1) := by decide +kernel
theorem dX10_made_42 : decode cX10_made 42 = .ok (.iconst 1, 1) := by decide +kernel
theorem dX10_made_43 : decode cX10_made 43 = .ok (.if_icmp .gt 51, 3) := by decide +kernel
theorem dX10_made_46 : decode cX10_made 46 = .ok (.iload 4, 2) := by decide +kernel
theorem dX10_made_48 : decode cX10_made 48 = .ok (.ifCond .lt 46, 3) := by decide +kernel
theorem dX10_made_51 : decode cX10_made 51 = .ok (.iload 4, 2) := by decide +kernel
theorem dX10_made_53 : decode cX10_made 53 = .ok (.ldc 57, 2) := by decide +kernel
theorem dX10_made_55 : decode cX10_made 55 = .ok (.if_icmp .lt 14, 3) := by decide +kernel
theorem dX10_made_58 : decode cX10_made 58 = .ok (.iload_n 2, 1) := by decide +kernel
theorem dX10_made_59 : decode cX10_made 59 = .ok (.ifCond .eq 35, 3) := by decide +kernel
theorem dX10_made_62 : decode cX10_made 62 = .ok (.iload 4, 2) := by decide +kernel
theorem dX10_made_64 : decode cX10_made 64 = .ok (.ldc 57, 2) := by decide +kernel
theorem dX10_made_66 : decode cX10_made 66 = .ok (.if_icmp .ne 28, 3) := by decide +kernel
theorem dX10_made_69 : decode cX10_made 69 = .ok (.iload_n 3, 1) := by decide +kernel
theorem dX10_made_70 : decode cX10_made 70 = .ok (.ifCond .ne 8, 3) := by decide +kernel
theorem dX10_made_73 : decode cX10_made 73 = .ok (.ldc 37, 2) := by decide +kernel
theorem dX10_made_75 : decode cX10_made 75 = .ok (.goto 18, 3) := by decide +kernel
theorem dX10_made_78 : decode cX10_made 78 = .ok (.iload_n 2, 1) := by decide +kernel
theorem dX10_made_79 : decode cX10_made 79 = .ok (.ifCond .eq 9, 3) := by decide +kernel
theorem dX10_made_82 : decode cX10_made 82 = .ok (.iload 4, 2) := by decide +kernel
theorem dX10_made_84 : decode cX10_made 84 = .ok (.ineg, 1) := by decide +kernel
theorem dX10_made_85 : decode cX10_made 85 = .ok (.goto 5, 3) := by decide +kernel
theorem dX10_made_88 : decode cX10_made 88 = .ok (.iload 4, 2) := by decide +kernel
theorem dX10_made_90 : decode cX10_made 90 = .ok (.invokestatic 43, 3) := by decide +kernel
theorem dX10_made_93 : decode cX10_made 93 = .ok (.ireturn, 1) := by decide +kernel
theorem dX10_made_94 : decode cX10_made 94 = .ok (.iload_n 3, 1) := by decide +kernel
theorem dX10_made_95 : decode cX10_made 95 = .ok (.ifCond .ne 8, 3) := by decide +kernel
theorem dX10_made_98 : decode cX10_made 98 = .ok (.ldc 37, 2) := by decide +kernel
theorem dX10_made_100 : decode cX10_made 100 = .ok (.goto 16, 3) := by decide +kernel
theorem dX10_made_103 : decode cX10_made 103 = .ok (.aload_n 0, 1) := by decide +kernel
theorem dX10_made_104 : decode cX10_made 104 = .ok (.getfield 33, 3) := by decide +kernel
theorem dX10_made_107 : decode cX10_made 107 = .ok (.aload_n 0, 1) := by decide +kernel
theorem dX10_made_108 : decode cX10_made 108 = .ok (.getfield 18, 3) := by decide +kernel
theorem dX10_made_111 : decode cX10_made 111 = .ok (.iload_n 3, 1) := by decide +kernel
theorem dX10_made_112 : decode cX10_made 112 = .ok (.iload_n 2, 1) := by decide +kernel
theorem dX10_made_113 : decode cX10_made 113 = .ok (.invokevirtual 47, 3) := by decide +kernel
theorem dX10_made_116 : decode cX10_made 116 = .ok (.ireturn, 1) := by decide +kernel
theorem dX10_negated_0 : decode cX10_negated 0 = .ok (.aload_n 0, 1) := by decide +kernel
theorem dX10_negated_1 : decode cX10_negated 1 = .ok (.aload_n 0, 1) := by decide +kernel
theorem dX10_negated_2 : decode cX10_negated 2 = .ok (.iload_n 1, 1) := by decide +kernel
theorem dX10_negated_3 : decode cX10_negated 3 = .ok (.aload_n 0, 1) := by decide +kernel
theorem dX10_negated_4 : decode cX10_negated 4 = .ok (.getfield 18, 3) := by decide +kernel
theorem dX10_negated_7 : decode cX10_negated 7 = .ok (.invokevirtual 64, 3) := by decide +kernel
theorem dX10_negated_10 : decode cX10_negated 10 = .ok (.aload_n 0, 1) := by decide +kernel
theorem dX10_negated_11 : decode cX10_negated 11 = .ok (.iload_n 1, 1) := by decide +kernel
theorem dX10_negated_12 : decode cX10_negated 12 = .ok (.invokevirtual 68, 3) := by decide +kernel
theorem dX10_negated_15 : decode cX10_negated 15 = .ok (.ifCond .ne 7, 3) := by decide +kernel
theorem dX10_negated_18 : decode cX10_negated 18 = .ok (.iconst 1, 1) := by decide +kernel
theorem dX10_negated_19 : decode cX10_negated 19 = .ok (.goto 4, 3) := by decide +kernel
theorem dX10_negated_22 : decode cX10_negated 22 = .ok (.iconst 0, 1) := by decide +kernel
theorem dX10_negated_23 : decode cX10_negated 23 = .ok (.invokevirtual 72, 3) := by decide +kernel
theorem dX10_negated_26 : decode cX10_negated 26 = .ok (.ireturn, 1) := by decide +kernel
theorem dX10_number_0 : decode cX10_number 0 = .ok (.iload_n 0, 1) := by decide +kernel
theorem dX10_number_1 : decode cX10_number 1 = .ok (.iconst 4, 1) := by decide +kernel
theorem dX10_number_2 : decode cX10_number 2 = .ok (.ishl, 1) := by decide +kernel
theorem dX10_number_3 : decode cX10_number 3 = .ok (.iconst 4, 1) := by decide +kernel
theorem dX10_number_4 : decode cX10_number 4 = .ok (.ishr, 1) := by decide +kernel
theorem dX10_number_5 : decode cX10_number 5 = .ok (.ireturn, 1) := by decide +kernel
theorem dX10_of_0 : decode cX10_of 0 = .ok (.lload_n 1, 1) := by decide +kernel
theorem dX10_of_1 : decode cX10_of 1 = .ok (.ldc2_w 39, 3) := by decide +kernel
theorem dX10_of_4 : decode cX10_of 4 = .ok (.lcmp, 1) := by decide +kernel
theorem dX10_of_5 : decode cX10_of 5 = .ok (.ifCond .lt 17, 3) := by decide +kernel
theorem dX10_of_8 : decode cX10_of 8 = .ok (.lload_n 1, 1) := by decide +kernel
theorem dX10_of_9 : decode cX10_of 9 = .ok (.ldc2_w 41, 3) := by decide +kernel
theorem dX10_of_12 : decode cX10_of 12 = .ok (.lcmp, 1) := by decide +kernel
theorem dX10_of_13 : decode cX10_of 13 = .ok (.ifCond .ge 9, 3) := by decide +kernel
theorem dX10_of_16 : decode cX10_of 16 = .ok (.lload_n 1, 1) := by decide +kernel
theorem dX10_of_17 : decode cX10_of 17 = .ok (.l2i, 1) := by decide +kernel
theorem dX10_of_18 : decode cX10_of 18 = .ok (.invokestatic 43, 3) := by decide +kernel
theorem dX10_of_21 : decode cX10_of 21 = .ok (.ireturn, 1) := by decide +kernel
theorem dX10_of_22 : decode cX10_of 22 = .ok (.lload_n 1, 1) := by decide +kernel
theorem dX10_of_23 : decode cX10_of 23 = .ok (.lconst 0, 1) := by decide +kernel
theorem dX10_of_24 : decode cX10_of 24 = .ok (.lcmp, 1) := by decide +kernel
theorem dX10_of_25 : decode cX10_of 25 = .ok (.ifCond .ge 8, 3) := by decide +kernel
theorem dX10_of_28 : decode cX10_of 28 = .ok (.lload_n 1, 1) := by decide +kernel
theorem dX10_of_29 : decode cX10_of 29 = .ok (.lneg, 1) := by decide +kernel
theorem dX10_of_30 : decode cX10_of 30 = .ok (.goto 4, 3) := by decide +kernel
theorem dX10_of_33 : decode cX10_of 33 = .ok (.lload_n 1, 1) := by decide +kernel
theorem dX10_of_34 : decode cX10_of 34 = .ok (.lstore_n 3, 1) := by decide +kernel
theorem dX10_of_35 : decode cX10_of 35 = .ok (.aload_n 0, 1) := by decide +kernel
theorem dX10_of_36 : decode cX10_of 36 = .ok (.getfield 18, 3) := by decide +kernel
theorem dX10_of_39 : decode cX10_of 39 = .ok (.iconst 0, 1) := by decide +kernel
theorem dX10_of_40 : decode cX10_of 40 = .ok (.lload_n 3, 1) := by decide +kernel
theorem dX10_of_41 : decode cX10_of 41 = .ok (.l2i, 1) := by decide +kernel
theorem dX10_of_42 : decode cX10_of 42 = .ok (.iastore, 1) := by decide +kernel
theorem dX10_of_43 : decode cX10_of 43 = .ok (.aload_n 0, 1) := by decide +kernel
theorem dX10_of_44 : decode cX10_of 44 = .ok (.getfield 18, 3) := by decide +kernel
theorem dX10_of_47 : decode cX10_of 47 = .ok (.iconst 1, 1) := by decide +kernel
theorem dX10_of_48 : decode cX10_of 48 = .ok (.lload_n 3, 1) := by decide +kernel
theorem dX10_of_49 : decode cX10_of 49 = .ok (.bipush 32, 2) := by decide +kernel
theorem dX10_of_51 : decode cX10_of 51 = .ok (.lushr, 1) := by decide +kernel
theorem dX10_of_52 : decode cX10_of 52 = .ok (.l2i, 1) := by decide +kernel
theorem dX10_of_53 : decode cX10_of 53 = .ok (.iastore, 1) := by decide +kernel
theorem dX10_of_54 : decode cX10_of 54 = .ok (.aload_n 0, 1) := by decide +kernel
theorem dX10_of_55 : decode cX10_of 55 = .ok (.getfield 33, 3) := by decide +kernel
theorem dX10_of_58 : decode cX10_of 58 = .ok (.aload_n 0, 1) := by decide +kernel
theorem dX10_of_59 : decode cX10_of 59 = .ok (.getfield 18, 3) := by decide +kernel
theorem dX10_of_62 : decode cX10_of 62 = .ok (.aload_n 0, 1) := by decide +kernel
theorem dX10_of_63 : decode cX10_of 63 = .ok (.getfield 18, 3) := by decide +kernel
theorem dX10_of_66 : decode cX10_of 66 = .ok (.iconst 1, 1) := by decide +kernel
theorem dX10_of_67 : decode cX10_of 67 = .ok (.iaload, 1) := by decide +kernel
theorem dX10_of_68 : decode cX10_of 68 = .ok (.ifCond .ne 7, 3) := by decide +kernel
theorem dX10_of_71 : decode cX10_of 71 = .ok (.iconst 1, 1) := by decide +kernel
theorem dX10_of_72 : decode cX10_of 72 = .ok (.goto 4, 3) := by decide +kernel
theorem dX10_of_75 : decode cX10_of 75 = .ok (.iconst 2, 1) := by decide +kernel
theorem dX10_of_76 : decode cX10_of 76 = .ok (.lload_n 1, 1) := by decide +kernel
theorem dX10_of_77 : decode cX10_of 77 = .ok (.lconst 0, 1) := by decide +kernel
theorem dX10_of_78 : decode cX10_of 78 = .ok (.lcmp, 1) := by decide +kernel
theorem dX10_of_79 : decode cX10_of 79 = .ok (.ifCond .ge 7, 3) := by decide +kernel
theorem dX10_of_82 : decode cX10_of 82 = .ok (.iconst 1, 1) := by decide +kernel
theorem dX10_of_83 : decode cX10_of 83 = .ok (.goto 4, 3) := by decide +kernel
theorem dX10_of_86 : decode cX10_of 86 = .ok (.iconst 0, 1) := by decide +kernel
theorem dX10_of_87 : decode cX10_of 87 = .ok (.invokevirtual 47, 3) := by decide +kernel
theorem dX10_of_90 : decode cX10_of 90 = .ok (.ireturn, 1) := by decide +kernel
theorem dX10_power_0 : decode cX10_power 0 = .ok (.aload_n 0, 1) := by decide +kernel
theorem dX10_power_1 : decode cX10_power 1 = .ok (.iload_n 2, 1) := by decide +kernel
theorem dX10_power_2 : decode cX10_power 2 = .ok (.invokevirtual 68, 3) := by decide +kernel
theorem dX10_power_5 : decode cX10_power 5 = .ok (.ifCond .eq 6, 3) := by decide +kernel
theorem dX10_power_8 : decode cX10_power 8 = .ok (.ldc 108, 2) := by decide +kernel
theorem dX10_power_10 : decode cX10_power 10 = .ok (.ireturn, 1) := by decide +kernel
theorem dX10_power_11 : decode cX10_power 11 = .ok (.iload_n 2, 1) := by decide +kernel
theorem dX10_power_12 : decode cX10_power 12 = .ok (.ldc 37, 2) := by decide +kernel
theorem dX10_power_14 : decode cX10_power 14 = .ok (.if_icmp .eq 9, 3) := by decide +kernel
theorem dX10_power_17 : decode cX10_power 17 = .ok (.iload_n 1, 1) := by decide +kernel
theorem dX10_power_18 : decode cX10_power 18 = .ok (.ldc 109, 2) := by decide +kernel
theorem dX10_power_20 : decode cX10_power 20 = .ok (.if_icmp .ne 6, 3) := by decide +kernel
theorem dX10_power_23 : decode cX10_power 23 = .ok (.ldc 109, 2) := by decide +kernel
theorem dX10_power_25 : decode cX10_power 25 = .ok (.ireturn, 1) := by decide +kernel
theorem dX10_power_26 : decode cX10_power 26 = .ok (.iload_n 1, 1) := by decide +kernel
theorem dX10_power_27 : decode cX10_power 27 = .ok (.ldc 37, 2) := by decide +kernel
theorem dX10_power_29 : decode cX10_power 29 = .ok (.if_icmp .ne 5, 3) := by decide +kernel
theorem dX10_power_32 : decode cX10_power 32 = .ok (.iload_n 1, 1) := by decide +kernel
theorem dX10_power_33 : decode cX10_power 33 = .ok (.ireturn, 1) := by decide +kernel
theorem dX10_power_34 : decode cX10_power 34 = .ok (.sipush 1024, 3) := by decide +kernel
theorem dX10_power_37 : decode cX10_power 37 = .ok (.istore_n 3, 1) := by decide +kernel
theorem dX10_power_38 : decode cX10_power 38 = .ok (.iload_n 1, 1) := by decide +kernel
theorem dX10_power_39 : decode cX10_power 39 = .ok (.iconst (-1), 1) := by decide +kernel
theorem dX10_power_40 : decode cX10_power 40 = .ok (.invokestatic 43, 3) := by decide +kernel
theorem dX10_power_43 : decode cX10_power 43 = .ok (.if_icmp .ne 38, 3) := by decide +kernel
theorem dX10_power_46 : decode cX10_power 46 = .ok (.iload_n 2, 1) := by decide +kernel
theorem dX10_power_47 : decode cX10_power 47 = .ok (.ifCond .ge 7, 3) := by decide +kernel
theorem dX10_power_50 : decode cX10_power 50 = .ok (.iload_n 2, 1) := by decide +kernel
theorem dX10_power_51 : decode cX10_power 51 = .ok (.goto 14, 3) := by decide +kernel
theorem dX10_power_54 : decode cX10_power 54 = .ok (.aload_n 0, 1) := by decide +kernel
theorem dX10_power_55 : decode cX10_power 55 = .ok (.getfield 33, 3) := by decide +kernel
theorem dX10_power_58 : decode cX10_power 58 = .ok (.getfield 53, 3) := by decide +kernel
theorem dX10_power_61 : decode cX10_power 61 = .ok (.iload_n 2, 1) := by decide +kernel
theorem dX10_power_62 : decode cX10_power 62 = .ok (.iconst 1, 1) := by decide +kernel
theorem dX10_power_63 : decode cX10_power 63 = .ok (.iadd, 1) := by decide +kernel
theorem dX10_power_64 : decode cX10_power 64 = .ok (.iaload, 1) := by decide +kernel
theorem dX10_power_65 : decode cX10_power 65 = .ok (.istore 4, 2) := by decide +kernel
theorem dX10_power_67 : decode cX10_power 67 = .ok (.iload 4, 2) := by decide +kernel
theorem dX10_power_69 : decode cX10_power 69 = .ok (.iconst 1, 1) := by decide +kernel
theorem dX10_power_70 : decode cX10_power 70 = .ok (.iand, 1) := by decide +kernel
theorem dX10_power_71 : decode cX10_power 71 = .ok (.ifCond .ne 8, 3) := by decide +kernel
theorem dX10_power_74 : decode cX10_power 74 = .ok (.ldc 109, 2) := by decide +kernel
theorem dX10_power_76 : decode cX10_power 76 = .ok (.goto 4, 3) := by decide +kernel
theorem dX10_power_79 : decode cX10_power 79 = .ok (.iload_n 1, 1) := by decide +kernel
theorem dX10_power_80 : decode cX10_power 80 = .ok (.ireturn, 1) := by decide +kernel
theorem dX10_power_81 : decode cX10_power 81 = .ok (.aload_n 0, 1) := by decide +kernel
theorem dX10_power_82 : decode cX10_power 82 = .ok (.iload_n 2, 1) := by decide +kernel
theorem dX10_power_83 : decode cX10_power 83 = .ok (.invokevirtual 110, 3) := by decide +kernel
theorem dX10_power_86 : decode cX10_power 86 = .ok (.iload_n 3, 1) := by decide +kernel
theorem dX10_power_87 : decode cX10_power 87 = .ok (.if_icmp .le 6, 3) := by decide +kernel
theorem dX10_power_90 : decode cX10_power 90 = .ok (.ldc 107, 2) := by decide +kernel
theorem dX10_power_92 : decode cX10_power 92 = .ok (.ireturn, 1) := by decide +kernel
theorem dX10_power_93 : decode cX10_power 93 = .ok (.iload_n 2, 1) := by decide +kernel
theorem dX10_power_94 : decode cX10_power 94 = .ok (.invokestatic 113, 3) := by decide +kernel
theorem dX10_power_97 : decode cX10_power 97 = .ok (.istore 4, 2) := by decide +kernel
theorem dX10_power_99 : decode cX10_power 99 = .ok (.ldc 109, 2) := by decide +kernel
theorem dX10_power_101 : decode cX10_power 101 = .ok (.istore 5, 2) := by decide +kernel
theorem dX10_power_103 : decode cX10_power 103 = .ok (.bipush 11, 2) := by decide +kernel
theorem dX10_power_105 : decode cX10_power 105 = .ok (.istore 6, 2) := by decide +kernel
theorem dX10_power_107 : decode cX10_power 107 = .ok (.iload 6, 2) := by decide +kernel
theorem dX10_power_109 : decode cX10_power 109 = .ok (.ifCond .lt 55, 3) := by decide +kernel
theorem dX10_power_112 : decode cX10_power 112 = .ok (.iload 5, 2) := by decide +kernel
theorem dX10_power_114 : decode cX10_power 114 = .ok (.invokestatic 116, 3) := by decide +kernel
theorem dX10_power_117 : decode cX10_power 117 = .ok (.ifCond .ne 47, 3) := by decide +kernel
theorem dX10_power_120 : decode cX10_power 120 = .ok (.aload_n 0, 1) := by decide +kernel
theorem dX10_power_121 : decode cX10_power 121 = .ok (.iload 5, 2) := by decide +kernel
theorem dX10_power_123 : decode cX10_power 123 = .ok (.iload 5, 2) := by decide +kernel
theorem dX10_power_125 : decode cX10_power 125 = .ok (.invokevirtual 119, 3) := by decide +kernel
theorem dX10_power_128 : decode cX10_power 128 = .ok (.istore 5, 2) := by decide +kernel
theorem dX10_power_130 : decode cX10_power 130 = .ok (.iload 5, 2) := by decide +kernel
theorem dX10_power_132 : decode cX10_power 132 = .ok (.invokestatic 116, 3) := by decide +kernel
theorem dX10_power_135 : decode cX10_power 135 = .ok (.ifCond .ne 23, 3) := by decide +kernel
theorem dX10_power_138 : decode cX10_power 138 = .ok (.iload 4, 2) := by decide +kernel
theorem dX10_power_140 : decode cX10_power 140 = .ok (.iload 6, 2) := by decide +kernel
theorem dX10_power_142 : decode cX10_power 142 = .ok (.ishr, 1) := by decide +kernel
theorem dX10_power_143 : decode cX10_power 143 = .ok (.iconst 1, 1) := by decide +kernel
theorem dX10_power_144 : decode cX10_power 144 = .ok (.iand, 1) := by decide +kernel
theorem dX10_power_145 : decode cX10_power 145 = .ok (.iconst 1, 1) := by decide +kernel
theorem dX10_power_146 : decode cX10_power 146 = .ok (.if_icmp .ne 12, 3) := by decide +kernel
theorem dX10_power_149 : decode cX10_power 149 = .ok (.aload_n 0, 1) := by decide +kernel
theorem dX10_power_150 : decode cX10_power 150 = .ok (.iload 5, 2) := by decide +kernel
theorem dX10_power_152 : decode cX10_power 152 = .ok (.iload_n 1, 1) := by decide +kernel
theorem dX10_power_153 : decode cX10_power 153 = .ok (.invokevirtual 119, 3) := by decide +kernel
theorem dX10_power_156 : decode cX10_power 156 = .ok (.istore 5, 2) := by decide +kernel
theorem dX10_power_158 : decode cX10_power 158 = .ok (.iinc 6 (-1), 3) := by decide +kernel
theorem dX10_power_161 : decode cX10_power 161 = .ok (.goto (-54), 3) := by decide +kernel
theorem dX10_power_164 : decode cX10_power 164 = .ok (.iload 5, 2) := by decide +kernel
theorem dX10_power_166 : decode cX10_power 166 = .ok (.ireturn, 1) := by decide +kernel
theorem dX10_product_0 : decode cX10_product 0 = .ok (.iload_n 1, 1) := by decide +kernel
theorem dX10_product_1 : decode cX10_product 1 = .ok (.ifCond .ge 25, 3) := by decide +kernel
theorem dX10_product_4 : decode cX10_product 4 = .ok (.iload_n 2, 1) := by decide +kernel
theorem dX10_product_5 : decode cX10_product 5 = .ok (.ifCond .ge 21, 3) := by decide +kernel
theorem dX10_product_8 : decode cX10_product 8 = .ok (.aload_n 0, 1) := by decide +kernel
theorem dX10_product_9 : decode cX10_product 9 = .ok (.iload_n 1, 1) := by decide +kernel
theorem dX10_product_10 : decode cX10_product 10 = .ok (.iconst 4, 1) := by decide +kernel
theorem dX10_product_11 : decode cX10_product 11 = .ok (.ishl, 1) := by decide +kernel
theorem dX10_product_12 : decode cX10_product 12 = .ok (.iconst 4, 1) := by decide +kernel
theorem dX10_product_13 : decode cX10_product 13 = .ok (.ishr, 1) := by decide +kernel
theorem dX10_product_14 : decode cX10_product 14 = .ok (.i2l, 1) := by decide +kernel
theorem dX10_product_15 : decode cX10_product 15 = .ok (.iload_n 2, 1) := by decide +kernel
theorem dX10_product_16 : decode cX10_product 16 = .ok (.iconst 4, 1) := by decide +kernel
theorem dX10_product_17 : decode cX10_product 17 = .ok (.ishl, 1) := by decide +kernel
theorem dX10_product_18 : decode cX10_product 18 = .ok (.iconst 4, 1) := by decide +kernel
theorem dX10_product_19 : decode cX10_product 19 = .ok (.ishr, 1) := by decide +kernel
theorem dX10_product_20 : decode cX10_product 20 = .ok (.i2l, 1) := by decide +kernel
theorem dX10_product_21 : decode cX10_product 21 = .ok (.lmul, 1) := by decide +kernel
theorem dX10_product_22 : decode cX10_product 22 = .ok (.invokevirtual 79, 3) := by decide +kernel
theorem dX10_product_25 : decode cX10_product 25 = .ok (.ireturn, 1) := by decide +kernel
theorem dX10_product_26 : decode cX10_product 26 = .ok (.aload_n 0, 1) := by decide +kernel
theorem dX10_product_27 : decode cX10_product 27 = .ok (.iload_n 1, 1) := by decide +kernel
theorem dX10_product_28 : decode cX10_product 28 = .ok (.aload_n 0, 1) := by decide +kernel
theorem dX10_product_29 : decode cX10_product 29 = .ok (.getfield 9, 3) := by decide +kernel
theorem dX10_product_32 : decode cX10_product 32 = .ok (.invokevirtual 64, 3) := by decide +kernel
theorem dX10_product_35 : decode cX10_product 35 = .ok (.istore_n 3, 1) := by decide +kernel
theorem dX10_product_36 : decode cX10_product 36 = .ok (.aload_n 0, 1) := by decide +kernel
theorem dX10_product_37 : decode cX10_product 37 = .ok (.iload_n 2, 1) := by decide +kernel
theorem dX10_product_38 : decode cX10_product 38 = .ok (.aload_n 0, 1) := by decide +kernel
theorem dX10_product_39 : decode cX10_product 39 = .ok (.getfield 15, 3) := by decide +kernel
theorem dX10_product_42 : decode cX10_product 42 = .ok (.invokevirtual 64, 3) := by decide +kernel
theorem dX10_product_45 : decode cX10_product 45 = .ok (.istore 4, 2) := by decide +kernel
theorem dX10_product_47 : decode cX10_product 47 = .ok (.iload_n 3, 1) := by decide +kernel
theorem dX10_product_48 : decode cX10_product 48 = .ok (.iload 4, 2) := by decide +kernel
theorem dX10_product_50 : decode cX10_product 50 = .ok (.iadd, 1) := by decide +kernel
theorem dX10_product_51 : decode cX10_product 51 = .ok (.bipush 33, 2) := by decide +kernel
theorem dX10_product_53 : decode cX10_product 53 = .ok (.if_icmp .le 20, 3) := by decide +kernel
theorem dX10_product_56 : decode cX10_product 56 = .ok (.iload_n 3, 1) := by decide +kernel
theorem dX10_product_57 : decode cX10_product 57 = .ok (.ifCond .eq 8, 3) := by decide +kernel
theorem dX10_product_60 : decode cX10_product 60 = .ok (.iload 4, 2) := by decide +kernel
theorem dX10_product_62 : decode cX10_product 62 = .ok (.ifCond .ne 8, 3) := by decide +kernel
theorem dX10_product_65 : decode cX10_product 65 = .ok (.ldc 37, 2) := by decide +kernel
theorem dX10_product_67 : decode cX10_product 67 = .ok (.goto 5, 3) := by decide +kernel
theorem dX10_product_70 : decode cX10_product 70 = .ok (.ldc 107, 2) := by decide +kernel
theorem dX10_product_72 : decode cX10_product 72 = .ok (.ireturn, 1) := by decide +kernel
theorem dX10_product_73 : decode cX10_product 73 = .ok (.iconst 0, 1) := by decide +kernel
theorem dX10_product_74 : decode cX10_product 74 = .ok (.istore 5, 2) := by decide +kernel
theorem dX10_product_76 : decode cX10_product 76 = .ok (.iload 5, 2) := by decide +kernel
theorem dX10_product_78 : decode cX10_product 78 = .ok (.iload_n 3, 1) := by decide +kernel
theorem dX10_product_79 : decode cX10_product 79 = .ok (.iload 4, 2) := by decide +kernel
theorem dX10_product_81 : decode cX10_product 81 = .ok (.iadd, 1) := by decide +kernel
theorem dX10_product_82 : decode cX10_product 82 = .ok (.if_icmp .ge 17, 3) := by decide +kernel
theorem dX10_product_85 : decode cX10_product 85 = .ok (.aload_n 0, 1) := by decide +kernel
theorem dX10_product_86 : decode cX10_product 86 = .ok (.getfield 18, 3) := by decide +kernel
theorem dX10_product_89 : decode cX10_product 89 = .ok (.iload 5, 2) := by decide +kernel
theorem dX10_product_91 : decode cX10_product 91 = .ok (.iconst 0, 1) := by decide +kernel
theorem dX10_product_92 : decode cX10_product 92 = .ok (.iastore, 1) := by decide +kernel
theorem dX10_product_93 : decode cX10_product 93 = .ok (.iinc 5 1, 3) := by decide +kernel
theorem dX10_product_96 : decode cX10_product 96 = .ok (.goto (-20), 3) := by decide +kernel
theorem dX10_product_99 : decode cX10_product 99 = .ok (.iconst 0, 1) := by decide +kernel
theorem dX10_product_100 : decode cX10_product 100 = .ok (.istore 5, 2) := by decide +kernel
theorem dX10_product_102 : decode cX10_product 102 = .ok (.iload 5, 2) := by decide +kernel
theorem dX10_product_104 : decode cX10_product 104 = .ok (.iload_n 3, 1) := by decide +kernel
theorem dX10_product_105 : decode cX10_product 105 = .ok (.if_icmp .ge 111, 3) := by decide +kernel
theorem dX10_product_108 : decode cX10_product 108 = .ok (.aload_n 0, 1) := by decide +kernel
theorem dX10_product_109 : decode cX10_product 109 = .ok (.getfield 9, 3) := by decide +kernel
theorem dX10_product_112 : decode cX10_product 112 = .ok (.iload 5, 2) := by decide +kernel
theorem dX10_product_114 : decode cX10_product 114 = .ok (.iaload, 1) := by decide +kernel
theorem dX10_product_115 : decode cX10_product 115 = .ok (.i2l, 1) := by decide +kernel
theorem dX10_product_116 : decode cX10_product 116 = .ok (.ldc2_w 105, 3) := by decide +kernel
theorem dX10_product_119 : decode cX10_product 119 = .ok (.land, 1) := by decide +kernel
theorem dX10_product_120 : decode cX10_product 120 = .ok (.lstore 6, 2) := by decide +kernel
theorem dX10_product_122 : decode cX10_product 122 = .ok (.lconst 0, 1) := by decide +kernel
theorem dX10_product_123 : decode cX10_product 123 = .ok (.lstore 8, 2) := by decide +kernel
theorem dX10_product_125 : decode cX10_product 125 = .ok (.iconst 0, 1) := by decide +kernel
theorem dX10_product_126 : decode cX10_product 126 = .ok (.istore 10, 2) := by decide +kernel
theorem dX10_product_128 : decode cX10_product 128 = .ok (.iload 10, 2) := by decide +kernel
theorem dX10_product_130 : decode cX10_product 130 = .ok (.iload 4, 2) := by decide +kernel
theorem dX10_product_132 : decode cX10_product 132 = .ok (.if_icmp .ge 65, 3) := by decide +kernel
theorem dX10_product_135 : decode cX10_product 135 = .ok (.lload 8, 2) := by decide +kernel
theorem dX10_product_137 : decode cX10_product 137 = .ok (.lload 6, 2) := by decide +kernel
theorem dX10_product_139 : decode cX10_product 139 = .ok (.aload_n 0, 1) := by decide +kernel
theorem dX10_product_140 : decode cX10_product 140 = .ok (.getfield 15, 3) := by decide +kernel
theorem dX10_product_143 : decode cX10_product 143 = .ok (.iload 10, 2) := by decide +kernel
theorem dX10_product_145 : decode cX10_product 145 = .ok (.iaload, 1) := by decide +kernel
theorem dX10_product_146 : decode cX10_product 146 = .ok (.i2l, 1) := by decide +kernel
theorem dX10_product_147 : decode cX10_product 147 = .ok (.ldc2_w 105, 3) := by decide +kernel
theorem dX10_product_150 : decode cX10_product 150 = .ok (.land, 1) := by decide +kernel
theorem dX10_product_151 : decode cX10_product 151 = .ok (.lmul, 1) := by decide +kernel
theorem dX10_product_152 : decode cX10_product 152 = .ok (.ladd, 1) := by decide +kernel
theorem dX10_product_153 : decode cX10_product 153 = .ok (.aload_n 0, 1) := by decide +kernel
theorem dX10_product_154 : decode cX10_product 154 = .ok (.getfield 18, 3) := by decide +kernel
theorem dX10_product_157 : decode cX10_product 157 = .ok (.iload 5, 2) := by decide +kernel
theorem dX10_product_159 : decode cX10_product 159 = .ok (.iload 10, 2) := by decide +kernel
theorem dX10_product_161 : decode cX10_product 161 = .ok (.iadd, 1) := by decide +kernel
theorem dX10_product_162 : decode cX10_product 162 = .ok (.iaload, 1) := by decide +kernel
theorem dX10_product_163 : decode cX10_product 163 = .ok (.i2l, 1) := by decide +kernel
theorem dX10_product_164 : decode cX10_product 164 = .ok (.ldc2_w 105, 3) := by decide +kernel
theorem dX10_product_167 : decode cX10_product 167 = .ok (.land, 1) := by decide +kernel
theorem dX10_product_168 : decode cX10_product 168 = .ok (.ladd, 1) := by decide +kernel
theorem dX10_product_169 : decode cX10_product 169 = .ok (.lstore 8, 2) := by decide +kernel
theorem dX10_product_171 : decode cX10_product 171 = .ok (.aload_n 0, 1) := by decide +kernel
theorem dX10_product_172 : decode cX10_product 172 = .ok (.getfield 18, 3) := by decide +kernel
theorem dX10_product_175 : decode cX10_product 175 = .ok (.iload 5, 2) := by decide +kernel
theorem dX10_product_177 : decode cX10_product 177 = .ok (.iload 10, 2) := by decide +kernel
theorem dX10_product_179 : decode cX10_product 179 = .ok (.iadd, 1) := by decide +kernel
theorem dX10_product_180 : decode cX10_product 180 = .ok (.lload 8, 2) := by decide +kernel
theorem dX10_product_182 : decode cX10_product 182 = .ok (.l2i, 1) := by decide +kernel
theorem dX10_product_183 : decode cX10_product 183 = .ok (.iastore, 1) := by decide +kernel
theorem dX10_product_184 : decode cX10_product 184 = .ok (.lload 8, 2) := by decide +kernel
theorem dX10_product_186 : decode cX10_product 186 = .ok (.bipush 32, 2) := by decide +kernel
theorem dX10_product_188 : decode cX10_product 188 = .ok (.lushr, 1) := by decide +kernel
theorem dX10_product_189 : decode cX10_product 189 = .ok (.lstore 8, 2) := by decide +kernel
theorem dX10_product_191 : decode cX10_product 191 = .ok (.iinc 10 1, 3) := by decide +kernel
theorem dX10_product_194 : decode cX10_product 194 = .ok (.goto (-66), 3) := by decide +kernel
theorem dX10_product_197 : decode cX10_product 197 = .ok (.aload_n 0, 1) := by decide +kernel
theorem dX10_product_198 : decode cX10_product 198 = .ok (.getfield 18, 3) := by decide +kernel
theorem dX10_product_201 : decode cX10_product 201 = .ok (.iload 5, 2) := by decide +kernel
theorem dX10_product_203 : decode cX10_product 203 = .ok (.iload 4, 2) := by decide +kernel
theorem dX10_product_205 : decode cX10_product 205 = .ok (.iadd, 1) := by decide +kernel
theorem dX10_product_206 : decode cX10_product 206 = .ok (.lload 8, 2) := by decide +kernel
theorem dX10_product_208 : decode cX10_product 208 = .ok (.l2i, 1) := by decide +kernel
theorem dX10_product_209 : decode cX10_product 209 = .ok (.iastore, 1) := by decide +kernel
theorem dX10_product_210 : decode cX10_product 210 = .ok (.iinc 5 1, 3) := by decide +kernel
theorem dX10_product_213 : decode cX10_product 213 = .ok (.goto (-111), 3) := by decide +kernel
theorem dX10_product_216 : decode cX10_product 216 = .ok (.aload_n 0, 1) := by decide +kernel
theorem dX10_product_217 : decode cX10_product 217 = .ok (.iload_n 3, 1) := by decide +kernel
theorem dX10_product_218 : decode cX10_product 218 = .ok (.iload 4, 2) := by decide +kernel
theorem dX10_product_220 : decode cX10_product 220 = .ok (.iadd, 1) := by decide +kernel
theorem dX10_product_221 : decode cX10_product 221 = .ok (.aload_n 0, 1) := by decide +kernel
theorem dX10_product_222 : decode cX10_product 222 = .ok (.iload_n 1, 1) := by decide +kernel
theorem dX10_product_223 : decode cX10_product 223 = .ok (.invokevirtual 68, 3) := by decide +kernel
theorem dX10_product_226 : decode cX10_product 226 = .ok (.aload_n 0, 1) := by decide +kernel
theorem dX10_product_227 : decode cX10_product 227 = .ok (.iload_n 2, 1) := by decide +kernel
theorem dX10_product_228 : decode cX10_product 228 = .ok (.invokevirtual 68, 3) := by decide +kernel
theorem dX10_product_231 : decode cX10_product 231 = .ok (.if_icmp .eq 7, 3) := by decide +kernel
theorem dX10_product_234 : decode cX10_product 234 = .ok (.iconst 1, 1) := by decide +kernel
theorem dX10_product_235 : decode cX10_product 235 = .ok (.goto 4, 3) := by decide +kernel
theorem dX10_product_238 : decode cX10_product 238 = .ok (.iconst 0, 1) := by decide +kernel
theorem dX10_product_239 : decode cX10_product 239 = .ok (.invokevirtual 72, 3) := by decide +kernel
theorem dX10_product_242 : decode cX10_product 242 = .ok (.ireturn, 1) := by decide +kernel
theorem dX10_quotientDigit_0 : decode cX10_quotientDigit 0 = .ok (.iload_n 2, 1) := by decide +kernel
theorem dX10_quotientDigit_1 : decode cX10_quotientDigit 1 = .ok (.ifCond .le 15, 3) := by decide +kernel
theorem dX10_quotientDigit_4 : decode cX10_quotientDigit 4 = .ok (.aload_n 0, 1) := by decide +kernel
theorem dX10_quotientDigit_5 : decode cX10_quotientDigit 5 = .ok (.getfield 24, 3) := by decide +kernel
theorem dX10_quotientDigit_8 : decode cX10_quotientDigit 8 = .ok (.iload_n 2, 1) := by decide +kernel
theorem dX10_quotientDigit_9 : decode cX10_quotientDigit 9 = .ok (.iconst 1, 1) := by decide +kernel
theorem dX10_quotientDigit_10 : decode cX10_quotientDigit 10 = .ok (.isub, 1) := by decide +kernel
theorem dX10_quotientDigit_11 : decode cX10_quotientDigit 11 = .ok (.iaload, 1) := by decide +kernel
theorem dX10_quotientDigit_12 : decode cX10_quotientDigit 12 = .ok (.i2l, 1) := by decide +kernel
theorem dX10_quotientDigit_13 : decode cX10_quotientDigit 13 = .ok (.goto 4, 3) := by decide +kernel
theorem dX10_quotientDigit_16 : decode cX10_quotientDigit 16 = .ok (.lconst 0, 1) := by decide +kernel
theorem dX10_quotientDigit_17 : decode cX10_quotientDigit 17 = .ok (.lstore_n 3, 1) := by decide +kernel
theorem dX10_quotientDigit_18 : decode cX10_quotientDigit 18 = .ok (.lload_n 3, 1) := by decide +kernel
theorem dX10_quotientDigit_19 : decode cX10_quotientDigit 19 = .ok (.lconst 0, 1) := by decide +kernel
theorem dX10_quotientDigit_20 : decode cX10_quotientDigit 20 = .ok (.lcmp, 1) := by decide +kernel
theorem dX10_quotientDigit_21 : decode cX10_quotientDigit 21 = .ok (.ifCond .ne 5, 3) := by decide +kernel
theorem dX10_quotientDigit_24 : decode cX10_quotientDigit 24 = .ok (.iconst 0, 1) := by decide +kernel
theorem dX10_quotientDigit_25 : decode cX10_quotientDigit 25 = .ok (.ireturn, 1) := by decide +kernel
theorem dX10_quotientDigit_26 : decode cX10_quotientDigit 26 = .ok (.iload_n 2, 1) := by decide +kernel
theorem dX10_quotientDigit_27 : decode cX10_quotientDigit 27 = .ok (.iconst 1, 1) := by decide +kernel
theorem dX10_quotientDigit_28 : decode cX10_quotientDigit 28 = .ok (.if_icmp .le 15, 3) := by decide +kernel
theorem dX10_quotientDigit_31 : decode cX10_quotientDigit 31 = .ok (.aload_n 0, 1) := by decide +kernel
theorem dX10_quotientDigit_32 : decode cX10_quotientDigit 32 = .ok (.getfield 24, 3) := by decide +kernel
theorem dX10_quotientDigit_35 : decode cX10_quotientDigit 35 = .ok (.iload_n 2, 1) := by decide +kernel
theorem dX10_quotientDigit_36 : decode cX10_quotientDigit 36 = .ok (.iconst 2, 1) := by decide +kernel
theorem dX10_quotientDigit_37 : decode cX10_quotientDigit 37 = .ok (.isub, 1) := by decide +kernel
theorem dX10_quotientDigit_38 : decode cX10_quotientDigit 38 = .ok (.iaload, 1) := by decide +kernel
theorem dX10_quotientDigit_39 : decode cX10_quotientDigit 39 = .ok (.i2l, 1) := by decide +kernel
theorem dX10_quotientDigit_40 : decode cX10_quotientDigit 40 = .ok (.goto 4, 3) := by decide +kernel
theorem dX10_quotientDigit_43 : decode cX10_quotientDigit 43 = .ok (.lconst 0, 1) := by decide +kernel
theorem dX10_quotientDigit_44 : decode cX10_quotientDigit 44 = .ok (.lstore 5, 2) := by decide +kernel
theorem dX10_quotientDigit_46 : decode cX10_quotientDigit 46 = .ok (.iload_n 2, 1) := by decide +kernel
theorem dX10_quotientDigit_47 : decode cX10_quotientDigit 47 = .ok (.iconst 1, 1) := by decide +kernel
theorem dX10_quotientDigit_48 : decode cX10_quotientDigit 48 = .ok (.if_icmp .le 17, 3) := by decide +kernel
theorem dX10_quotientDigit_51 : decode cX10_quotientDigit 51 = .ok (.aload_n 0, 1) := by decide +kernel
theorem dX10_quotientDigit_52 : decode cX10_quotientDigit 52 = .ok (.getfield 21, 3) := by decide +kernel
theorem dX10_quotientDigit_55 : decode cX10_quotientDigit 55 = .ok (.iload_n 1, 1) := by decide +kernel
theorem dX10_quotientDigit_56 : decode cX10_quotientDigit 56 = .ok (.iload_n 2, 1) := by decide +kernel
theorem dX10_quotientDigit_57 : decode cX10_quotientDigit 57 = .ok (.iadd, 1) := by decide +kernel
theorem dX10_quotientDigit_58 : decode cX10_quotientDigit 58 = .ok (.iconst 2, 1) := by decide +kernel
theorem dX10_quotientDigit_59 : decode cX10_quotientDigit 59 = .ok (.isub, 1) := by decide +kernel
theorem dX10_quotientDigit_60 : decode cX10_quotientDigit 60 = .ok (.iaload, 1) := by decide +kernel
theorem dX10_quotientDigit_61 : decode cX10_quotientDigit 61 = .ok (.i2l, 1) := by decide +kernel
theorem dX10_quotientDigit_62 : decode cX10_quotientDigit 62 = .ok (.goto 4, 3) := by decide +kernel
theorem dX10_quotientDigit_65 : decode cX10_quotientDigit 65 = .ok (.lconst 0, 1) := by decide +kernel
theorem dX10_quotientDigit_66 : decode cX10_quotientDigit 66 = .ok (.lstore 7, 2) := by decide +kernel
theorem dX10_quotientDigit_68 : decode cX10_quotientDigit 68 = .ok (.aload_n 0, 1) := by decide +kernel
theorem dX10_quotientDigit_69 : decode cX10_quotientDigit 69 = .ok (.getfield 21, 3) := by decide +kernel
theorem dX10_quotientDigit_72 : decode cX10_quotientDigit 72 = .ok (.iload_n 1, 1) := by decide +kernel
theorem dX10_quotientDigit_73 : decode cX10_quotientDigit 73 = .ok (.iload_n 2, 1) := by decide +kernel
theorem dX10_quotientDigit_74 : decode cX10_quotientDigit 74 = .ok (.iadd, 1) := by decide +kernel
theorem dX10_quotientDigit_75 : decode cX10_quotientDigit 75 = .ok (.iaload, 1) := by decide +kernel
theorem dX10_quotientDigit_76 : decode cX10_quotientDigit 76 = .ok (.i2l, 1) := by decide +kernel
theorem dX10_quotientDigit_77 : decode cX10_quotientDigit 77 = .ok (.bipush 16, 2) := by decide +kernel
theorem dX10_quotientDigit_79 : decode cX10_quotientDigit 79 = .ok (.lshl, 1) := by decide +kernel
theorem dX10_quotientDigit_80 : decode cX10_quotientDigit 80 = .ok (.aload_n 0, 1) := by decide +kernel
theorem dX10_quotientDigit_81 : decode cX10_quotientDigit 81 = .ok (.getfield 21, 3) := by decide +kernel
theorem dX10_quotientDigit_84 : decode cX10_quotientDigit 84 = .ok (.iload_n 1, 1) := by decide +kernel
theorem dX10_quotientDigit_85 : decode cX10_quotientDigit 85 = .ok (.iload_n 2, 1) := by decide +kernel
theorem dX10_quotientDigit_86 : decode cX10_quotientDigit 86 = .ok (.iadd, 1) := by decide +kernel
theorem dX10_quotientDigit_87 : decode cX10_quotientDigit 87 = .ok (.iconst 1, 1) := by decide +kernel
theorem dX10_quotientDigit_88 : decode cX10_quotientDigit 88 = .ok (.isub, 1) := by decide +kernel
theorem dX10_quotientDigit_89 : decode cX10_quotientDigit 89 = .ok (.iaload, 1) := by decide +kernel
theorem dX10_quotientDigit_90 : decode cX10_quotientDigit 90 = .ok (.i2l, 1) := by decide +kernel
theorem dX10_quotientDigit_91 : decode cX10_quotientDigit 91 = .ok (.lor, 1) := by decide +kernel
theorem dX10_quotientDigit_92 : decode cX10_quotientDigit 92 = .ok (.lstore 9, 2) := by decide +kernel
theorem dX10_quotientDigit_94 : decode cX10_quotientDigit 94 = .ok (.lload 9, 2) := by decide +kernel
theorem dX10_quotientDigit_96 : decode cX10_quotientDigit 96 = .ok (.lload_n 3, 1) := by decide +kernel
theorem dX10_quotientDigit_97 : decode cX10_quotientDigit 97 = .ok (.ldiv, 1) := by decide +kernel
theorem dX10_quotientDigit_98 : decode cX10_quotientDigit 98 = .ok (.lstore 11, 2) := by decide +kernel
theorem dX10_quotientDigit_100 : decode cX10_quotientDigit 100 = .ok (.lload 9, 2) := by decide +kernel
theorem dX10_quotientDigit_102 : decode cX10_quotientDigit 102 = .ok (.lload 11, 2) := by decide +kernel
theorem dX10_quotientDigit_104 : decode cX10_quotientDigit 104 = .ok (.lload_n 3, 1) := by decide +kernel
theorem dX10_quotientDigit_105 : decode cX10_quotientDigit 105 = .ok (.lmul, 1) := by decide +kernel
theorem dX10_quotientDigit_106 : decode cX10_quotientDigit 106 = .ok (.lsub, 1) := by decide +kernel
theorem dX10_quotientDigit_107 : decode cX10_quotientDigit 107 = .ok (.lstore 13, 2) := by decide +kernel
theorem dX10_quotientDigit_109 : decode cX10_quotientDigit 109 = .ok (.iconst 0, 1) := by decide +kernel
theorem dX10_quotientDigit_110 : decode cX10_quotientDigit 110 = .ok (.istore 15, 2) := by decide +kernel
theorem dX10_quotientDigit_112 : decode cX10_quotientDigit 112 = .ok (.iload 15, 2) := by decide +kernel
theorem dX10_quotientDigit_114 : decode cX10_quotientDigit 114 = .ok (.iconst 4, 1) := by decide +kernel
theorem dX10_quotientDigit_115 : decode cX10_quotientDigit 115 = .ok (.if_icmp .ge 56, 3) := by decide +kernel
theorem dX10_quotientDigit_118 : decode cX10_quotientDigit 118 = .ok (.lload 13, 2) := by decide +kernel
theorem dX10_quotientDigit_120 : decode cX10_quotientDigit 120 = .ok (.ldc2_w 161, 3) := by decide +kernel
theorem dX10_quotientDigit_123 : decode cX10_quotientDigit 123 = .ok (.lcmp, 1) := by decide +kernel
theorem dX10_quotientDigit_124 : decode cX10_quotientDigit 124 = .ok (.ifCond .gt 47, 3) := by decide +kernel
theorem dX10_quotientDigit_127 : decode cX10_quotientDigit 127 = .ok (.lload 11, 2) := by decide +kernel
theorem dX10_quotientDigit_129 : decode cX10_quotientDigit 129 = .ok (.ldc2_w 161, 3) := by decide +kernel
theorem dX10_quotientDigit_132 : decode cX10_quotientDigit 132 = .ok (.lcmp, 1) := by decide +kernel
theorem dX10_quotientDigit_133 : decode cX10_quotientDigit 133 = .ok (.ifCond .gt 20, 3) := by decide +kernel
theorem dX10_quotientDigit_136 : decode cX10_quotientDigit 136 = .ok (.lload 11, 2) := by decide +kernel
theorem dX10_quotientDigit_138 : decode cX10_quotientDigit 138 = .ok (.lload 5, 2) := by decide +kernel
theorem dX10_quotientDigit_140 : decode cX10_quotientDigit 140 = .ok (.lmul, 1) := by decide +kernel
theorem dX10_quotientDigit_141 : decode cX10_quotientDigit 141 = .ok (.lload 13, 2) := by decide +kernel
theorem dX10_quotientDigit_143 : decode cX10_quotientDigit 143 = .ok (.bipush 16, 2) := by decide +kernel
theorem dX10_quotientDigit_145 : decode cX10_quotientDigit 145 = .ok (.lshl, 1) := by decide +kernel
theorem dX10_quotientDigit_146 : decode cX10_quotientDigit 146 = .ok (.lload 7, 2) := by decide +kernel
theorem dX10_quotientDigit_148 : decode cX10_quotientDigit 148 = .ok (.lor, 1) := by decide +kernel
theorem dX10_quotientDigit_149 : decode cX10_quotientDigit 149 = .ok (.lcmp, 1) := by decide +kernel
theorem dX10_quotientDigit_150 : decode cX10_quotientDigit 150 = .ok (.ifCond .le 21, 3) := by decide +kernel
theorem dX10_quotientDigit_153 : decode cX10_quotientDigit 153 = .ok (.lload 11, 2) := by decide +kernel
theorem dX10_quotientDigit_155 : decode cX10_quotientDigit 155 = .ok (.lconst 1, 1) := by decide +kernel
theorem dX10_quotientDigit_156 : decode cX10_quotientDigit 156 = .ok (.lsub, 1) := by decide +kernel
theorem dX10_quotientDigit_157 : decode cX10_quotientDigit 157 = .ok (.lstore 11, 2) := by decide +kernel
theorem dX10_quotientDigit_159 : decode cX10_quotientDigit 159 = .ok (.lload 13, 2) := by decide +kernel
theorem dX10_quotientDigit_161 : decode cX10_quotientDigit 161 = .ok (.lload_n 3, 1) := by decide +kernel
theorem dX10_quotientDigit_162 : decode cX10_quotientDigit 162 = .ok (.ladd, 1) := by decide +kernel
theorem dX10_quotientDigit_163 : decode cX10_quotientDigit 163 = .ok (.lstore 13, 2) := by decide +kernel
theorem dX10_quotientDigit_165 : decode cX10_quotientDigit 165 = .ok (.iinc 15 1, 3) := by decide +kernel
theorem dX10_quotientDigit_168 : decode cX10_quotientDigit 168 = .ok (.goto (-56), 3) := by decide +kernel
theorem dX10_quotientDigit_171 : decode cX10_quotientDigit 171 = .ok (.lconst 0, 1) := by decide +kernel
theorem dX10_quotientDigit_172 : decode cX10_quotientDigit 172 = .ok (.lstore 15, 2) := by decide +kernel
theorem dX10_quotientDigit_174 : decode cX10_quotientDigit 174 = .ok (.iconst 0, 1) := by decide +kernel
theorem dX10_quotientDigit_175 : decode cX10_quotientDigit 175 = .ok (.istore 17, 2) := by decide +kernel
theorem dX10_quotientDigit_177 : decode cX10_quotientDigit 177 = .ok (.iload 17, 2) := by decide +kernel
theorem dX10_quotientDigit_179 : decode cX10_quotientDigit 179 = .ok (.iload_n 2, 1) := by decide +kernel
theorem dX10_quotientDigit_180 : decode cX10_quotientDigit 180 = .ok (.if_icmp .ge 59, 3) := by decide +kernel
theorem dX10_quotientDigit_183 : decode cX10_quotientDigit 183 = .ok (.lload 15, 2) := by decide +kernel
theorem dX10_quotientDigit_185 : decode cX10_quotientDigit 185 = .ok (.aload_n 0, 1) := by decide +kernel
theorem dX10_quotientDigit_186 : decode cX10_quotientDigit 186 = .ok (.getfield 21, 3) := by decide +kernel
theorem dX10_quotientDigit_189 : decode cX10_quotientDigit 189 = .ok (.iload_n 1, 1) := by decide +kernel
theorem dX10_quotientDigit_190 : decode cX10_quotientDigit 190 = .ok (.iload 17, 2) := by decide +kernel
theorem dX10_quotientDigit_192 : decode cX10_quotientDigit 192 = .ok (.iadd, 1) := by decide +kernel
theorem dX10_quotientDigit_193 : decode cX10_quotientDigit 193 = .ok (.iaload, 1) := by decide +kernel
theorem dX10_quotientDigit_194 : decode cX10_quotientDigit 194 = .ok (.i2l, 1) := by decide +kernel
theorem dX10_quotientDigit_195 : decode cX10_quotientDigit 195 = .ok (.ladd, 1) := by decide +kernel
theorem dX10_quotientDigit_196 : decode cX10_quotientDigit 196 = .ok (.lload 11, 2) := by decide +kernel
theorem dX10_quotientDigit_198 : decode cX10_quotientDigit 198 = .ok (.aload_n 0, 1) := by decide +kernel
theorem dX10_quotientDigit_199 : decode cX10_quotientDigit 199 = .ok (.getfield 24, 3) := by decide +kernel
theorem dX10_quotientDigit_202 : decode cX10_quotientDigit 202 = .ok (.iload 17, 2) := by decide +kernel
theorem dX10_quotientDigit_204 : decode cX10_quotientDigit 204 = .ok (.iaload, 1) := by decide +kernel
theorem dX10_quotientDigit_205 : decode cX10_quotientDigit 205 = .ok (.i2l, 1) := by decide +kernel
theorem dX10_quotientDigit_206 : decode cX10_quotientDigit 206 = .ok (.lmul, 1) := by decide +kernel
theorem dX10_quotientDigit_207 : decode cX10_quotientDigit 207 = .ok (.lsub, 1) := by decide +kernel
theorem dX10_quotientDigit_208 : decode cX10_quotientDigit 208 = .ok (.lstore 15, 2) := by decide +kernel
theorem dX10_quotientDigit_210 : decode cX10_quotientDigit 210 = .ok (.aload_n 0, 1) := by decide +kernel
theorem dX10_quotientDigit_211 : decode cX10_quotientDigit 211 = .ok (.getfield 21, 3) := by decide +kernel
theorem dX10_quotientDigit_214 : decode cX10_quotientDigit 214 = .ok (.iload_n 1, 1) := by decide +kernel
theorem dX10_quotientDigit_215 : decode cX10_quotientDigit 215 = .ok (.iload 17, 2) := by decide +kernel
theorem dX10_quotientDigit_217 : decode cX10_quotientDigit 217 = .ok (.iadd, 1) := by decide +kernel
theorem dX10_quotientDigit_218 : decode cX10_quotientDigit 218 = .ok (.lload 15, 2) := by decide +kernel
theorem dX10_quotientDigit_220 : decode cX10_quotientDigit 220 = .ok (.ldc2_w 161, 3) := by decide +kernel
theorem dX10_quotientDigit_223 : decode cX10_quotientDigit 223 = .ok (.land, 1) := by decide +kernel
theorem dX10_quotientDigit_224 : decode cX10_quotientDigit 224 = .ok (.l2i, 1) := by decide +kernel
theorem dX10_quotientDigit_225 : decode cX10_quotientDigit 225 = .ok (.iastore, 1) := by decide +kernel
theorem dX10_quotientDigit_226 : decode cX10_quotientDigit 226 = .ok (.lload 15, 2) := by decide +kernel
theorem dX10_quotientDigit_228 : decode cX10_quotientDigit 228 = .ok (.bipush 16, 2) := by decide +kernel
theorem dX10_quotientDigit_230 : decode cX10_quotientDigit 230 = .ok (.lshr, 1) := by decide +kernel
theorem dX10_quotientDigit_231 : decode cX10_quotientDigit 231 = .ok (.lstore 15, 2) := by decide +kernel
theorem dX10_quotientDigit_233 : decode cX10_quotientDigit 233 = .ok (.iinc 17 1, 3) := by decide +kernel
theorem dX10_quotientDigit_236 : decode cX10_quotientDigit 236 = .ok (.goto (-59), 3) := by decide +kernel
theorem dX10_quotientDigit_239 : decode cX10_quotientDigit 239 = .ok (.lload 15, 2) := by decide +kernel
theorem dX10_quotientDigit_241 : decode cX10_quotientDigit 241 = .ok (.aload_n 0, 1) := by decide +kernel
theorem dX10_quotientDigit_242 : decode cX10_quotientDigit 242 = .ok (.getfield 21, 3) := by decide +kernel
theorem dX10_quotientDigit_245 : decode cX10_quotientDigit 245 = .ok (.iload_n 1, 1) := by decide +kernel
theorem dX10_quotientDigit_246 : decode cX10_quotientDigit 246 = .ok (.iload_n 2, 1) := by decide +kernel
theorem dX10_quotientDigit_247 : decode cX10_quotientDigit 247 = .ok (.iadd, 1) := by decide +kernel
theorem dX10_quotientDigit_248 : decode cX10_quotientDigit 248 = .ok (.iaload, 1) := by decide +kernel
theorem dX10_quotientDigit_249 : decode cX10_quotientDigit 249 = .ok (.i2l, 1) := by decide +kernel
theorem dX10_quotientDigit_250 : decode cX10_quotientDigit 250 = .ok (.ladd, 1) := by decide +kernel
theorem dX10_quotientDigit_251 : decode cX10_quotientDigit 251 = .ok (.lstore 15, 2) := by decide +kernel
theorem dX10_quotientDigit_253 : decode cX10_quotientDigit 253 = .ok (.aload_n 0, 1) := by decide +kernel
theorem dX10_quotientDigit_254 : decode cX10_quotientDigit 254 = .ok (.getfield 21, 3) := by decide +kernel
theorem dX10_quotientDigit_257 : decode cX10_quotientDigit 257 = .ok (.iload_n 1, 1) := by decide +kernel
theorem dX10_quotientDigit_258 : decode cX10_quotientDigit 258 = .ok (.iload_n 2, 1) := by decide +kernel
theorem dX10_quotientDigit_259 : decode cX10_quotientDigit 259 = .ok (.iadd, 1) := by decide +kernel
theorem dX10_quotientDigit_260 : decode cX10_quotientDigit 260 = .ok (.lload 15, 2) := by decide +kernel
theorem dX10_quotientDigit_262 : decode cX10_quotientDigit 262 = .ok (.ldc2_w 161, 3) := by decide +kernel
theorem dX10_quotientDigit_265 : decode cX10_quotientDigit 265 = .ok (.land, 1) := by decide +kernel
theorem dX10_quotientDigit_266 : decode cX10_quotientDigit 266 = .ok (.l2i, 1) := by decide +kernel
theorem dX10_quotientDigit_267 : decode cX10_quotientDigit 267 = .ok (.iastore, 1) := by decide +kernel
theorem dX10_quotientDigit_268 : decode cX10_quotientDigit 268 = .ok (.lload 15, 2) := by decide +kernel
theorem dX10_quotientDigit_270 : decode cX10_quotientDigit 270 = .ok (.lconst 0, 1) := by decide +kernel
theorem dX10_quotientDigit_271 : decode cX10_quotientDigit 271 = .ok (.lcmp, 1) := by decide +kernel
theorem dX10_quotientDigit_272 : decode cX10_quotientDigit 272 = .ok (.ifCond .ge 15, 3) := by decide +kernel
theorem dX10_quotientDigit_275 : decode cX10_quotientDigit 275 = .ok (.lload 11, 2) := by decide +kernel
theorem dX10_quotientDigit_277 : decode cX10_quotientDigit 277 = .ok (.lconst 1, 1) := by decide +kernel
theorem dX10_quotientDigit_278 : decode cX10_quotientDigit 278 = .ok (.lsub, 1) := by decide +kernel
theorem dX10_quotientDigit_279 : decode cX10_quotientDigit 279 = .ok (.lstore 11, 2) := by decide +kernel
theorem dX10_quotientDigit_281 : decode cX10_quotientDigit 281 = .ok (.aload_n 0, 1) := by decide +kernel
theorem dX10_quotientDigit_282 : decode cX10_quotientDigit 282 = .ok (.iload_n 1, 1) := by decide +kernel
theorem dX10_quotientDigit_283 : decode cX10_quotientDigit 283 = .ok (.iload_n 2, 1) := by decide +kernel
theorem dX10_quotientDigit_284 : decode cX10_quotientDigit 284 = .ok (.invokevirtual 163, 3) := by decide +kernel
theorem dX10_quotientDigit_287 : decode cX10_quotientDigit 287 = .ok (.lload 11, 2) := by decide +kernel
theorem dX10_quotientDigit_289 : decode cX10_quotientDigit 289 = .ok (.l2i, 1) := by decide +kernel
theorem dX10_quotientDigit_290 : decode cX10_quotientDigit 290 = .ok (.ireturn, 1) := by decide +kernel
theorem dX10_restLimbs_0 : decode cX10_restLimbs 0 = .ok (.iload_n 1, 1) := by decide +kernel
theorem dX10_restLimbs_1 : decode cX10_restLimbs 1 = .ok (.istore_n 2, 1) := by decide +kernel
theorem dX10_restLimbs_2 : decode cX10_restLimbs 2 = .ok (.iload_n 1, 1) := by decide +kernel
theorem dX10_restLimbs_3 : decode cX10_restLimbs 3 = .ok (.istore_n 3, 1) := by decide +kernel
theorem dX10_restLimbs_4 : decode cX10_restLimbs 4 = .ok (.iload_n 3, 1) := by decide +kernel
theorem dX10_restLimbs_5 : decode cX10_restLimbs 5 = .ok (.ifCond .le 24, 3) := by decide +kernel
theorem dX10_restLimbs_8 : decode cX10_restLimbs 8 = .ok (.aload_n 0, 1) := by decide +kernel
theorem dX10_restLimbs_9 : decode cX10_restLimbs 9 = .ok (.getfield 9, 3) := by decide +kernel
theorem dX10_restLimbs_12 : decode cX10_restLimbs 12 = .ok (.iload_n 3, 1) := by decide +kernel
theorem dX10_restLimbs_13 : decode cX10_restLimbs 13 = .ok (.iconst 1, 1) := by decide +kernel
theorem dX10_restLimbs_14 : decode cX10_restLimbs 14 = .ok (.isub, 1) := by decide +kernel
theorem dX10_restLimbs_15 : decode cX10_restLimbs 15 = .ok (.iaload, 1) := by decide +kernel
theorem dX10_restLimbs_16 : decode cX10_restLimbs 16 = .ok (.ifCond .ne 13, 3) := by decide +kernel
theorem dX10_restLimbs_19 : decode cX10_restLimbs 19 = .ok (.iload_n 3, 1) := by decide +kernel
theorem dX10_restLimbs_20 : decode cX10_restLimbs 20 = .ok (.iconst 1, 1) := by decide +kernel
theorem dX10_restLimbs_21 : decode cX10_restLimbs 21 = .ok (.isub, 1) := by decide +kernel
theorem dX10_restLimbs_22 : decode cX10_restLimbs 22 = .ok (.istore_n 2, 1) := by decide +kernel
theorem dX10_restLimbs_23 : decode cX10_restLimbs 23 = .ok (.iinc 3 (-1), 3) := by decide +kernel
theorem dX10_restLimbs_26 : decode cX10_restLimbs 26 = .ok (.goto (-22), 3) := by decide +kernel
theorem dX10_restLimbs_29 : decode cX10_restLimbs 29 = .ok (.iload_n 2, 1) := by decide +kernel
theorem dX10_restLimbs_30 : decode cX10_restLimbs 30 = .ok (.ireturn, 1) := by decide +kernel
theorem dX10_resultLimb_0 : decode cX10_resultLimb 0 = .ok (.iload_n 1, 1) := by decide +kernel
theorem dX10_resultLimb_1 : decode cX10_resultLimb 1 = .ok (.ifCond .lt 20, 3) := by decide +kernel
theorem dX10_resultLimb_4 : decode cX10_resultLimb 4 = .ok (.iload_n 1, 1) := by decide +kernel
theorem dX10_resultLimb_5 : decode cX10_resultLimb 5 = .ok (.aload_n 0, 1) := by decide +kernel
theorem dX10_resultLimb_6 : decode cX10_resultLimb 6 = .ok (.getfield 169, 3) := by decide +kernel
theorem dX10_resultLimb_9 : decode cX10_resultLimb 9 = .ok (.if_icmp .ge 12, 3) := by decide +kernel
theorem dX10_resultLimb_12 : decode cX10_resultLimb 12 = .ok (.aload_n 0, 1) := by decide +kernel
theorem dX10_resultLimb_13 : decode cX10_resultLimb 13 = .ok (.getfield 18, 3) := by decide +kernel
theorem dX10_resultLimb_16 : decode cX10_resultLimb 16 = .ok (.iload_n 1, 1) := by decide +kernel
theorem dX10_resultLimb_17 : decode cX10_resultLimb 17 = .ok (.iaload, 1) := by decide +kernel
theorem dX10_resultLimb_18 : decode cX10_resultLimb 18 = .ok (.goto 4, 3) := by decide +kernel
theorem dX10_resultLimb_21 : decode cX10_resultLimb 21 = .ok (.iconst 0, 1) := by decide +kernel
theorem dX10_resultLimb_22 : decode cX10_resultLimb 22 = .ok (.ireturn, 1) := by decide +kernel
theorem dX10_shiftDown_0 : decode cX10_shiftDown 0 = .ok (.iconst 0, 1) := by decide +kernel
theorem dX10_shiftDown_1 : decode cX10_shiftDown 1 = .ok (.istore_n 3, 1) := by decide +kernel
theorem dX10_shiftDown_2 : decode cX10_shiftDown 2 = .ok (.iload_n 3, 1) := by decide +kernel
theorem dX10_shiftDown_3 : decode cX10_shiftDown 3 = .ok (.iload_n 1, 1) := by decide +kernel
theorem dX10_shiftDown_4 : decode cX10_shiftDown 4 = .ok (.if_icmp .ge 31, 3) := by decide +kernel
theorem dX10_shiftDown_7 : decode cX10_shiftDown 7 = .ok (.aload_n 0, 1) := by decide +kernel
theorem dX10_shiftDown_8 : decode cX10_shiftDown 8 = .ok (.iload_n 3, 1) := by decide +kernel
theorem dX10_shiftDown_9 : decode cX10_shiftDown 9 = .ok (.aload_n 0, 1) := by decide +kernel
theorem dX10_shiftDown_10 : decode cX10_shiftDown 10 = .ok (.iload_n 3, 1) := by decide +kernel
theorem dX10_shiftDown_11 : decode cX10_shiftDown 11 = .ok (.iaload, 1) := by decide +kernel
theorem dX10_shiftDown_12 : decode cX10_shiftDown 12 = .ok (.iload_n 2, 1) := by decide +kernel
theorem dX10_shiftDown_13 : decode cX10_shiftDown 13 = .ok (.iushr, 1) := by decide +kernel
theorem dX10_shiftDown_14 : decode cX10_shiftDown 14 = .ok (.aload_n 0, 1) := by decide +kernel
theorem dX10_shiftDown_15 : decode cX10_shiftDown 15 = .ok (.iload_n 3, 1) := by decide +kernel
theorem dX10_shiftDown_16 : decode cX10_shiftDown 16 = .ok (.iconst 1, 1) := by decide +kernel
theorem dX10_shiftDown_17 : decode cX10_shiftDown 17 = .ok (.iadd, 1) := by decide +kernel
theorem dX10_shiftDown_18 : decode cX10_shiftDown 18 = .ok (.iaload, 1) := by decide +kernel
theorem dX10_shiftDown_19 : decode cX10_shiftDown 19 = .ok (.bipush 16, 2) := by decide +kernel
theorem dX10_shiftDown_21 : decode cX10_shiftDown 21 = .ok (.iload_n 2, 1) := by decide +kernel
theorem dX10_shiftDown_22 : decode cX10_shiftDown 22 = .ok (.isub, 1) := by decide +kernel
theorem dX10_shiftDown_23 : decode cX10_shiftDown 23 = .ok (.ishl, 1) := by decide +kernel
theorem dX10_shiftDown_24 : decode cX10_shiftDown 24 = .ok (.ior, 1) := by decide +kernel
theorem dX10_shiftDown_25 : decode cX10_shiftDown 25 = .ok (.ldc 149, 2) := by decide +kernel
theorem dX10_shiftDown_27 : decode cX10_shiftDown 27 = .ok (.iand, 1) := by decide +kernel
theorem dX10_shiftDown_28 : decode cX10_shiftDown 28 = .ok (.iastore, 1) := by decide +kernel
theorem dX10_shiftDown_29 : decode cX10_shiftDown 29 = .ok (.iinc 3 1, 3) := by decide +kernel
theorem dX10_shiftDown_32 : decode cX10_shiftDown 32 = .ok (.goto (-30), 3) := by decide +kernel
theorem dX10_shiftDown_35 : decode cX10_shiftDown 35 = .ok (.return_, 1) := by decide +kernel
theorem dX10_shiftUp_0 : decode cX10_shiftUp 0 = .ok (.iconst 0, 1) := by decide +kernel
theorem dX10_shiftUp_1 : decode cX10_shiftUp 1 = .ok (.istore_n 3, 1) := by decide +kernel
theorem dX10_shiftUp_2 : decode cX10_shiftUp 2 = .ok (.iconst 0, 1) := by decide +kernel
theorem dX10_shiftUp_3 : decode cX10_shiftUp 3 = .ok (.istore 4, 2) := by decide +kernel
theorem dX10_shiftUp_5 : decode cX10_shiftUp 5 = .ok (.iload 4, 2) := by decide +kernel
theorem dX10_shiftUp_7 : decode cX10_shiftUp 7 = .ok (.iload_n 1, 1) := by decide +kernel
theorem dX10_shiftUp_8 : decode cX10_shiftUp 8 = .ok (.if_icmp .ge 34, 3) := by decide +kernel
theorem dX10_shiftUp_11 : decode cX10_shiftUp 11 = .ok (.aload_n 0, 1) := by decide +kernel
theorem dX10_shiftUp_12 : decode cX10_shiftUp 12 = .ok (.iload 4, 2) := by decide +kernel
theorem dX10_shiftUp_14 : decode cX10_shiftUp 14 = .ok (.iaload, 1) := by decide +kernel
theorem dX10_shiftUp_15 : decode cX10_shiftUp 15 = .ok (.iload_n 2, 1) := by decide +kernel
theorem dX10_shiftUp_16 : decode cX10_shiftUp 16 = .ok (.ishl, 1) := by decide +kernel
theorem dX10_shiftUp_17 : decode cX10_shiftUp 17 = .ok (.iload_n 3, 1) := by decide +kernel
theorem dX10_shiftUp_18 : decode cX10_shiftUp 18 = .ok (.ior, 1) := by decide +kernel
theorem dX10_shiftUp_19 : decode cX10_shiftUp 19 = .ok (.istore 5, 2) := by decide +kernel
theorem dX10_shiftUp_21 : decode cX10_shiftUp 21 = .ok (.aload_n 0, 1) := by decide +kernel
theorem dX10_shiftUp_22 : decode cX10_shiftUp 22 = .ok (.iload 4, 2) := by decide +kernel
theorem dX10_shiftUp_24 : decode cX10_shiftUp 24 = .ok (.iload 5, 2) := by decide +kernel
theorem dX10_shiftUp_26 : decode cX10_shiftUp 26 = .ok (.ldc 149, 2) := by decide +kernel
theorem dX10_shiftUp_28 : decode cX10_shiftUp 28 = .ok (.iand, 1) := by decide +kernel
theorem dX10_shiftUp_29 : decode cX10_shiftUp 29 = .ok (.iastore, 1) := by decide +kernel
theorem dX10_shiftUp_30 : decode cX10_shiftUp 30 = .ok (.iload 5, 2) := by decide +kernel
theorem dX10_shiftUp_32 : decode cX10_shiftUp 32 = .ok (.bipush 16, 2) := by decide +kernel
theorem dX10_shiftUp_34 : decode cX10_shiftUp 34 = .ok (.iushr, 1) := by decide +kernel
theorem dX10_shiftUp_35 : decode cX10_shiftUp 35 = .ok (.istore_n 3, 1) := by decide +kernel
theorem dX10_shiftUp_36 : decode cX10_shiftUp 36 = .ok (.iinc 4 1, 3) := by decide +kernel
theorem dX10_shiftUp_39 : decode cX10_shiftUp 39 = .ok (.goto (-34), 3) := by decide +kernel
theorem dX10_shiftUp_42 : decode cX10_shiftUp 42 = .ok (.return_, 1) := by decide +kernel
theorem dX10_small_0 : decode cX10_small 0 = .ok (.ldc 37, 2) := by decide +kernel
theorem dX10_small_2 : decode cX10_small 2 = .ok (.iload_n 0, 1) := by decide +kernel
theorem dX10_small_3 : decode cX10_small 3 = .ok (.ldc 38, 2) := by decide +kernel
theorem dX10_small_5 : decode cX10_small 5 = .ok (.iand, 1) := by decide +kernel
theorem dX10_small_6 : decode cX10_small 6 = .ok (.ior, 1) := by decide +kernel
theorem dX10_small_7 : decode cX10_small 7 = .ok (.ireturn, 1) := by decide +kernel
theorem dX10_takeBillion_0 : decode cX10_takeBillion 0 = .ok (.lconst 0, 1) := by decide +kernel
theorem dX10_takeBillion_1 : decode cX10_takeBillion 1 = .ok (.lstore_n 2, 1) := by decide +kernel
theorem dX10_takeBillion_2 : decode cX10_takeBillion 2 = .ok (.iload_n 1, 1) := by decide +kernel
theorem dX10_takeBillion_3 : decode cX10_takeBillion 3 = .ok (.iconst 1, 1) := by decide +kernel
theorem dX10_takeBillion_4 : decode cX10_takeBillion 4 = .ok (.isub, 1) := by decide +kernel
theorem dX10_takeBillion_5 : decode cX10_takeBillion 5 = .ok (.istore 4, 2) := by decide +kernel
theorem dX10_takeBillion_7 : decode cX10_takeBillion 7 = .ok (.iload 4, 2) := by decide +kernel
theorem dX10_takeBillion_9 : decode cX10_takeBillion 9 = .ok (.ifCond .lt 49, 3) := by decide +kernel
theorem dX10_takeBillion_12 : decode cX10_takeBillion 12 = .ok (.lload_n 2, 1) := by decide +kernel
theorem dX10_takeBillion_13 : decode cX10_takeBillion 13 = .ok (.bipush 32, 2) := by decide +kernel
theorem dX10_takeBillion_15 : decode cX10_takeBillion 15 = .ok (.lshl, 1) := by decide +kernel
theorem dX10_takeBillion_16 : decode cX10_takeBillion 16 = .ok (.aload_n 0, 1) := by decide +kernel
theorem dX10_takeBillion_17 : decode cX10_takeBillion 17 = .ok (.getfield 9, 3) := by decide +kernel
theorem dX10_takeBillion_20 : decode cX10_takeBillion 20 = .ok (.iload 4, 2) := by decide +kernel
theorem dX10_takeBillion_22 : decode cX10_takeBillion 22 = .ok (.iaload, 1) := by decide +kernel
theorem dX10_takeBillion_23 : decode cX10_takeBillion 23 = .ok (.i2l, 1) := by decide +kernel
theorem dX10_takeBillion_24 : decode cX10_takeBillion 24 = .ok (.ldc2_w 105, 3) := by decide +kernel
theorem dX10_takeBillion_27 : decode cX10_takeBillion 27 = .ok (.land, 1) := by decide +kernel
theorem dX10_takeBillion_28 : decode cX10_takeBillion 28 = .ok (.lor, 1) := by decide +kernel
theorem dX10_takeBillion_29 : decode cX10_takeBillion 29 = .ok (.lstore 5, 2) := by decide +kernel
theorem dX10_takeBillion_31 : decode cX10_takeBillion 31 = .ok (.aload_n 0, 1) := by decide +kernel
theorem dX10_takeBillion_32 : decode cX10_takeBillion 32 = .ok (.getfield 9, 3) := by decide +kernel
theorem dX10_takeBillion_35 : decode cX10_takeBillion 35 = .ok (.iload 4, 2) := by decide +kernel
theorem dX10_takeBillion_37 : decode cX10_takeBillion 37 = .ok (.lload 5, 2) := by decide +kernel
theorem dX10_takeBillion_39 : decode cX10_takeBillion 39 = .ok (.ldc2_w 180, 3) := by decide +kernel
theorem dX10_takeBillion_42 : decode cX10_takeBillion 42 = .ok (.ldiv, 1) := by decide +kernel
theorem dX10_takeBillion_43 : decode cX10_takeBillion 43 = .ok (.l2i, 1) := by decide +kernel
theorem dX10_takeBillion_44 : decode cX10_takeBillion 44 = .ok (.iastore, 1) := by decide +kernel
theorem dX10_takeBillion_45 : decode cX10_takeBillion 45 = .ok (.lload 5, 2) := by decide +kernel
theorem dX10_takeBillion_47 : decode cX10_takeBillion 47 = .ok (.ldc2_w 180, 3) := by decide +kernel
theorem dX10_takeBillion_50 : decode cX10_takeBillion 50 = .ok (.lrem, 1) := by decide +kernel
theorem dX10_takeBillion_51 : decode cX10_takeBillion 51 = .ok (.lstore_n 2, 1) := by decide +kernel
theorem dX10_takeBillion_52 : decode cX10_takeBillion 52 = .ok (.iinc 4 (-1), 3) := by decide +kernel
theorem dX10_takeBillion_55 : decode cX10_takeBillion 55 = .ok (.goto (-48), 3) := by decide +kernel
theorem dX10_takeBillion_58 : decode cX10_takeBillion 58 = .ok (.lload_n 2, 1) := by decide +kernel
theorem dX10_takeBillion_59 : decode cX10_takeBillion 59 = .ok (.l2i, 1) := by decide +kernel
theorem dX10_takeBillion_60 : decode cX10_takeBillion 60 = .ok (.ireturn, 1) := by decide +kernel
theorem dX10_takeLimbs_0 : decode cX10_takeLimbs 0 = .ok (.lconst 0, 1) := by decide +kernel
theorem dX10_takeLimbs_1 : decode cX10_takeLimbs 1 = .ok (.lstore 5, 2) := by decide +kernel
theorem dX10_takeLimbs_3 : decode cX10_takeLimbs 3 = .ok (.iconst 0, 1) := by decide +kernel
theorem dX10_takeLimbs_4 : decode cX10_takeLimbs 4 = .ok (.istore 7, 2) := by decide +kernel
theorem dX10_takeLimbs_6 : decode cX10_takeLimbs 6 = .ok (.iload 7, 2) := by decide +kernel
theorem dX10_takeLimbs_8 : decode cX10_takeLimbs 8 = .ok (.iload_n 2, 1) := by decide +kernel
theorem dX10_takeLimbs_9 : decode cX10_takeLimbs 9 = .ok (.if_icmp .ge 61, 3) := by decide +kernel
theorem dX10_takeLimbs_12 : decode cX10_takeLimbs 12 = .ok (.lload 5, 2) := by decide +kernel
theorem dX10_takeLimbs_14 : decode cX10_takeLimbs 14 = .ok (.aload_n 1, 1) := by decide +kernel
theorem dX10_takeLimbs_15 : decode cX10_takeLimbs 15 = .ok (.iload 7, 2) := by decide +kernel
theorem dX10_takeLimbs_17 : decode cX10_takeLimbs 17 = .ok (.iaload, 1) := by decide +kernel
theorem dX10_takeLimbs_18 : decode cX10_takeLimbs 18 = .ok (.i2l, 1) := by decide +kernel
theorem dX10_takeLimbs_19 : decode cX10_takeLimbs 19 = .ok (.ldc2_w 105, 3) := by decide +kernel
theorem dX10_takeLimbs_22 : decode cX10_takeLimbs 22 = .ok (.land, 1) := by decide +kernel
theorem dX10_takeLimbs_23 : decode cX10_takeLimbs 23 = .ok (.ladd, 1) := by decide +kernel
theorem dX10_takeLimbs_24 : decode cX10_takeLimbs 24 = .ok (.iload 7, 2) := by decide +kernel
theorem dX10_takeLimbs_26 : decode cX10_takeLimbs 26 = .ok (.iload 4, 2) := by decide +kernel
theorem dX10_takeLimbs_28 : decode cX10_takeLimbs 28 = .ok (.if_icmp .ge 15, 3) := by decide +kernel
theorem dX10_takeLimbs_31 : decode cX10_takeLimbs 31 = .ok (.aload_n 3, 1) := by decide +kernel
theorem dX10_takeLimbs_32 : decode cX10_takeLimbs 32 = .ok (.iload 7, 2) := by decide +kernel
theorem dX10_takeLimbs_34 : decode cX10_takeLimbs 34 = .ok (.iaload, 1) := by decide +kernel
theorem dX10_takeLimbs_35 : decode cX10_takeLimbs 35 = .ok (.i2l, 1) := by decide +kernel
theorem dX10_takeLimbs_36 : decode cX10_takeLimbs 36 = .ok (.ldc2_w 105, 3) := by decide +kernel
theorem dX10_takeLimbs_39 : decode cX10_takeLimbs 39 = .ok (.land, 1) := by decide +kernel
theorem dX10_takeLimbs_40 : decode cX10_takeLimbs 40 = .ok (.goto 4, 3) := by decide +kernel
theorem dX10_takeLimbs_43 : decode cX10_takeLimbs 43 = .ok (.lconst 0, 1) := by decide +kernel
theorem dX10_takeLimbs_44 : decode cX10_takeLimbs 44 = .ok (.lsub, 1) := by decide +kernel
theorem dX10_takeLimbs_45 : decode cX10_takeLimbs 45 = .ok (.lstore 5, 2) := by decide +kernel
theorem dX10_takeLimbs_47 : decode cX10_takeLimbs 47 = .ok (.aload_n 0, 1) := by decide +kernel
theorem dX10_takeLimbs_48 : decode cX10_takeLimbs 48 = .ok (.getfield 18, 3) := by decide +kernel
theorem dX10_takeLimbs_51 : decode cX10_takeLimbs 51 = .ok (.iload 7, 2) := by decide +kernel
theorem dX10_takeLimbs_53 : decode cX10_takeLimbs 53 = .ok (.lload 5, 2) := by decide +kernel
theorem dX10_takeLimbs_55 : decode cX10_takeLimbs 55 = .ok (.l2i, 1) := by decide +kernel
theorem dX10_takeLimbs_56 : decode cX10_takeLimbs 56 = .ok (.iastore, 1) := by decide +kernel
theorem dX10_takeLimbs_57 : decode cX10_takeLimbs 57 = .ok (.lload 5, 2) := by decide +kernel
theorem dX10_takeLimbs_59 : decode cX10_takeLimbs 59 = .ok (.bipush 32, 2) := by decide +kernel
theorem dX10_takeLimbs_61 : decode cX10_takeLimbs 61 = .ok (.lshr, 1) := by decide +kernel
theorem dX10_takeLimbs_62 : decode cX10_takeLimbs 62 = .ok (.lstore 5, 2) := by decide +kernel
theorem dX10_takeLimbs_64 : decode cX10_takeLimbs 64 = .ok (.iinc 7 1, 3) := by decide +kernel
theorem dX10_takeLimbs_67 : decode cX10_takeLimbs 67 = .ok (.goto (-61), 3) := by decide +kernel
theorem dX10_takeLimbs_70 : decode cX10_takeLimbs 70 = .ok (.iload_n 2, 1) := by decide +kernel
theorem dX10_takeLimbs_71 : decode cX10_takeLimbs 71 = .ok (.ireturn, 1) := by decide +kernel
theorem dX10_unpackQuotient_0 : decode cX10_unpackQuotient 0 = .ok (.iconst 0, 1) := by decide +kernel
theorem dX10_unpackQuotient_1 : decode cX10_unpackQuotient 1 = .ok (.istore_n 2, 1) := by decide +kernel
theorem dX10_unpackQuotient_2 : decode cX10_unpackQuotient 2 = .ok (.iload_n 2, 1) := by decide +kernel
theorem dX10_unpackQuotient_3 : decode cX10_unpackQuotient 3 = .ok (.iload_n 1, 1) := by decide +kernel
theorem dX10_unpackQuotient_4 : decode cX10_unpackQuotient 4 = .ok (.if_icmp .ge 37, 3) := by decide +kernel
theorem dX10_unpackQuotient_7 : decode cX10_unpackQuotient 7 = .ok (.aload_n 0, 1) := by decide +kernel
theorem dX10_unpackQuotient_8 : decode cX10_unpackQuotient 8 = .ok (.getfield 18, 3) := by decide +kernel
theorem dX10_unpackQuotient_11 : decode cX10_unpackQuotient 11 = .ok (.iload_n 2, 1) := by decide +kernel
theorem dX10_unpackQuotient_12 : decode cX10_unpackQuotient 12 = .ok (.aload_n 0, 1) := by decide +kernel
theorem dX10_unpackQuotient_13 : decode cX10_unpackQuotient 13 = .ok (.getfield 27, 3) := by decide +kernel
theorem dX10_unpackQuotient_16 : decode cX10_unpackQuotient 16 = .ok (.iconst 2, 1) := by decide +kernel
theorem dX10_unpackQuotient_17 : decode cX10_unpackQuotient 17 = .ok (.iload_n 2, 1) := by decide +kernel
theorem dX10_unpackQuotient_18 : decode cX10_unpackQuotient 18 = .ok (.imul, 1) := by decide +kernel
theorem dX10_unpackQuotient_19 : decode cX10_unpackQuotient 19 = .ok (.iaload, 1) := by decide +kernel
theorem dX10_unpackQuotient_20 : decode cX10_unpackQuotient 20 = .ok (.aload_n 0, 1) := by decide +kernel
theorem dX10_unpackQuotient_21 : decode cX10_unpackQuotient 21 = .ok (.getfield 27, 3) := by decide +kernel
theorem dX10_unpackQuotient_24 : decode cX10_unpackQuotient 24 = .ok (.iconst 2, 1) := by decide +kernel
theorem dX10_unpackQuotient_25 : decode cX10_unpackQuotient 25 = .ok (.iload_n 2, 1) := by decide +kernel
theorem dX10_unpackQuotient_26 : decode cX10_unpackQuotient 26 = .ok (.imul, 1) := by decide +kernel
theorem dX10_unpackQuotient_27 : decode cX10_unpackQuotient 27 = .ok (.iconst 1, 1) := by decide +kernel
theorem dX10_unpackQuotient_28 : decode cX10_unpackQuotient 28 = .ok (.iadd, 1) := by decide +kernel
theorem dX10_unpackQuotient_29 : decode cX10_unpackQuotient 29 = .ok (.iaload, 1) := by decide +kernel
theorem dX10_unpackQuotient_30 : decode cX10_unpackQuotient 30 = .ok (.bipush 16, 2) := by decide +kernel
theorem dX10_unpackQuotient_32 : decode cX10_unpackQuotient 32 = .ok (.ishl, 1) := by decide +kernel
theorem dX10_unpackQuotient_33 : decode cX10_unpackQuotient 33 = .ok (.ior, 1) := by decide +kernel
theorem dX10_unpackQuotient_34 : decode cX10_unpackQuotient 34 = .ok (.iastore, 1) := by decide +kernel
theorem dX10_unpackQuotient_35 : decode cX10_unpackQuotient 35 = .ok (.iinc 2 1, 3) := by decide +kernel
theorem dX10_unpackQuotient_38 : decode cX10_unpackQuotient 38 = .ok (.goto (-36), 3) := by decide +kernel
theorem dX10_unpackQuotient_41 : decode cX10_unpackQuotient 41 = .ok (.iload_n 1, 1) := by decide +kernel
theorem dX10_unpackQuotient_42 : decode cX10_unpackQuotient 42 = .ok (.ireturn, 1) := by decide +kernel
theorem dX10_unpackRest_0 : decode cX10_unpackRest 0 = .ok (.iconst 0, 1) := by decide +kernel
theorem dX10_unpackRest_1 : decode cX10_unpackRest 1 = .ok (.istore_n 2, 1) := by decide +kernel
theorem dX10_unpackRest_2 : decode cX10_unpackRest 2 = .ok (.iload_n 2, 1) := by decide +kernel
theorem dX10_unpackRest_3 : decode cX10_unpackRest 3 = .ok (.iload_n 1, 1) := by decide +kernel
theorem dX10_unpackRest_4 : decode cX10_unpackRest 4 = .ok (.if_icmp .ge 37, 3) := by decide +kernel
theorem dX10_unpackRest_7 : decode cX10_unpackRest 7 = .ok (.aload_n 0, 1) := by decide +kernel
theorem dX10_unpackRest_8 : decode cX10_unpackRest 8 = .ok (.getfield 18, 3) := by decide +kernel
theorem dX10_unpackRest_11 : decode cX10_unpackRest 11 = .ok (.iload_n 2, 1) := by decide +kernel
theorem dX10_unpackRest_12 : decode cX10_unpackRest 12 = .ok (.aload_n 0, 1) := by decide +kernel
theorem dX10_unpackRest_13 : decode cX10_unpackRest 13 = .ok (.getfield 21, 3) := by decide +kernel
theorem dX10_unpackRest_16 : decode cX10_unpackRest 16 = .ok (.iconst 2, 1) := by decide +kernel
theorem dX10_unpackRest_17 : decode cX10_unpackRest 17 = .ok (.iload_n 2, 1) := by decide +kernel
theorem dX10_unpackRest_18 : decode cX10_unpackRest 18 = .ok (.imul, 1) := by decide +kernel
theorem dX10_unpackRest_19 : decode cX10_unpackRest 19 = .ok (.iaload, 1) := by decide +kernel
theorem dX10_unpackRest_20 : decode cX10_unpackRest 20 = .ok (.aload_n 0, 1) := by decide +kernel
theorem dX10_unpackRest_21 : decode cX10_unpackRest 21 = .ok (.getfield 21, 3) := by decide +kernel
theorem dX10_unpackRest_24 : decode cX10_unpackRest 24 = .ok (.iconst 2, 1) := by decide +kernel
theorem dX10_unpackRest_25 : decode cX10_unpackRest 25 = .ok (.iload_n 2, 1) := by decide +kernel
theorem dX10_unpackRest_26 : decode cX10_unpackRest 26 = .ok (.imul, 1) := by decide +kernel
theorem dX10_unpackRest_27 : decode cX10_unpackRest 27 = .ok (.iconst 1, 1) := by decide +kernel
theorem dX10_unpackRest_28 : decode cX10_unpackRest 28 = .ok (.iadd, 1) := by decide +kernel
theorem dX10_unpackRest_29 : decode cX10_unpackRest 29 = .ok (.iaload, 1) := by decide +kernel
theorem dX10_unpackRest_30 : decode cX10_unpackRest 30 = .ok (.bipush 16, 2) := by decide +kernel
theorem dX10_unpackRest_32 : decode cX10_unpackRest 32 = .ok (.ishl, 1) := by decide +kernel
theorem dX10_unpackRest_33 : decode cX10_unpackRest 33 = .ok (.ior, 1) := by decide +kernel
theorem dX10_unpackRest_34 : decode cX10_unpackRest 34 = .ok (.iastore, 1) := by decide +kernel
theorem dX10_unpackRest_35 : decode cX10_unpackRest 35 = .ok (.iinc 2 1, 3) := by decide +kernel
theorem dX10_unpackRest_38 : decode cX10_unpackRest 38 = .ok (.goto (-36), 3) := by decide +kernel
theorem dX10_unpackRest_41 : decode cX10_unpackRest 41 = .ok (.return_, 1) := by decide +kernel
theorem dX11_fault_0 : decode cX11_fault 0 = .ok (.aload_n 0, 1) := by decide +kernel
theorem dX11_fault_1 : decode cX11_fault 1 = .ok (.getfield 137, 3) := by decide +kernel
theorem dX11_fault_4 : decode cX11_fault 4 = .ok (.ireturn, 1) := by decide +kernel
theorem dX11_isError_0 : decode cX11_isError 0 = .ok (.iload_n 0, 1) := by decide +kernel
theorem dX11_isError_1 : decode cX11_isError 1 = .ok (.ldc 3, 2) := by decide +kernel
theorem dX11_isError_3 : decode cX11_isError 3 = .ok (.iand, 1) := by decide +kernel
theorem dX11_isError_4 : decode cX11_isError 4 = .ok (.ldc 3, 2) := by decide +kernel
theorem dX11_isError_6 : decode cX11_isError 6 = .ok (.if_icmp .ne 7, 3) := by decide +kernel
theorem dX11_isError_9 : decode cX11_isError 9 = .ok (.iconst 1, 1) := by decide +kernel
theorem dX11_isError_10 : decode cX11_isError 10 = .ok (.goto 4, 3) := by decide +kernel
theorem dX11_isError_13 : decode cX11_isError 13 = .ok (.iconst 0, 1) := by decide +kernel
theorem dX11_isError_14 : decode cX11_isError 14 = .ok (.ireturn, 1) := by decide +kernel
theorem dX11_order_0 : decode cX11_order 0 = .ok (.aload_n 0, 1) := by decide +kernel
theorem dX11_order_1 : decode cX11_order 1 = .ok (.getfield 228, 3) := by decide +kernel
theorem dX11_order_4 : decode cX11_order 4 = .ok (.iconst 2, 1) := by decide +kernel
theorem dX11_order_5 : decode cX11_order 5 = .ok (.if_icmp .ge 7, 3) := by decide +kernel
theorem dX11_order_8 : decode cX11_order 8 = .ok (.iconst 0, 1) := by decide +kernel
theorem dX11_order_9 : decode cX11_order 9 = .ok (.goto 22, 3) := by decide +kernel
theorem dX11_order_12 : decode cX11_order 12 = .ok (.aload_n 0, 1) := by decide +kernel
theorem dX11_order_13 : decode cX11_order 13 = .ok (.getfield 25, 3) := by decide +kernel
theorem dX11_order_16 : decode cX11_order 16 = .ok (.aload_n 0, 1) := by decide +kernel
theorem dX11_order_17 : decode cX11_order 17 = .ok (.getfield 56, 3) := by decide +kernel
theorem dX11_order_20 : decode cX11_order 20 = .ok (.iconst 0, 1) := by decide +kernel
theorem dX11_order_21 : decode cX11_order 21 = .ok (.iaload, 1) := by decide +kernel
theorem dX11_order_22 : decode cX11_order 22 = .ok (.aload_n 0, 1) := by decide +kernel
theorem dX11_order_23 : decode cX11_order 23 = .ok (.getfield 56, 3) := by decide +kernel
theorem dX11_order_26 : decode cX11_order 26 = .ok (.iconst 1, 1) := by decide +kernel
theorem dX11_order_27 : decode cX11_order 27 = .ok (.iaload, 1) := by decide +kernel
theorem dX11_order_28 : decode cX11_order 28 = .ok (.invokevirtual 333, 3) := by decide +kernel
theorem dX11_order_31 : decode cX11_order 31 = .ok (.ireturn, 1) := by decide +kernel
theorem dX11_raw_0 : decode cX11_raw 0 = .ok (.ldc 3, 2) := by decide +kernel
theorem dX11_raw_2 : decode cX11_raw 2 = .ok (.iload_n 0, 1) := by decide +kernel
theorem dX11_raw_3 : decode cX11_raw 3 = .ok (.ldc 4, 2) := by decide +kernel
theorem dX11_raw_5 : decode cX11_raw 5 = .ok (.iand, 1) := by decide +kernel
theorem dX11_raw_6 : decode cX11_raw 6 = .ok (.ior, 1) := by decide +kernel
theorem dX11_raw_7 : decode cX11_raw 7 = .ok (.ireturn, 1) := by decide +kernel
theorem dX11_renew_0 : decode cX11_renew 0 = .ok (.aload_n 0, 1) := by decide +kernel
theorem dX11_renew_1 : decode cX11_renew 1 = .ok (.getfield 56, 3) := by decide +kernel
theorem dX11_renew_4 : decode cX11_renew 4 = .ok (.iload_n 1, 1) := by decide +kernel
theorem dX11_renew_5 : decode cX11_renew 5 = .ok (.iaload, 1) := by decide +kernel
theorem dX11_renew_6 : decode cX11_renew 6 = .ok (.istore_n 2, 1) := by decide +kernel
theorem dX11_renew_7 : decode cX11_renew 7 = .ok (.aload_n 0, 1) := by decide +kernel
theorem dX11_renew_8 : decode cX11_renew 8 = .ok (.getfield 56, 3) := by decide +kernel
theorem dX11_renew_11 : decode cX11_renew 11 = .ok (.iconst 2, 1) := by decide +kernel
theorem dX11_renew_12 : decode cX11_renew 12 = .ok (.iaload, 1) := by decide +kernel
theorem dX11_renew_13 : decode cX11_renew 13 = .ok (.istore_n 3, 1) := by decide +kernel
theorem dX11_renew_14 : decode cX11_renew 14 = .ok (.aload_n 0, 1) := by decide +kernel
theorem dX11_renew_15 : decode cX11_renew 15 = .ok (.getfield 25, 3) := by decide +kernel
theorem dX11_renew_18 : decode cX11_renew 18 = .ok (.iload_n 2, 1) := by decide +kernel
theorem dX11_renew_19 : decode cX11_renew 19 = .ok (.iload_n 3, 1) := by decide +kernel
theorem dX11_renew_20 : decode cX11_renew 20 = .ok (.invokevirtual 317, 3) := by decide +kernel
theorem dX11_renew_23 : decode cX11_renew 23 = .ok (.ifCond .ne 7, 3) := by decide +kernel
theorem dX11_renew_26 : decode cX11_renew 26 = .ok (.iconst 1, 1) := by decide +kernel
theorem dX11_renew_27 : decode cX11_renew 27 = .ok (.goto 4, 3) := by decide +kernel
theorem dX11_renew_30 : decode cX11_renew 30 = .ok (.iconst 0, 1) := by decide +kernel
theorem dX11_renew_31 : decode cX11_renew 31 = .ok (.istore 4, 2) := by decide +kernel
theorem dX11_renew_33 : decode cX11_renew 33 = .ok (.aload_n 0, 1) := by decide +kernel
theorem dX11_renew_34 : decode cX11_renew 34 = .ok (.getfield 25, 3) := by decide +kernel
theorem dX11_renew_37 : decode cX11_renew 37 = .ok (.iload_n 2, 1) := by decide +kernel
theorem dX11_renew_38 : decode cX11_renew 38 = .ok (.invokevirtual 321, 3) := by decide +kernel
theorem dX11_renew_41 : decode cX11_renew 41 = .ok (.bipush 6, 2) := by decide +kernel
theorem dX11_renew_43 : decode cX11_renew 43 = .ok (.if_icmp .ne 20, 3) := by decide +kernel
theorem dX11_renew_46 : decode cX11_renew 46 = .ok (.aload_n 0, 1) := by decide +kernel
theorem dX11_renew_47 : decode cX11_renew 47 = .ok (.getfield 25, 3) := by decide +kernel
theorem dX11_renew_50 : decode cX11_renew 50 = .ok (.iload_n 3, 1) := by decide +kernel
theorem dX11_renew_51 : decode cX11_renew 51 = .ok (.invokevirtual 321, 3) := by decide +kernel
theorem dX11_renew_54 : decode cX11_renew 54 = .ok (.bipush 6, 2) := by decide +kernel
theorem dX11_renew_56 : decode cX11_renew 56 = .ok (.if_icmp .ne 7, 3) := by decide +kernel
theorem dX11_renew_59 : decode cX11_renew 59 = .ok (.iconst 1, 1) := by decide +kernel
theorem dX11_renew_60 : decode cX11_renew 60 = .ok (.goto 4, 3) := by decide +kernel
theorem dX11_renew_63 : decode cX11_renew 63 = .ok (.iconst 0, 1) := by decide +kernel
theorem dX11_renew_64 : decode cX11_renew 64 = .ok (.istore 5, 2) := by decide +kernel
theorem dX11_renew_66 : decode cX11_renew 66 = .ok (.aload_n 0, 1) := by decide +kernel
theorem dX11_renew_67 : decode cX11_renew 67 = .ok (.getfield 56, 3) := by decide +kernel
theorem dX11_renew_70 : decode cX11_renew 70 = .ok (.iload_n 1, 1) := by decide +kernel
theorem dX11_renew_71 : decode cX11_renew 71 = .ok (.iload_n 3, 1) := by decide +kernel
theorem dX11_renew_72 : decode cX11_renew 72 = .ok (.iastore, 1) := by decide +kernel
theorem dX11_renew_73 : decode cX11_renew 73 = .ok (.iload 4, 2) := by decide +kernel
theorem dX11_renew_75 : decode cX11_renew 75 = .ok (.ifCond .ne 24, 3) := by decide +kernel
theorem dX11_renew_78 : decode cX11_renew 78 = .ok (.aload_n 0, 1) := by decide +kernel
theorem dX11_renew_79 : decode cX11_renew 79 = .ok (.getfield 56, 3) := by decide +kernel
theorem dX11_renew_82 : decode cX11_renew 82 = .ok (.iload_n 1, 1) := by decide +kernel
theorem dX11_renew_83 : decode cX11_renew 83 = .ok (.iconst 1, 1) := by decide +kernel
theorem dX11_renew_84 : decode cX11_renew 84 = .ok (.iadd, 1) := by decide +kernel
theorem dX11_renew_85 : decode cX11_renew 85 = .ok (.iconst 2, 1) := by decide +kernel
theorem dX11_renew_86 : decode cX11_renew 86 = .ok (.iastore, 1) := by decide +kernel
theorem dX11_renew_87 : decode cX11_renew 87 = .ok (.aload_n 0, 1) := by decide +kernel
theorem dX11_renew_88 : decode cX11_renew 88 = .ok (.getfield 56, 3) := by decide +kernel
theorem dX11_renew_91 : decode cX11_renew 91 = .ok (.iload_n 1, 1) := by decide +kernel
theorem dX11_renew_92 : decode cX11_renew 92 = .ok (.iconst 2, 1) := by decide +kernel
theorem dX11_renew_93 : decode cX11_renew 93 = .ok (.iadd, 1) := by decide +kernel
theorem dX11_renew_94 : decode cX11_renew 94 = .ok (.iconst 2, 1) := by decide +kernel
theorem dX11_renew_95 : decode cX11_renew 95 = .ok (.iastore, 1) := by decide +kernel
theorem dX11_renew_96 : decode cX11_renew 96 = .ok (.goto 69, 3) := by decide +kernel
theorem dX11_renew_99 : decode cX11_renew 99 = .ok (.iload 5, 2) := by decide +kernel
theorem dX11_renew_101 : decode cX11_renew 101 = .ok (.ifCond .eq 46, 3) := by decide +kernel
theorem dX11_renew_104 : decode cX11_renew 104 = .ok (.aload_n 0, 1) := by decide +kernel
theorem dX11_renew_105 : decode cX11_renew 105 = .ok (.getfield 56, 3) := by decide +kernel
theorem dX11_renew_108 : decode cX11_renew 108 = .ok (.iload_n 1, 1) := by decide +kernel
theorem dX11_renew_109 : decode cX11_renew 109 = .ok (.iconst 1, 1) := by decide +kernel
theorem dX11_renew_110 : decode cX11_renew 110 = .ok (.iadd, 1) := by decide +kernel
theorem dX11_renew_111 : decode cX11_renew 111 = .ok (.aload_n 0, 1) := by decide +kernel
theorem dX11_renew_112 : decode cX11_renew 112 = .ok (.getfield 52, 3) := by decide +kernel
theorem dX11_renew_115 : decode cX11_renew 115 = .ok (.sipush 129, 3) := by decide +kernel
theorem dX11_renew_118 : decode cX11_renew 118 = .ok (.iload_n 3, 1) := by decide +kernel
theorem dX11_renew_119 : decode cX11_renew 119 = .ok (.iload_n 2, 1) := by decide +kernel
theorem dX11_renew_120 : decode cX11_renew 120 = .ok (.invokevirtual 325, 3) := by decide +kernel
theorem dX11_renew_123 : decode cX11_renew 123 = .ok (.iastore, 1) := by decide +kernel
theorem dX11_renew_124 : decode cX11_renew 124 = .ok (.aload_n 0, 1) := by decide +kernel
theorem dX11_renew_125 : decode cX11_renew 125 = .ok (.getfield 56, 3) := by decide +kernel
theorem dX11_renew_128 : decode cX11_renew 128 = .ok (.iload_n 1, 1) := by decide +kernel
theorem dX11_renew_129 : decode cX11_renew 129 = .ok (.iconst 2, 1) := by decide +kernel
theorem dX11_renew_130 : decode cX11_renew 130 = .ok (.iadd, 1) := by decide +kernel
theorem dX11_renew_131 : decode cX11_renew 131 = .ok (.aload_n 0, 1) := by decide +kernel
theorem dX11_renew_132 : decode cX11_renew 132 = .ok (.getfield 52, 3) := by decide +kernel
theorem dX11_renew_135 : decode cX11_renew 135 = .ok (.sipush 129, 3) := by decide +kernel
theorem dX11_renew_138 : decode cX11_renew 138 = .ok (.iload_n 2, 1) := by decide +kernel
theorem dX11_renew_139 : decode cX11_renew 139 = .ok (.iload_n 3, 1) := by decide +kernel
theorem dX11_renew_140 : decode cX11_renew 140 = .ok (.invokevirtual 325, 3) := by decide +kernel
theorem dX11_renew_143 : decode cX11_renew 143 = .ok (.iastore, 1) := by decide +kernel
theorem dX11_renew_144 : decode cX11_renew 144 = .ok (.goto 21, 3) := by decide +kernel
theorem dX11_renew_147 : decode cX11_renew 147 = .ok (.aload_n 0, 1) := by decide +kernel
theorem dX11_renew_148 : decode cX11_renew 148 = .ok (.getfield 56, 3) := by decide +kernel
theorem dX11_renew_151 : decode cX11_renew 151 = .ok (.iload_n 1, 1) := by decide +kernel
theorem dX11_renew_152 : decode cX11_renew 152 = .ok (.iconst 1, 1) := by decide +kernel
theorem dX11_renew_153 : decode cX11_renew 153 = .ok (.iadd, 1) := by decide +kernel
theorem dX11_renew_154 : decode cX11_renew 154 = .ok (.iload_n 3, 1) := by decide +kernel
theorem dX11_renew_155 : decode cX11_renew 155 = .ok (.iastore, 1) := by decide +kernel
theorem dX11_renew_156 : decode cX11_renew 156 = .ok (.aload_n 0, 1) := by decide +kernel
theorem dX11_renew_157 : decode cX11_renew 157 = .ok (.getfield 56, 3) := by decide +kernel
theorem dX11_renew_160 : decode cX11_renew 160 = .ok (.iload_n 1, 1) := by decide +kernel
theorem dX11_renew_161 : decode cX11_renew 161 = .ok (.iconst 2, 1) := by decide +kernel
theorem dX11_renew_162 : decode cX11_renew 162 = .ok (.iadd, 1) := by decide +kernel
theorem dX11_renew_163 : decode cX11_renew 163 = .ok (.iload_n 2, 1) := by decide +kernel
theorem dX11_renew_164 : decode cX11_renew 164 = .ok (.iastore, 1) := by decide +kernel
theorem dX11_renew_165 : decode cX11_renew 165 = .ok (.iload 4, 2) := by decide +kernel
theorem dX11_renew_167 : decode cX11_renew 167 = .ok (.ireturn, 1) := by decide +kernel
theorem dX11_truth_0 : decode cX11_truth 0 = .ok (.iload_n 0, 1) := by decide +kernel
theorem dX11_truth_1 : decode cX11_truth 1 = .ok (.ifCond .eq 8, 3) := by decide +kernel
theorem dX11_truth_4 : decode cX11_truth 4 = .ok (.ldc 5, 2) := by decide +kernel
theorem dX11_truth_6 : decode cX11_truth 6 = .ok (.goto 5, 3) := by decide +kernel
theorem dX11_truth_9 : decode cX11_truth 9 = .ok (.ldc 6, 2) := by decide +kernel
theorem dX11_truth_11 : decode cX11_truth 11 = .ok (.ireturn, 1) := by decide +kernel
theorem dX11_unraw_0 : decode cX11_unraw 0 = .ok (.iload_n 0, 1) := by decide +kernel
theorem dX11_unraw_1 : decode cX11_unraw 1 = .ok (.ldc 4, 2) := by decide +kernel
theorem dX11_unraw_3 : decode cX11_unraw 3 = .ok (.iand, 1) := by decide +kernel
theorem dX11_unraw_4 : decode cX11_unraw 4 = .ok (.ireturn, 1) := by decide +kernel
theorem dX1_beginMarking_0 : decode cX1_beginMarking 0 = .ok (.aload_n 0, 1) := by decide +kernel
theorem dX1_beginMarking_1 : decode cX1_beginMarking 1 = .ok (.getfield 19, 3) := by decide +kernel
theorem dX1_beginMarking_4 : decode cX1_beginMarking 4 = .ok (.iconst 0, 1) := by decide +kernel
theorem dX1_beginMarking_5 : decode cX1_beginMarking 5 = .ok (.invokestatic 79, 3) := by decide +kernel
theorem dX1_beginMarking_8 : decode cX1_beginMarking 8 = .ok (.aload_n 0, 1) := by decide +kernel
theorem dX1_beginMarking_9 : decode cX1_beginMarking 9 = .ok (.getfield 19, 3) := by decide +kernel
theorem dX1_beginMarking_12 : decode cX1_beginMarking 12 = .ok (.iconst 0, 1) := by decide +kernel
theorem dX1_beginMarking_13 : decode cX1_beginMarking 13 = .ok (.bipush 7, 2) := by decide +kernel
theorem dX1_beginMarking_15 : decode cX1_beginMarking 15 = .ok (.iastore, 1) := by decide +kernel
theorem dX1_beginMarking_16 : decode cX1_beginMarking 16 = .ok (.return_, 1) := by decide +kernel
theorem dX1_byteAt_0 : decode cX1_byteAt 0 = .ok (.iload_n 1, 1) := by decide +kernel
theorem dX1_byteAt_1 : decode cX1_byteAt 1 = .ok (.ifCond .ge 11, 3) := by decide +kernel
theorem dX1_byteAt_4 : decode cX1_byteAt 4 = .ok (.iload_n 1, 1) := by decide +kernel
theorem dX1_byteAt_5 : decode cX1_byteAt 5 = .ok (.sipush 255, 3) := by decide +kernel
theorem dX1_byteAt_8 : decode cX1_byteAt 8 = .ok (.iand, 1) := by decide +kernel
theorem dX1_byteAt_9 : decode cX1_byteAt 9 = .ok (.goto 25, 3) := by decide +kernel
theorem dX1_byteAt_12 : decode cX1_byteAt 12 = .ok (.aload_n 0, 1) := by decide +kernel
theorem dX1_byteAt_13 : decode cX1_byteAt 13 = .ok (.getfield 11, 3) := by decide +kernel
theorem dX1_byteAt_16 : decode cX1_byteAt 16 = .ok (.iload_n 1, 1) := by decide +kernel
theorem dX1_byteAt_17 : decode cX1_byteAt 17 = .ok (.iconst 1, 1) := by decide +kernel
theorem dX1_byteAt_18 : decode cX1_byteAt 18 = .ok (.iadd, 1) := by decide +kernel
theorem dX1_byteAt_19 : decode cX1_byteAt 19 = .ok (.iload_n 2, 1) := by decide +kernel
theorem dX1_byteAt_20 : decode cX1_byteAt 20 = .ok (.iconst 2, 1) := by decide +kernel
theorem dX1_byteAt_21 : decode cX1_byteAt 21 = .ok (.ishr, 1) := by decide +kernel
theorem dX1_byteAt_22 : decode cX1_byteAt 22 = .ok (.iadd, 1) := by decide +kernel
theorem dX1_byteAt_23 : decode cX1_byteAt 23 = .ok (.iaload, 1) := by decide +kernel
theorem dX1_byteAt_24 : decode cX1_byteAt 24 = .ok (.iload_n 2, 1) := by decide +kernel
theorem dX1_byteAt_25 : decode cX1_byteAt 25 = .ok (.iconst 3, 1) := by decide +kernel
theorem dX1_byteAt_26 : decode cX1_byteAt 26 = .ok (.iand, 1) := by decide +kernel
theorem dX1_byteAt_27 : decode cX1_byteAt 27 = .ok (.iconst 3, 1) := by decide +kernel
theorem dX1_byteAt_28 : decode cX1_byteAt 28 = .ok (.ishl, 1) := by decide +kernel
theorem dX1_byteAt_29 : decode cX1_byteAt 29 = .ok (.iushr, 1) := by decide +kernel
theorem dX1_byteAt_30 : decode cX1_byteAt 30 = .ok (.sipush 255, 3) := by decide +kernel
theorem dX1_byteAt_33 : decode cX1_byteAt 33 = .ok (.iand, 1) := by decide +kernel
theorem dX1_byteAt_34 : decode cX1_byteAt 34 = .ok (.ireturn, 1) := by decide +kernel
theorem dX1_compare_0 : decode cX1_compare 0 = .ok (.iload_n 1, 1) := by decide +kernel
theorem dX1_compare_1 : decode cX1_compare 1 = .ok (.iload_n 2, 1) := by decide +kernel
theorem dX1_compare_2 : decode cX1_compare 2 = .ok (.if_icmp .ne 5, 3) := by decide +kernel
theorem dX1_compare_5 : decode cX1_compare 5 = .ok (.iconst 0, 1) := by decide +kernel
theorem dX1_compare_6 : decode cX1_compare 6 = .ok (.ireturn, 1) := by decide +kernel
theorem dX1_compare_7 : decode cX1_compare 7 = .ok (.iload_n 1, 1) := by decide +kernel
theorem dX1_compare_8 : decode cX1_compare 8 = .ok (.ifCond .ge 13, 3) := by decide +kernel
theorem dX1_compare_11 : decode cX1_compare 11 = .ok (.iload_n 1, 1) := by decide +kernel
theorem dX1_compare_12 : decode cX1_compare 12 = .ok (.bipush 28, 2) := by decide +kernel
theorem dX1_compare_14 : decode cX1_compare 14 = .ok (.iushr, 1) := by decide +kernel
theorem dX1_compare_15 : decode cX1_compare 15 = .ok (.bipush 7, 2) := by decide +kernel
theorem dX1_compare_17 : decode cX1_compare 17 = .ok (.iand, 1) := by decide +kernel
theorem dX1_compare_18 : decode cX1_compare 18 = .ok (.goto 12, 3) := by decide +kernel
theorem dX1_compare_21 : decode cX1_compare 21 = .ok (.aload_n 0, 1) := by decide +kernel
theorem dX1_compare_22 : decode cX1_compare 22 = .ok (.getfield 11, 3) := by decide +kernel
theorem dX1_compare_25 : decode cX1_compare 25 = .ok (.iload_n 1, 1) := by decide +kernel
theorem dX1_compare_26 : decode cX1_compare 26 = .ok (.iaload, 1) := by decide +kernel
theorem dX1_compare_27 : decode cX1_compare 27 = .ok (.bipush 7, 2) := by decide +kernel
theorem dX1_compare_29 : decode cX1_compare 29 = .ok (.iand, 1) := by decide +kernel
theorem dX1_compare_30 : decode cX1_compare 30 = .ok (.istore_n 3, 1) := by decide +kernel
theorem dX1_compare_31 : decode cX1_compare 31 = .ok (.iload_n 2, 1) := by decide +kernel
theorem dX1_compare_32 : decode cX1_compare 32 = .ok (.ifCond .ge 13, 3) := by decide +kernel
theorem dX1_compare_35 : decode cX1_compare 35 = .ok (.iload_n 2, 1) := by decide +kernel
theorem dX1_compare_36 : decode cX1_compare 36 = .ok (.bipush 28, 2) := by decide +kernel
theorem dX1_compare_38 : decode cX1_compare 38 = .ok (.iushr, 1) := by decide +kernel
theorem dX1_compare_39 : decode cX1_compare 39 = .ok (.bipush 7, 2) := by decide +kernel
theorem dX1_compare_41 : decode cX1_compare 41 = .ok (.iand, 1) := by decide +kernel
theorem dX1_compare_42 : decode cX1_compare 42 = .ok (.goto 12, 3) := by decide +kernel
theorem dX1_compare_45 : decode cX1_compare 45 = .ok (.aload_n 0, 1) := by decide +kernel
theorem dX1_compare_46 : decode cX1_compare 46 = .ok (.getfield 11, 3) := by decide +kernel
theorem dX1_compare_49 : decode cX1_compare 49 = .ok (.iload_n 2, 1) := by decide +kernel
theorem dX1_compare_50 : decode cX1_compare 50 = .ok (.iaload, 1) := by decide +kernel
theorem dX1_compare_51 : decode cX1_compare 51 = .ok (.bipush 7, 2) := by decide +kernel
theorem dX1_compare_53 : decode cX1_compare 53 = .ok (.iand, 1) := by decide +kernel
theorem dX1_compare_54 : decode cX1_compare 54 = .ok (.istore 4, 2) := by decide +kernel
theorem dX1_compare_56 : decode cX1_compare 56 = .ok (.iload_n 3, 1) := by decide +kernel
theorem dX1_compare_57 : decode cX1_compare 57 = .ok (.iload 4, 2) := by decide +kernel
theorem dX1_compare_59 : decode cX1_compare 59 = .ok (.if_icmp .eq 15, 3) := by decide +kernel
theorem dX1_compare_62 : decode cX1_compare 62 = .ok (.iload_n 3, 1) := by decide +kernel
theorem dX1_compare_63 : decode cX1_compare 63 = .ok (.iload 4, 2) := by decide +kernel
theorem dX1_compare_65 : decode cX1_compare 65 = .ok (.if_icmp .ge 7, 3) := by decide +kernel
theorem dX1_compare_68 : decode cX1_compare 68 = .ok (.iconst (-1), 1) := by decide +kernel
theorem dX1_compare_69 : decode cX1_compare 69 = .ok (.goto 4, 3) := by decide +kernel
theorem dX1_compare_72 : decode cX1_compare 72 = .ok (.iconst 1, 1) := by decide +kernel
theorem dX1_compare_73 : decode cX1_compare 73 = .ok (.ireturn, 1) := by decide +kernel
theorem dX1_compare_74 : decode cX1_compare 74 = .ok (.iload_n 1, 1) := by decide +kernel
theorem dX1_compare_75 : decode cX1_compare 75 = .ok (.ifCond .ge 22, 3) := by decide +kernel
theorem dX1_compare_78 : decode cX1_compare 78 = .ok (.iload_n 2, 1) := by decide +kernel
theorem dX1_compare_79 : decode cX1_compare 79 = .ok (.ifCond .ge 18, 3) := by decide +kernel
theorem dX1_compare_82 : decode cX1_compare 82 = .ok (.iload_n 1, 1) := by decide +kernel
theorem dX1_compare_83 : decode cX1_compare 83 = .ok (.iconst 4, 1) := by decide +kernel
theorem dX1_compare_84 : decode cX1_compare 84 = .ok (.ishl, 1) := by decide +kernel
theorem dX1_compare_85 : decode cX1_compare 85 = .ok (.iload_n 2, 1) := by decide +kernel
theorem dX1_compare_86 : decode cX1_compare 86 = .ok (.iconst 4, 1) := by decide +kernel
theorem dX1_compare_87 : decode cX1_compare 87 = .ok (.ishl, 1) := by decide +kernel
theorem dX1_compare_88 : decode cX1_compare 88 = .ok (.if_icmp .ge 7, 3) := by decide +kernel
theorem dX1_compare_91 : decode cX1_compare 91 = .ok (.iconst (-1), 1) := by decide +kernel
theorem dX1_compare_92 : decode cX1_compare 92 = .ok (.goto 4, 3) := by decide +kernel
theorem dX1_compare_95 : decode cX1_compare 95 = .ok (.iconst 1, 1) := by decide +kernel
theorem dX1_compare_96 : decode cX1_compare 96 = .ok (.ireturn, 1) := by decide +kernel
theorem dX1_compare_97 : decode cX1_compare 97 = .ok (.iload_n 3, 1) := by decide +kernel
theorem dX1_compare_98 : decode cX1_compare 98 = .ok (.iconst 5, 1) := by decide +kernel
theorem dX1_compare_99 : decode cX1_compare 99 = .ok (.if_icmp .ge 24, 3) := by decide +kernel
theorem dX1_compare_102 : decode cX1_compare 102 = .ok (.iload_n 3, 1) := by decide +kernel
theorem dX1_compare_103 : decode cX1_compare 103 = .ok (.iconst 2, 1) := by decide +kernel
theorem dX1_compare_104 : decode cX1_compare 104 = .ok (.if_icmp .ne 12, 3) := by decide +kernel
theorem dX1_compare_107 : decode cX1_compare 107 = .ok (.aload_n 0, 1) := by decide +kernel
theorem dX1_compare_108 : decode cX1_compare 108 = .ok (.iload_n 1, 1) := by decide +kernel
theorem dX1_compare_109 : decode cX1_compare 109 = .ok (.iload_n 2, 1) := by decide +kernel
theorem dX1_compare_110 : decode cX1_compare 110 = .ok (.invokevirtual 68, 3) := by decide +kernel
theorem dX1_compare_113 : decode cX1_compare 113 = .ok (.goto 9, 3) := by decide +kernel
theorem dX1_compare_116 : decode cX1_compare 116 = .ok (.aload_n 0, 1) := by decide +kernel
theorem dX1_compare_117 : decode cX1_compare 117 = .ok (.iload_n 1, 1) := by decide +kernel
theorem dX1_compare_118 : decode cX1_compare 118 = .ok (.iload_n 2, 1) := by decide +kernel
theorem dX1_compare_119 : decode cX1_compare 119 = .ok (.invokevirtual 71, 3) := by decide +kernel
theorem dX1_compare_122 : decode cX1_compare 122 = .ok (.ireturn, 1) := by decide +kernel
theorem dX1_compare_123 : decode cX1_compare 123 = .ok (.aload_n 0, 1) := by decide +kernel
theorem dX1_compare_124 : decode cX1_compare 124 = .ok (.getfield 11, 3) := by decide +kernel
theorem dX1_compare_127 : decode cX1_compare 127 = .ok (.iload_n 1, 1) := by decide +kernel
theorem dX1_compare_128 : decode cX1_compare 128 = .ok (.iaload, 1) := by decide +kernel
theorem dX1_compare_129 : decode cX1_compare 129 = .ok (.iconst 4, 1) := by decide +kernel
theorem dX1_compare_130 : decode cX1_compare 130 = .ok (.iushr, 1) := by decide +kernel
theorem dX1_compare_131 : decode cX1_compare 131 = .ok (.sipush 4095, 3) := by decide +kernel
theorem dX1_compare_134 : decode cX1_compare 134 = .ok (.iand, 1) := by decide +kernel
theorem dX1_compare_135 : decode cX1_compare 135 = .ok (.istore 5, 2) := by decide +kernel
theorem dX1_compare_137 : decode cX1_compare 137 = .ok (.aload_n 0, 1) := by decide +kernel
theorem dX1_compare_138 : decode cX1_compare 138 = .ok (.getfield 11, 3) := by decide +kernel
theorem dX1_compare_141 : decode cX1_compare 141 = .ok (.iload_n 2, 1) := by decide +kernel
theorem dX1_compare_142 : decode cX1_compare 142 = .ok (.iaload, 1) := by decide +kernel
theorem dX1_compare_143 : decode cX1_compare 143 = .ok (.iconst 4, 1) := by decide +kernel
theorem dX1_compare_144 : decode cX1_compare 144 = .ok (.iushr, 1) := by decide +kernel
theorem dX1_compare_145 : decode cX1_compare 145 = .ok (.sipush 4095, 3) := by decide +kernel
theorem dX1_compare_148 : decode cX1_compare 148 = .ok (.iand, 1) := by decide +kernel
theorem dX1_compare_149 : decode cX1_compare 149 = .ok (.istore 6, 2) := by decide +kernel
theorem dX1_compare_151 : decode cX1_compare 151 = .ok (.iconst 1, 1) := by decide +kernel
theorem dX1_compare_152 : decode cX1_compare 152 = .ok (.istore 7, 2) := by decide +kernel
theorem dX1_compare_154 : decode cX1_compare 154 = .ok (.iload 7, 2) := by decide +kernel
theorem dX1_compare_156 : decode cX1_compare 156 = .ok (.iload 5, 2) := by decide +kernel
theorem dX1_compare_158 : decode cX1_compare 158 = .ok (.if_icmp .gt 73, 3) := by decide +kernel
theorem dX1_compare_161 : decode cX1_compare 161 = .ok (.iload 7, 2) := by decide +kernel
theorem dX1_compare_163 : decode cX1_compare 163 = .ok (.iload 6, 2) := by decide +kernel
theorem dX1_compare_165 : decode cX1_compare 165 = .ok (.if_icmp .gt 66, 3) := by decide +kernel
theorem dX1_compare_168 : decode cX1_compare 168 = .ok (.aload_n 0, 1) := by decide +kernel
theorem dX1_compare_169 : decode cX1_compare 169 = .ok (.getfield 11, 3) := by decide +kernel
theorem dX1_compare_172 : decode cX1_compare 172 = .ok (.iload_n 1, 1) := by decide +kernel
theorem dX1_compare_173 : decode cX1_compare 173 = .ok (.iload 7, 2) := by decide +kernel
theorem dX1_compare_175 : decode cX1_compare 175 = .ok (.iadd, 1) := by decide +kernel
theorem dX1_compare_176 : decode cX1_compare 176 = .ok (.iaload, 1) := by decide +kernel
theorem dX1_compare_177 : decode cX1_compare 177 = .ok (.aload_n 0, 1) := by decide +kernel
theorem dX1_compare_178 : decode cX1_compare 178 = .ok (.getfield 11, 3) := by decide +kernel
theorem dX1_compare_181 : decode cX1_compare 181 = .ok (.iload_n 2, 1) := by decide +kernel
theorem dX1_compare_182 : decode cX1_compare 182 = .ok (.iload 7, 2) := by decide +kernel
theorem dX1_compare_184 : decode cX1_compare 184 = .ok (.iadd, 1) := by decide +kernel
theorem dX1_compare_185 : decode cX1_compare 185 = .ok (.iaload, 1) := by decide +kernel
theorem dX1_compare_186 : decode cX1_compare 186 = .ok (.if_icmp .ne 7, 3) := by decide +kernel
theorem dX1_compare_189 : decode cX1_compare 189 = .ok (.iconst 0, 1) := by decide +kernel
theorem dX1_compare_190 : decode cX1_compare 190 = .ok (.goto 25, 3) := by decide +kernel
theorem dX1_compare_193 : decode cX1_compare 193 = .ok (.aload_n 0, 1) := by decide +kernel
theorem dX1_compare_194 : decode cX1_compare 194 = .ok (.aload_n 0, 1) := by decide +kernel
theorem dX1_compare_195 : decode cX1_compare 195 = .ok (.getfield 11, 3) := by decide +kernel
theorem dX1_compare_198 : decode cX1_compare 198 = .ok (.iload_n 1, 1) := by decide +kernel
theorem dX1_compare_199 : decode cX1_compare 199 = .ok (.iload 7, 2) := by decide +kernel
theorem dX1_compare_201 : decode cX1_compare 201 = .ok (.iadd, 1) := by decide +kernel
theorem dX1_compare_202 : decode cX1_compare 202 = .ok (.iaload, 1) := by decide +kernel
theorem dX1_compare_203 : decode cX1_compare 203 = .ok (.aload_n 0, 1) := by decide +kernel
theorem dX1_compare_204 : decode cX1_compare 204 = .ok (.getfield 11, 3) := by decide +kernel
theorem dX1_compare_207 : decode cX1_compare 207 = .ok (.iload_n 2, 1) := by decide +kernel
theorem dX1_compare_208 : decode cX1_compare 208 = .ok (.iload 7, 2) := by decide +kernel
theorem dX1_compare_210 : decode cX1_compare 210 = .ok (.iadd, 1) := by decide +kernel
theorem dX1_compare_211 : decode cX1_compare 211 = .ok (.iaload, 1) := by decide +kernel
theorem dX1_compare_212 : decode cX1_compare 212 = .ok (.invokevirtual 65, 3) := by decide +kernel
theorem dX1_compare_215 : decode cX1_compare 215 = .ok (.istore 8, 2) := by decide +kernel
theorem dX1_compare_217 : decode cX1_compare 217 = .ok (.iload 8, 2) := by decide +kernel
theorem dX1_compare_219 : decode cX1_compare 219 = .ok (.ifCond .eq 6, 3) := by decide +kernel
theorem dX1_compare_222 : decode cX1_compare 222 = .ok (.iload 8, 2) := by decide +kernel
theorem dX1_compare_224 : decode cX1_compare 224 = .ok (.ireturn, 1) := by decide +kernel
theorem dX1_compare_225 : decode cX1_compare 225 = .ok (.iinc 7 1, 3) := by decide +kernel
theorem dX1_compare_228 : decode cX1_compare 228 = .ok (.goto (-74), 3) := by decide +kernel
theorem dX1_compare_231 : decode cX1_compare 231 = .ok (.iload 5, 2) := by decide +kernel
theorem dX1_compare_233 : decode cX1_compare 233 = .ok (.iload 6, 2) := by decide +kernel
theorem dX1_compare_235 : decode cX1_compare 235 = .ok (.if_icmp .ne 7, 3) := by decide +kernel
theorem dX1_compare_238 : decode cX1_compare 238 = .ok (.iconst 0, 1) := by decide +kernel
theorem dX1_compare_239 : decode cX1_compare 239 = .ok (.goto 15, 3) := by decide +kernel
theorem dX1_compare_242 : decode cX1_compare 242 = .ok (.iload 5, 2) := by decide +kernel
theorem dX1_compare_244 : decode cX1_compare 244 = .ok (.iload 6, 2) := by decide +kernel
theorem dX1_compare_246 : decode cX1_compare 246 = .ok (.if_icmp .ge 7, 3) := by decide +kernel
theorem dX1_compare_249 : decode cX1_compare 249 = .ok (.iconst (-1), 1) := by decide +kernel
theorem dX1_compare_250 : decode cX1_compare 250 = .ok (.goto 4, 3) := by decide +kernel
theorem dX1_compare_253 : decode cX1_compare 253 = .ok (.iconst 1, 1) := by decide +kernel
theorem dX1_compare_254 : decode cX1_compare 254 = .ok (.ireturn, 1) := by decide +kernel
theorem dX1_compareStrings_0 : decode cX1_compareStrings 0 = .ok (.iload_n 1, 1) := by decide +kernel
theorem dX1_compareStrings_1 : decode cX1_compareStrings 1 = .ok (.ifCond .ge 7, 3) := by decide +kernel
theorem dX1_compareStrings_4 : decode cX1_compareStrings 4 = .ok (.iconst 1, 1) := by decide +kernel
theorem dX1_compareStrings_5 : decode cX1_compareStrings 5 = .ok (.goto 15, 3) := by decide +kernel
theorem dX1_compareStrings_8 : decode cX1_compareStrings 8 = .ok (.aload_n 0, 1) := by decide +kernel
theorem dX1_compareStrings_9 : decode cX1_compareStrings 9 = .ok (.getfield 11, 3) := by decide +kernel
theorem dX1_compareStrings_12 : decode cX1_compareStrings 12 = .ok (.iload_n 1, 1) := by decide +kernel
theorem dX1_compareStrings_13 : decode cX1_compareStrings 13 = .ok (.iaload, 1) := by decide +kernel
theorem dX1_compareStrings_14 : decode cX1_compareStrings 14 = .ok (.iconst 4, 1) := by decide +kernel
theorem dX1_compareStrings_15 : decode cX1_compareStrings 15 = .ok (.iushr, 1) := by decide +kernel
theorem dX1_compareStrings_16 : decode cX1_compareStrings 16 = .ok (.sipush 4095, 3) := by decide +kernel
theorem dX1_compareStrings_19 : decode cX1_compareStrings 19 = .ok (.iand, 1) := by decide +kernel
theorem dX1_compareStrings_20 : decode cX1_compareStrings 20 = .ok (.istore_n 3, 1) := by decide +kernel
theorem dX1_compareStrings_21 : decode cX1_compareStrings 21 = .ok (.iload_n 2, 1) := by decide +kernel
theorem dX1_compareStrings_22 : decode cX1_compareStrings 22 = .ok (.ifCond .ge 7, 3) := by decide +kernel
theorem dX1_compareStrings_25 : decode cX1_compareStrings 25 = .ok (.iconst 1, 1) := by decide +kernel
theorem dX1_compareStrings_26 : decode cX1_compareStrings 26 = .ok (.goto 15, 3) := by decide +kernel
theorem dX1_compareStrings_29 : decode cX1_compareStrings 29 = .ok (.aload_n 0, 1) := by decide +kernel
theorem dX1_compareStrings_30 : decode cX1_compareStrings 30 = .ok (.getfield 11, 3) := by decide +kernel
theorem dX1_compareStrings_33 : decode cX1_compareStrings 33 = .ok (.iload_n 2, 1) := by decide +kernel
theorem dX1_compareStrings_34 : decode cX1_compareStrings 34 = .ok (.iaload, 1) := by decide +kernel
theorem dX1_compareStrings_35 : decode cX1_compareStrings 35 = .ok (.iconst 4, 1) := by decide +kernel
theorem dX1_compareStrings_36 : decode cX1_compareStrings 36 = .ok (.iushr, 1) := by decide +kernel
theorem dX1_compareStrings_37 : decode cX1_compareStrings 37 = .ok (.sipush 4095, 3) := by decide +kernel
theorem dX1_compareStrings_40 : decode cX1_compareStrings 40 = .ok (.iand, 1) := by decide +kernel
theorem dX1_compareStrings_41 : decode cX1_compareStrings 41 = .ok (.istore 4, 2) := by decide +kernel
theorem dX1_compareStrings_43 : decode cX1_compareStrings 43 = .ok (.iconst 0, 1) := by decide +kernel
theorem dX1_compareStrings_44 : decode cX1_compareStrings 44 = .ok (.istore 5, 2) := by decide +kernel
theorem dX1_compareStrings_46 : decode cX1_compareStrings 46 = .ok (.iload 5, 2) := by decide +kernel
theorem dX1_compareStrings_48 : decode cX1_compareStrings 48 = .ok (.iload_n 3, 1) := by decide +kernel
theorem dX1_compareStrings_49 : decode cX1_compareStrings 49 = .ok (.if_icmp .ge 112, 3) := by decide +kernel
theorem dX1_compareStrings_52 : decode cX1_compareStrings 52 = .ok (.iload 5, 2) := by decide +kernel
theorem dX1_compareStrings_54 : decode cX1_compareStrings 54 = .ok (.iload 4, 2) := by decide +kernel
theorem dX1_compareStrings_56 : decode cX1_compareStrings 56 = .ok (.if_icmp .ge 105, 3) := by decide +kernel
theorem dX1_compareStrings_59 : decode cX1_compareStrings 59 = .ok (.iload_n 1, 1) := by decide +kernel
theorem dX1_compareStrings_60 : decode cX1_compareStrings 60 = .ok (.ifCond .ge 11, 3) := by decide +kernel
theorem dX1_compareStrings_63 : decode cX1_compareStrings 63 = .ok (.iload_n 1, 1) := by decide +kernel
theorem dX1_compareStrings_64 : decode cX1_compareStrings 64 = .ok (.sipush 255, 3) := by decide +kernel
theorem dX1_compareStrings_67 : decode cX1_compareStrings 67 = .ok (.iand, 1) := by decide +kernel
theorem dX1_compareStrings_68 : decode cX1_compareStrings 68 = .ok (.goto 27, 3) := by decide +kernel
theorem dX1_compareStrings_71 : decode cX1_compareStrings 71 = .ok (.aload_n 0, 1) := by decide +kernel
theorem dX1_compareStrings_72 : decode cX1_compareStrings 72 = .ok (.getfield 11, 3) := by decide +kernel
theorem dX1_compareStrings_75 : decode cX1_compareStrings 75 = .ok (.iload_n 1, 1) := by decide +kernel
theorem dX1_compareStrings_76 : decode cX1_compareStrings 76 = .ok (.iconst 1, 1) := by decide +kernel
theorem dX1_compareStrings_77 : decode cX1_compareStrings 77 = .ok (.iadd, 1) := by decide +kernel
theorem dX1_compareStrings_78 : decode cX1_compareStrings 78 = .ok (.iload 5, 2) := by decide +kernel
theorem dX1_compareStrings_80 : decode cX1_compareStrings 80 = .ok (.iconst 2, 1) := by decide +kernel
theorem dX1_compareStrings_81 : decode cX1_compareStrings 81 = .ok (.ishr, 1) := by decide +kernel
theorem dX1_compareStrings_82 : decode cX1_compareStrings 82 = .ok (.iadd, 1) := by decide +kernel
theorem dX1_compareStrings_83 : decode cX1_compareStrings 83 = .ok (.iaload, 1) := by decide +kernel
theorem dX1_compareStrings_84 : decode cX1_compareStrings 84 = .ok (.iload 5, 2) := by decide +kernel
theorem dX1_compareStrings_86 : decode cX1_compareStrings 86 = .ok (.iconst 3, 1) := by decide +kernel
theorem dX1_compareStrings_87 : decode cX1_compareStrings 87 = .ok (.iand, 1) := by decide +kernel
theorem dX1_compareStrings_88 : decode cX1_compareStrings 88 = .ok (.iconst 3, 1) := by decide +kernel
theorem dX1_compareStrings_89 : decode cX1_compareStrings 89 = .ok (.ishl, 1) := by decide +kernel
theorem dX1_compareStrings_90 : decode cX1_compareStrings 90 = .ok (.iushr, 1) := by decide +kernel
theorem dX1_compareStrings_91 : decode cX1_compareStrings 91 = .ok (.sipush 255, 3) := by decide +kernel
theorem dX1_compareStrings_94 : decode cX1_compareStrings 94 = .ok (.iand, 1) := by decide +kernel
theorem dX1_compareStrings_95 : decode cX1_compareStrings 95 = .ok (.istore 6, 2) := by decide +kernel
theorem dX1_compareStrings_97 : decode cX1_compareStrings 97 = .ok (.iload_n 2, 1) := by decide +kernel
theorem dX1_compareStrings_98 : decode cX1_compareStrings 98 = .ok (.ifCond .ge 11, 3) := by decide +kernel
theorem dX1_compareStrings_101 : decode cX1_compareStrings 101 = .ok (.iload_n 2, 1) := by decide +kernel
theorem dX1_compareStrings_102 : decode cX1_compareStrings 102 = .ok (.sipush 255, 3) := by decide +kernel
theorem dX1_compareStrings_105 : decode cX1_compareStrings 105 = .ok (.iand, 1) := by decide +kernel
theorem dX1_compareStrings_106 : decode cX1_compareStrings 106 = .ok (.goto 27, 3) := by decide +kernel
theorem dX1_compareStrings_109 : decode cX1_compareStrings 109 = .ok (.aload_n 0, 1) := by decide +kernel
theorem dX1_compareStrings_110 : decode cX1_compareStrings 110 = .ok (.getfield 11, 3) := by decide +kernel
theorem dX1_compareStrings_113 : decode cX1_compareStrings 113 = .ok (.iload_n 2, 1) := by decide +kernel
theorem dX1_compareStrings_114 : decode cX1_compareStrings 114 = .ok (.iconst 1, 1) := by decide +kernel
theorem dX1_compareStrings_115 : decode cX1_compareStrings 115 = .ok (.iadd, 1) := by decide +kernel
theorem dX1_compareStrings_116 : decode cX1_compareStrings 116 = .ok (.iload 5, 2) := by decide +kernel
theorem dX1_compareStrings_118 : decode cX1_compareStrings 118 = .ok (.iconst 2, 1) := by decide +kernel
theorem dX1_compareStrings_119 : decode cX1_compareStrings 119 = .ok (.ishr, 1) := by decide +kernel
theorem dX1_compareStrings_120 : decode cX1_compareStrings 120 = .ok (.iadd, 1) := by decide +kernel
theorem dX1_compareStrings_121 : decode cX1_compareStrings 121 = .ok (.iaload, 1) := by decide +kernel
theorem dX1_compareStrings_122 : decode cX1_compareStrings 122 = .ok (.iload 5, 2) := by decide +kernel
theorem dX1_compareStrings_124 : decode cX1_compareStrings 124 = .ok (.iconst 3, 1) := by decide +kernel
theorem dX1_compareStrings_125 : decode cX1_compareStrings 125 = .ok (.iand, 1) := by decide +kernel
theorem dX1_compareStrings_126 : decode cX1_compareStrings 126 = .ok (.iconst 3, 1) := by decide +kernel
theorem dX1_compareStrings_127 : decode cX1_compareStrings 127 = .ok (.ishl, 1) := by decide +kernel
theorem dX1_compareStrings_128 : decode cX1_compareStrings 128 = .ok (.iushr, 1) := by decide +kernel
theorem dX1_compareStrings_129 : decode cX1_compareStrings 129 = .ok (.sipush 255, 3) := by decide +kernel
theorem dX1_compareStrings_132 : decode cX1_compareStrings 132 = .ok (.iand, 1) := by decide +kernel
theorem dX1_compareStrings_133 : decode cX1_compareStrings 133 = .ok (.istore 7, 2) := by decide +kernel
theorem dX1_compareStrings_135 : decode cX1_compareStrings 135 = .ok (.iload 6, 2) := by decide +kernel
theorem dX1_compareStrings_137 : decode cX1_compareStrings 137 = .ok (.iload 7, 2) := by decide +kernel
theorem dX1_compareStrings_139 : decode cX1_compareStrings 139 = .ok (.if_icmp .eq 16, 3) := by decide +kernel
theorem dX1_compareStrings_142 : decode cX1_compareStrings 142 = .ok (.iload 6, 2) := by decide +kernel
theorem dX1_compareStrings_144 : decode cX1_compareStrings 144 = .ok (.iload 7, 2) := by decide +kernel
theorem dX1_compareStrings_146 : decode cX1_compareStrings 146 = .ok (.if_icmp .ge 7, 3) := by decide +kernel
theorem dX1_compareStrings_149 : decode cX1_compareStrings 149 = .ok (.iconst (-1), 1) := by decide +kernel
theorem dX1_compareStrings_150 : decode cX1_compareStrings 150 = .ok (.goto 4, 3) := by decide +kernel
theorem dX1_compareStrings_153 : decode cX1_compareStrings 153 = .ok (.iconst 1, 1) := by decide +kernel
theorem dX1_compareStrings_154 : decode cX1_compareStrings 154 = .ok (.ireturn, 1) := by decide +kernel
theorem dX1_compareStrings_155 : decode cX1_compareStrings 155 = .ok (.iinc 5 1, 3) := by decide +kernel
theorem dX1_compareStrings_158 : decode cX1_compareStrings 158 = .ok (.goto (-112), 3) := by decide +kernel
theorem dX1_compareStrings_161 : decode cX1_compareStrings 161 = .ok (.iload_n 3, 1) := by decide +kernel
theorem dX1_compareStrings_162 : decode cX1_compareStrings 162 = .ok (.iload 4, 2) := by decide +kernel
theorem dX1_compareStrings_164 : decode cX1_compareStrings 164 = .ok (.if_icmp .ne 7, 3) := by decide +kernel
theorem dX1_compareStrings_167 : decode cX1_compareStrings 167 = .ok (.iconst 0, 1) := by decide +kernel
theorem dX1_compareStrings_168 : decode cX1_compareStrings 168 = .ok (.goto 14, 3) := by decide +kernel
theorem dX1_compareStrings_171 : decode cX1_compareStrings 171 = .ok (.iload_n 3, 1) := by decide +kernel
theorem dX1_compareStrings_172 : decode cX1_compareStrings 172 = .ok (.iload 4, 2) := by decide +kernel
theorem dX1_compareStrings_174 : decode cX1_compareStrings 174 = .ok (.if_icmp .ge 7, 3) := by decide +kernel
theorem dX1_compareStrings_177 : decode cX1_compareStrings 177 = .ok (.iconst (-1), 1) := by decide +kernel
theorem dX1_compareStrings_178 : decode cX1_compareStrings 178 = .ok (.goto 4, 3) := by decide +kernel
theorem dX1_compareStrings_181 : decode cX1_compareStrings 181 = .ok (.iconst 1, 1) := by decide +kernel
theorem dX1_compareStrings_182 : decode cX1_compareStrings 182 = .ok (.ireturn, 1) := by decide +kernel
theorem dX1_compareWholes_0 : decode cX1_compareWholes 0 = .ok (.iload_n 1, 1) := by decide +kernel
theorem dX1_compareWholes_1 : decode cX1_compareWholes 1 = .ok (.ifCond .lt 19, 3) := by decide +kernel
theorem dX1_compareWholes_4 : decode cX1_compareWholes 4 = .ok (.aload_n 0, 1) := by decide +kernel
theorem dX1_compareWholes_5 : decode cX1_compareWholes 5 = .ok (.getfield 11, 3) := by decide +kernel
theorem dX1_compareWholes_8 : decode cX1_compareWholes 8 = .ok (.iload_n 1, 1) := by decide +kernel
theorem dX1_compareWholes_9 : decode cX1_compareWholes 9 = .ok (.iaload, 1) := by decide +kernel
theorem dX1_compareWholes_10 : decode cX1_compareWholes 10 = .ok (.bipush 8, 2) := by decide +kernel
theorem dX1_compareWholes_12 : decode cX1_compareWholes 12 = .ok (.iand, 1) := by decide +kernel
theorem dX1_compareWholes_13 : decode cX1_compareWholes 13 = .ok (.ifCond .eq 7, 3) := by decide +kernel
theorem dX1_compareWholes_16 : decode cX1_compareWholes 16 = .ok (.iconst 1, 1) := by decide +kernel
theorem dX1_compareWholes_17 : decode cX1_compareWholes 17 = .ok (.goto 4, 3) := by decide +kernel
theorem dX1_compareWholes_20 : decode cX1_compareWholes 20 = .ok (.iconst 0, 1) := by decide +kernel
theorem dX1_compareWholes_21 : decode cX1_compareWholes 21 = .ok (.istore_n 3, 1) := by decide +kernel
theorem dX1_compareWholes_22 : decode cX1_compareWholes 22 = .ok (.iload_n 2, 1) := by decide +kernel
theorem dX1_compareWholes_23 : decode cX1_compareWholes 23 = .ok (.ifCond .lt 19, 3) := by decide +kernel
theorem dX1_compareWholes_26 : decode cX1_compareWholes 26 = .ok (.aload_n 0, 1) := by decide +kernel
theorem dX1_compareWholes_27 : decode cX1_compareWholes 27 = .ok (.getfield 11, 3) := by decide +kernel
theorem dX1_compareWholes_30 : decode cX1_compareWholes 30 = .ok (.iload_n 2, 1) := by decide +kernel
theorem dX1_compareWholes_31 : decode cX1_compareWholes 31 = .ok (.iaload, 1) := by decide +kernel
theorem dX1_compareWholes_32 : decode cX1_compareWholes 32 = .ok (.bipush 8, 2) := by decide +kernel
theorem dX1_compareWholes_34 : decode cX1_compareWholes 34 = .ok (.iand, 1) := by decide +kernel
theorem dX1_compareWholes_35 : decode cX1_compareWholes 35 = .ok (.ifCond .eq 7, 3) := by decide +kernel
theorem dX1_compareWholes_38 : decode cX1_compareWholes 38 = .ok (.iconst 1, 1) := by decide +kernel
theorem dX1_compareWholes_39 : decode cX1_compareWholes 39 = .ok (.goto 4, 3) := by decide +kernel
theorem dX1_compareWholes_42 : decode cX1_compareWholes 42 = .ok (.iconst 0, 1) := by decide +kernel
theorem dX1_compareWholes_43 : decode cX1_compareWholes 43 = .ok (.istore 4, 2) := by decide +kernel
theorem dX1_compareWholes_45 : decode cX1_compareWholes 45 = .ok (.iload_n 1, 1) := by decide +kernel
theorem dX1_compareWholes_46 : decode cX1_compareWholes 46 = .ok (.ifCond .ge 14, 3) := by decide +kernel
theorem dX1_compareWholes_49 : decode cX1_compareWholes 49 = .ok (.iload 4, 2) := by decide +kernel
theorem dX1_compareWholes_51 : decode cX1_compareWholes 51 = .ok (.ifCond .eq 7, 3) := by decide +kernel
theorem dX1_compareWholes_54 : decode cX1_compareWholes 54 = .ok (.iconst 1, 1) := by decide +kernel
theorem dX1_compareWholes_55 : decode cX1_compareWholes 55 = .ok (.goto 4, 3) := by decide +kernel
theorem dX1_compareWholes_58 : decode cX1_compareWholes 58 = .ok (.iconst (-1), 1) := by decide +kernel
theorem dX1_compareWholes_59 : decode cX1_compareWholes 59 = .ok (.ireturn, 1) := by decide +kernel
theorem dX1_compareWholes_60 : decode cX1_compareWholes 60 = .ok (.iload_n 2, 1) := by decide +kernel
theorem dX1_compareWholes_61 : decode cX1_compareWholes 61 = .ok (.ifCond .lt 9, 3) := by decide +kernel
theorem dX1_compareWholes_64 : decode cX1_compareWholes 64 = .ok (.iload_n 3, 1) := by decide +kernel
theorem dX1_compareWholes_65 : decode cX1_compareWholes 65 = .ok (.iload 4, 2) := by decide +kernel
theorem dX1_compareWholes_67 : decode cX1_compareWholes 67 = .ok (.if_icmp .eq 13, 3) := by decide +kernel
theorem dX1_compareWholes_70 : decode cX1_compareWholes 70 = .ok (.iload_n 3, 1) := by decide +kernel
theorem dX1_compareWholes_71 : decode cX1_compareWholes 71 = .ok (.ifCond .eq 7, 3) := by decide +kernel
theorem dX1_compareWholes_74 : decode cX1_compareWholes 74 = .ok (.iconst (-1), 1) := by decide +kernel
theorem dX1_compareWholes_75 : decode cX1_compareWholes 75 = .ok (.goto 4, 3) := by decide +kernel
theorem dX1_compareWholes_78 : decode cX1_compareWholes 78 = .ok (.iconst 1, 1) := by decide +kernel
theorem dX1_compareWholes_79 : decode cX1_compareWholes 79 = .ok (.ireturn, 1) := by decide +kernel
theorem dX1_compareWholes_80 : decode cX1_compareWholes 80 = .ok (.aload_n 0, 1) := by decide +kernel
theorem dX1_compareWholes_81 : decode cX1_compareWholes 81 = .ok (.getfield 11, 3) := by decide +kernel
theorem dX1_compareWholes_84 : decode cX1_compareWholes 84 = .ok (.iload_n 1, 1) := by decide +kernel
theorem dX1_compareWholes_85 : decode cX1_compareWholes 85 = .ok (.iaload, 1) := by decide +kernel
theorem dX1_compareWholes_86 : decode cX1_compareWholes 86 = .ok (.iconst 4, 1) := by decide +kernel
theorem dX1_compareWholes_87 : decode cX1_compareWholes 87 = .ok (.iushr, 1) := by decide +kernel
theorem dX1_compareWholes_88 : decode cX1_compareWholes 88 = .ok (.sipush 4095, 3) := by decide +kernel
theorem dX1_compareWholes_91 : decode cX1_compareWholes 91 = .ok (.iand, 1) := by decide +kernel
theorem dX1_compareWholes_92 : decode cX1_compareWholes 92 = .ok (.istore 5, 2) := by decide +kernel
theorem dX1_compareWholes_94 : decode cX1_compareWholes 94 = .ok (.aload_n 0, 1) := by decide +kernel
theorem dX1_compareWholes_95 : decode cX1_compareWholes 95 = .ok (.getfield 11, 3) := by decide +kernel
theorem dX1_compareWholes_98 : decode cX1_compareWholes 98 = .ok (.iload_n 2, 1) := by decide +kernel
theorem dX1_compareWholes_99 : decode cX1_compareWholes 99 = .ok (.iaload, 1) := by decide +kernel
theorem dX1_compareWholes_100 : decode cX1_compareWholes 100 = .ok (.iconst 4, 1) := by decide +kernel
theorem dX1_compareWholes_101 : decode cX1_compareWholes 101 = .ok (.iushr, 1) := by decide +kernel
theorem dX1_compareWholes_102 : decode cX1_compareWholes 102 = .ok (.sipush 4095, 3) := by decide +kernel
theorem dX1_compareWholes_105 : decode cX1_compareWholes 105 = .ok (.iand, 1) := by decide +kernel
theorem dX1_compareWholes_106 : decode cX1_compareWholes 106 = .ok (.istore 6, 2) := by decide +kernel
theorem dX1_compareWholes_108 : decode cX1_compareWholes 108 = .ok (.iload 5, 2) := by decide +kernel
theorem dX1_compareWholes_110 : decode cX1_compareWholes 110 = .ok (.iload 6, 2) := by decide +kernel
theorem dX1_compareWholes_112 : decode cX1_compareWholes 112 = .ok (.if_icmp .ne 7, 3) := by decide +kernel
theorem dX1_compareWholes_115 : decode cX1_compareWholes 115 = .ok (.iconst 0, 1) := by decide +kernel
theorem dX1_compareWholes_116 : decode cX1_compareWholes 116 = .ok (.goto 15, 3) := by decide +kernel
theorem dX1_compareWholes_119 : decode cX1_compareWholes 119 = .ok (.iload 5, 2) := by decide +kernel
theorem dX1_compareWholes_121 : decode cX1_compareWholes 121 = .ok (.iload 6, 2) := by decide +kernel
theorem dX1_compareWholes_123 : decode cX1_compareWholes 123 = .ok (.if_icmp .ge 7, 3) := by decide +kernel
theorem dX1_compareWholes_126 : decode cX1_compareWholes 126 = .ok (.iconst (-1), 1) := by decide +kernel
theorem dX1_compareWholes_127 : decode cX1_compareWholes 127 = .ok (.goto 4, 3) := by decide +kernel
theorem dX1_compareWholes_130 : decode cX1_compareWholes 130 = .ok (.iconst 1, 1) := by decide +kernel
theorem dX1_compareWholes_131 : decode cX1_compareWholes 131 = .ok (.istore 7, 2) := by decide +kernel
theorem dX1_compareWholes_133 : decode cX1_compareWholes 133 = .ok (.iload 5, 2) := by decide +kernel
theorem dX1_compareWholes_135 : decode cX1_compareWholes 135 = .ok (.istore 8, 2) := by decide +kernel
theorem dX1_compareWholes_137 : decode cX1_compareWholes 137 = .ok (.iload 8, 2) := by decide +kernel
theorem dX1_compareWholes_139 : decode cX1_compareWholes 139 = .ok (.ifCond .le 67, 3) := by decide +kernel
theorem dX1_compareWholes_142 : decode cX1_compareWholes 142 = .ok (.iload 7, 2) := by decide +kernel
theorem dX1_compareWholes_144 : decode cX1_compareWholes 144 = .ok (.ifCond .ne 62, 3) := by decide +kernel
theorem dX1_compareWholes_147 : decode cX1_compareWholes 147 = .ok (.aload_n 0, 1) := by decide +kernel
theorem dX1_compareWholes_148 : decode cX1_compareWholes 148 = .ok (.getfield 11, 3) := by decide +kernel
theorem dX1_compareWholes_151 : decode cX1_compareWholes 151 = .ok (.iload_n 1, 1) := by decide +kernel
theorem dX1_compareWholes_152 : decode cX1_compareWholes 152 = .ok (.iload 8, 2) := by decide +kernel
theorem dX1_compareWholes_154 : decode cX1_compareWholes 154 = .ok (.iadd, 1) := by decide +kernel
theorem dX1_compareWholes_155 : decode cX1_compareWholes 155 = .ok (.iaload, 1) := by decide +kernel
theorem dX1_compareWholes_156 : decode cX1_compareWholes 156 = .ok (.ldc 44, 2) := by decide +kernel
theorem dX1_compareWholes_158 : decode cX1_compareWholes 158 = .ok (.ixor, 1) := by decide +kernel
theorem dX1_compareWholes_159 : decode cX1_compareWholes 159 = .ok (.istore 9, 2) := by decide +kernel
theorem dX1_compareWholes_161 : decode cX1_compareWholes 161 = .ok (.aload_n 0, 1) := by decide +kernel
theorem dX1_compareWholes_162 : decode cX1_compareWholes 162 = .ok (.getfield 11, 3) := by decide +kernel
theorem dX1_compareWholes_165 : decode cX1_compareWholes 165 = .ok (.iload_n 2, 1) := by decide +kernel
theorem dX1_compareWholes_166 : decode cX1_compareWholes 166 = .ok (.iload 8, 2) := by decide +kernel
theorem dX1_compareWholes_168 : decode cX1_compareWholes 168 = .ok (.iadd, 1) := by decide +kernel
theorem dX1_compareWholes_169 : decode cX1_compareWholes 169 = .ok (.iaload, 1) := by decide +kernel
theorem dX1_compareWholes_170 : decode cX1_compareWholes 170 = .ok (.ldc 44, 2) := by decide +kernel
theorem dX1_compareWholes_172 : decode cX1_compareWholes 172 = .ok (.ixor, 1) := by decide +kernel
theorem dX1_compareWholes_173 : decode cX1_compareWholes 173 = .ok (.istore 10, 2) := by decide +kernel
theorem dX1_compareWholes_175 : decode cX1_compareWholes 175 = .ok (.iload 9, 2) := by decide +kernel
theorem dX1_compareWholes_177 : decode cX1_compareWholes 177 = .ok (.iload 10, 2) := by decide +kernel
theorem dX1_compareWholes_179 : decode cX1_compareWholes 179 = .ok (.if_icmp .ne 7, 3) := by decide +kernel
theorem dX1_compareWholes_182 : decode cX1_compareWholes 182 = .ok (.iconst 0, 1) := by decide +kernel
theorem dX1_compareWholes_183 : decode cX1_compareWholes 183 = .ok (.goto 15, 3) := by decide +kernel
theorem dX1_compareWholes_186 : decode cX1_compareWholes 186 = .ok (.iload 9, 2) := by decide +kernel
theorem dX1_compareWholes_188 : decode cX1_compareWholes 188 = .ok (.iload 10, 2) := by decide +kernel
theorem dX1_compareWholes_190 : decode cX1_compareWholes 190 = .ok (.if_icmp .ge 7, 3) := by decide +kernel
theorem dX1_compareWholes_193 : decode cX1_compareWholes 193 = .ok (.iconst (-1), 1) := by decide +kernel
theorem dX1_compareWholes_194 : decode cX1_compareWholes 194 = .ok (.goto 4, 3) := by decide +kernel
theorem dX1_compareWholes_197 : decode cX1_compareWholes 197 = .ok (.iconst 1, 1) := by decide +kernel
theorem dX1_compareWholes_198 : decode cX1_compareWholes 198 = .ok (.istore 7, 2) := by decide +kernel
theorem dX1_compareWholes_200 : decode cX1_compareWholes 200 = .ok (.iinc 8 (-1), 3) := by decide +kernel
theorem dX1_compareWholes_203 : decode cX1_compareWholes 203 = .ok (.goto (-66), 3) := by decide +kernel
theorem dX1_compareWholes_206 : decode cX1_compareWholes 206 = .ok (.iload_n 3, 1) := by decide +kernel
theorem dX1_compareWholes_207 : decode cX1_compareWholes 207 = .ok (.ifCond .eq 9, 3) := by decide +kernel
theorem dX1_compareWholes_210 : decode cX1_compareWholes 210 = .ok (.iload 7, 2) := by decide +kernel
theorem dX1_compareWholes_212 : decode cX1_compareWholes 212 = .ok (.ineg, 1) := by decide +kernel
theorem dX1_compareWholes_213 : decode cX1_compareWholes 213 = .ok (.goto 5, 3) := by decide +kernel
theorem dX1_compareWholes_216 : decode cX1_compareWholes 216 = .ok (.iload 7, 2) := by decide +kernel
theorem dX1_compareWholes_218 : decode cX1_compareWholes 218 = .ok (.ireturn, 1) := by decide +kernel
theorem dX1_copyBytes_0 : decode cX1_copyBytes 0 = .ok (.iconst 0, 1) := by decide +kernel
theorem dX1_copyBytes_1 : decode cX1_copyBytes 1 = .ok (.istore 6, 2) := by decide +kernel
theorem dX1_copyBytes_3 : decode cX1_copyBytes 3 = .ok (.iload 6, 2) := by decide +kernel
theorem dX1_copyBytes_5 : decode cX1_copyBytes 5 = .ok (.iload_n 3, 1) := by decide +kernel
theorem dX1_copyBytes_6 : decode cX1_copyBytes 6 = .ok (.if_icmp .ge 63, 3) := by decide +kernel
theorem dX1_copyBytes_9 : decode cX1_copyBytes 9 = .ok (.iload 5, 2) := by decide +kernel
theorem dX1_copyBytes_11 : decode cX1_copyBytes 11 = .ok (.iload 6, 2) := by decide +kernel
theorem dX1_copyBytes_13 : decode cX1_copyBytes 13 = .ok (.iadd, 1) := by decide +kernel
theorem dX1_copyBytes_14 : decode cX1_copyBytes 14 = .ok (.aload 4, 2) := by decide +kernel
theorem dX1_copyBytes_16 : decode cX1_copyBytes 16 = .ok (.arraylength, 1) := by decide +kernel
theorem dX1_copyBytes_17 : decode cX1_copyBytes 17 = .ok (.if_icmp .ge 52, 3) := by decide +kernel
theorem dX1_copyBytes_20 : decode cX1_copyBytes 20 = .ok (.iload_n 2, 1) := by decide +kernel
theorem dX1_copyBytes_21 : decode cX1_copyBytes 21 = .ok (.iload 6, 2) := by decide +kernel
theorem dX1_copyBytes_23 : decode cX1_copyBytes 23 = .ok (.iadd, 1) := by decide +kernel
theorem dX1_copyBytes_24 : decode cX1_copyBytes 24 = .ok (.istore 7, 2) := by decide +kernel
theorem dX1_copyBytes_26 : decode cX1_copyBytes 26 = .ok (.aload 4, 2) := by decide +kernel
theorem dX1_copyBytes_28 : decode cX1_copyBytes 28 = .ok (.iload 5, 2) := by decide +kernel
theorem dX1_copyBytes_30 : decode cX1_copyBytes 30 = .ok (.iload 6, 2) := by decide +kernel
theorem dX1_copyBytes_32 : decode cX1_copyBytes 32 = .ok (.iadd, 1) := by decide +kernel
theorem dX1_copyBytes_33 : decode cX1_copyBytes 33 = .ok (.iload_n 1, 1) := by decide +kernel
theorem dX1_copyBytes_34 : decode cX1_copyBytes 34 = .ok (.ifCond .ge 7, 3) := by decide +kernel
theorem dX1_copyBytes_37 : decode cX1_copyBytes 37 = .ok (.iload_n 1, 1) := by decide +kernel
theorem dX1_copyBytes_38 : decode cX1_copyBytes 38 = .ok (.goto 23, 3) := by decide +kernel
theorem dX1_copyBytes_41 : decode cX1_copyBytes 41 = .ok (.aload_n 0, 1) := by decide +kernel
theorem dX1_copyBytes_42 : decode cX1_copyBytes 42 = .ok (.getfield 11, 3) := by decide +kernel
theorem dX1_copyBytes_45 : decode cX1_copyBytes 45 = .ok (.iload_n 1, 1) := by decide +kernel
theorem dX1_copyBytes_46 : decode cX1_copyBytes 46 = .ok (.iconst 1, 1) := by decide +kernel
theorem dX1_copyBytes_47 : decode cX1_copyBytes 47 = .ok (.iadd, 1) := by decide +kernel
theorem dX1_copyBytes_48 : decode cX1_copyBytes 48 = .ok (.iload 7, 2) := by decide +kernel
theorem dX1_copyBytes_50 : decode cX1_copyBytes 50 = .ok (.iconst 2, 1) := by decide +kernel
theorem dX1_copyBytes_51 : decode cX1_copyBytes 51 = .ok (.ishr, 1) := by decide +kernel
theorem dX1_copyBytes_52 : decode cX1_copyBytes 52 = .ok (.iadd, 1) := by decide +kernel
theorem dX1_copyBytes_53 : decode cX1_copyBytes 53 = .ok (.iaload, 1) := by decide +kernel
theorem dX1_copyBytes_54 : decode cX1_copyBytes 54 = .ok (.iload 7, 2) := by decide +kernel
theorem dX1_copyBytes_56 : decode cX1_copyBytes 56 = .ok (.iconst 3, 1) := by decide +kernel
theorem dX1_copyBytes_57 : decode cX1_copyBytes 57 = .ok (.iand, 1) := by decide +kernel
theorem dX1_copyBytes_58 : decode cX1_copyBytes 58 = .ok (.iconst 3, 1) := by decide +kernel
theorem dX1_copyBytes_59 : decode cX1_copyBytes 59 = .ok (.ishl, 1) := by decide +kernel
theorem dX1_copyBytes_60 : decode cX1_copyBytes 60 = .ok (.iushr, 1) := by decide +kernel
theorem dX1_copyBytes_61 : decode cX1_copyBytes 61 = .ok (.i2b, 1) := by decide +kernel
theorem dX1_copyBytes_62 : decode cX1_copyBytes 62 = .ok (.bastore, 1) := by decide +kernel
theorem dX1_copyBytes_63 : decode cX1_copyBytes 63 = .ok (.iinc 6 1, 3) := by decide +kernel
theorem dX1_copyBytes_66 : decode cX1_copyBytes 66 = .ok (.goto (-63), 3) := by decide +kernel
theorem dX1_copyBytes_69 : decode cX1_copyBytes 69 = .ok (.iload 5, 2) := by decide +kernel
theorem dX1_copyBytes_71 : decode cX1_copyBytes 71 = .ok (.iload_n 3, 1) := by decide +kernel
theorem dX1_copyBytes_72 : decode cX1_copyBytes 72 = .ok (.iadd, 1) := by decide +kernel
theorem dX1_copyBytes_73 : decode cX1_copyBytes 73 = .ok (.ireturn, 1) := by decide +kernel
theorem dX1_endMarking_0 : decode cX1_endMarking 0 = .ok (.iconst 0, 1) := by decide +kernel
theorem dX1_endMarking_1 : decode cX1_endMarking 1 = .ok (.istore_n 1, 1) := by decide +kernel
theorem dX1_endMarking_2 : decode cX1_endMarking 2 = .ok (.iconst 0, 1) := by decide +kernel
theorem dX1_endMarking_3 : decode cX1_endMarking 3 = .ok (.istore_n 2, 1) := by decide +kernel
theorem dX1_endMarking_4 : decode cX1_endMarking 4 = .ok (.iload_n 2, 1) := by decide +kernel
theorem dX1_endMarking_5 : decode cX1_endMarking 5 = .ok (.aload_n 0, 1) := by decide +kernel
theorem dX1_endMarking_6 : decode cX1_endMarking 6 = .ok (.getfield 19, 3) := by decide +kernel
theorem dX1_endMarking_9 : decode cX1_endMarking 9 = .ok (.arraylength, 1) := by decide +kernel
theorem dX1_endMarking_10 : decode cX1_endMarking 10 = .ok (.if_icmp .ge 28, 3) := by decide +kernel
theorem dX1_endMarking_13 : decode cX1_endMarking 13 = .ok (.aload_n 0, 1) := by decide +kernel
theorem dX1_endMarking_14 : decode cX1_endMarking 14 = .ok (.getfield 22, 3) := by decide +kernel
theorem dX1_endMarking_17 : decode cX1_endMarking 17 = .ok (.iload_n 2, 1) := by decide +kernel
theorem dX1_endMarking_18 : decode cX1_endMarking 18 = .ok (.iload_n 1, 1) := by decide +kernel
theorem dX1_endMarking_19 : decode cX1_endMarking 19 = .ok (.iastore, 1) := by decide +kernel
theorem dX1_endMarking_20 : decode cX1_endMarking 20 = .ok (.iload_n 1, 1) := by decide +kernel
theorem dX1_endMarking_21 : decode cX1_endMarking 21 = .ok (.aload_n 0, 1) := by decide +kernel
theorem dX1_endMarking_22 : decode cX1_endMarking 22 = .ok (.getfield 19, 3) := by decide +kernel
theorem dX1_endMarking_25 : decode cX1_endMarking 25 = .ok (.iload_n 2, 1) := by decide +kernel
theorem dX1_endMarking_26 : decode cX1_endMarking 26 = .ok (.iaload, 1) := by decide +kernel
theorem dX1_endMarking_27 : decode cX1_endMarking 27 = .ok (.invokestatic 89, 3) := by decide +kernel
theorem dX1_endMarking_30 : decode cX1_endMarking 30 = .ok (.iadd, 1) := by decide +kernel
theorem dX1_endMarking_31 : decode cX1_endMarking 31 = .ok (.istore_n 1, 1) := by decide +kernel
theorem dX1_endMarking_32 : decode cX1_endMarking 32 = .ok (.iinc 2 1, 3) := by decide +kernel
theorem dX1_endMarking_35 : decode cX1_endMarking 35 = .ok (.goto (-31), 3) := by decide +kernel
theorem dX1_endMarking_38 : decode cX1_endMarking 38 = .ok (.return_, 1) := by decide +kernel
theorem dX1_flagged_0 : decode cX1_flagged 0 = .ok (.iload_n 1, 1) := by decide +kernel
theorem dX1_flagged_1 : decode cX1_flagged 1 = .ok (.ifCond .lt 19, 3) := by decide +kernel
theorem dX1_flagged_4 : decode cX1_flagged 4 = .ok (.aload_n 0, 1) := by decide +kernel
theorem dX1_flagged_5 : decode cX1_flagged 5 = .ok (.getfield 11, 3) := by decide +kernel
theorem dX1_flagged_8 : decode cX1_flagged 8 = .ok (.iload_n 1, 1) := by decide +kernel
theorem dX1_flagged_9 : decode cX1_flagged 9 = .ok (.iaload, 1) := by decide +kernel
theorem dX1_flagged_10 : decode cX1_flagged 10 = .ok (.bipush 8, 2) := by decide +kernel
theorem dX1_flagged_12 : decode cX1_flagged 12 = .ok (.iand, 1) := by decide +kernel
theorem dX1_flagged_13 : decode cX1_flagged 13 = .ok (.ifCond .eq 7, 3) := by decide +kernel
theorem dX1_flagged_16 : decode cX1_flagged 16 = .ok (.iconst 1, 1) := by decide +kernel
theorem dX1_flagged_17 : decode cX1_flagged 17 = .ok (.goto 4, 3) := by decide +kernel
theorem dX1_flagged_20 : decode cX1_flagged 20 = .ok (.iconst 0, 1) := by decide +kernel
theorem dX1_flagged_21 : decode cX1_flagged 21 = .ok (.ireturn, 1) := by decide +kernel
theorem dX1_header_0 : decode cX1_header 0 = .ok (.iload_n 0, 1) := by decide +kernel
theorem dX1_header_1 : decode cX1_header 1 = .ok (.iload_n 1, 1) := by decide +kernel
theorem dX1_header_2 : decode cX1_header 2 = .ok (.iconst 3, 1) := by decide +kernel
theorem dX1_header_3 : decode cX1_header 3 = .ok (.ishl, 1) := by decide +kernel
theorem dX1_header_4 : decode cX1_header 4 = .ok (.ior, 1) := by decide +kernel
theorem dX1_header_5 : decode cX1_header 5 = .ok (.iload_n 2, 1) := by decide +kernel
theorem dX1_header_6 : decode cX1_header 6 = .ok (.iconst 4, 1) := by decide +kernel
theorem dX1_header_7 : decode cX1_header 7 = .ok (.ishl, 1) := by decide +kernel
theorem dX1_header_8 : decode cX1_header 8 = .ok (.ior, 1) := by decide +kernel
theorem dX1_header_9 : decode cX1_header 9 = .ok (.iload_n 3, 1) := by decide +kernel
theorem dX1_header_10 : decode cX1_header 10 = .ok (.bipush 16, 2) := by decide +kernel
theorem dX1_header_12 : decode cX1_header 12 = .ok (.ishl, 1) := by decide +kernel
theorem dX1_header_13 : decode cX1_header 13 = .ok (.ior, 1) := by decide +kernel
theorem dX1_header_14 : decode cX1_header 14 = .ok (.iload 4, 2) := by decide +kernel
theorem dX1_header_16 : decode cX1_header 16 = .ok (.bipush 26, 2) := by decide +kernel
theorem dX1_header_18 : decode cX1_header 18 = .ok (.ishl, 1) := by decide +kernel
theorem dX1_header_19 : decode cX1_header 19 = .ok (.ior, 1) := by decide +kernel
theorem dX1_header_20 : decode cX1_header 20 = .ok (.ireturn, 1) := by decide +kernel
theorem dX1_isMap_0 : decode cX1_isMap 0 = .ok (.aload_n 0, 1) := by decide +kernel
theorem dX1_isMap_1 : decode cX1_isMap 1 = .ok (.iload_n 1, 1) := by decide +kernel
theorem dX1_isMap_2 : decode cX1_isMap 2 = .ok (.invokevirtual 36, 3) := by decide +kernel
theorem dX1_isMap_5 : decode cX1_isMap 5 = .ok (.bipush 6, 2) := by decide +kernel
theorem dX1_isMap_7 : decode cX1_isMap 7 = .ok (.if_icmp .ne 15, 3) := by decide +kernel
theorem dX1_isMap_10 : decode cX1_isMap 10 = .ok (.aload_n 0, 1) := by decide +kernel
theorem dX1_isMap_11 : decode cX1_isMap 11 = .ok (.iload_n 1, 1) := by decide +kernel
theorem dX1_isMap_12 : decode cX1_isMap 12 = .ok (.invokevirtual 40, 3) := by decide +kernel
theorem dX1_isMap_15 : decode cX1_isMap 15 = .ok (.ifCond .eq 7, 3) := by decide +kernel
theorem dX1_isMap_18 : decode cX1_isMap 18 = .ok (.iconst 1, 1) := by decide +kernel
theorem dX1_isMap_19 : decode cX1_isMap 19 = .ok (.goto 4, 3) := by decide +kernel
theorem dX1_isMap_22 : decode cX1_isMap 22 = .ok (.iconst 0, 1) := by decide +kernel
theorem dX1_isMap_23 : decode cX1_isMap 23 = .ok (.ireturn, 1) := by decide +kernel
theorem dX1_isScarce_0 : decode cX1_isScarce 0 = .ok (.aload_n 0, 1) := by decide +kernel
theorem dX1_isScarce_1 : decode cX1_isScarce 1 = .ok (.getfield 11, 3) := by decide +kernel
theorem dX1_isScarce_4 : decode cX1_isScarce 4 = .ok (.arraylength, 1) := by decide +kernel
theorem dX1_isScarce_5 : decode cX1_isScarce 5 = .ok (.aload_n 0, 1) := by decide +kernel
theorem dX1_isScarce_6 : decode cX1_isScarce 6 = .ok (.getfield 15, 3) := by decide +kernel
theorem dX1_isScarce_9 : decode cX1_isScarce 9 = .ok (.isub, 1) := by decide +kernel
theorem dX1_isScarce_10 : decode cX1_isScarce 10 = .ok (.aload_n 0, 1) := by decide +kernel
theorem dX1_isScarce_11 : decode cX1_isScarce 11 = .ok (.getfield 11, 3) := by decide +kernel
theorem dX1_isScarce_14 : decode cX1_isScarce 14 = .ok (.arraylength, 1) := by decide +kernel
theorem dX1_isScarce_15 : decode cX1_isScarce 15 = .ok (.bipush 8, 2) := by decide +kernel
theorem dX1_isScarce_17 : decode cX1_isScarce 17 = .ok (.idiv, 1) := by decide +kernel
theorem dX1_isScarce_18 : decode cX1_isScarce 18 = .ok (.if_icmp .ge 7, 3) := by decide +kernel
theorem dX1_isScarce_21 : decode cX1_isScarce 21 = .ok (.iconst 1, 1) := by decide +kernel
theorem dX1_isScarce_22 : decode cX1_isScarce 22 = .ok (.goto 4, 3) := by decide +kernel
theorem dX1_isScarce_25 : decode cX1_isScarce 25 = .ok (.iconst 0, 1) := by decide +kernel
theorem dX1_isScarce_26 : decode cX1_isScarce 26 = .ok (.ireturn, 1) := by decide +kernel
theorem dX1_isTight_0 : decode cX1_isTight 0 = .ok (.aload_n 0, 1) := by decide +kernel
theorem dX1_isTight_1 : decode cX1_isTight 1 = .ok (.getfield 11, 3) := by decide +kernel
theorem dX1_isTight_4 : decode cX1_isTight 4 = .ok (.arraylength, 1) := by decide +kernel
theorem dX1_isTight_5 : decode cX1_isTight 5 = .ok (.aload_n 0, 1) := by decide +kernel
theorem dX1_isTight_6 : decode cX1_isTight 6 = .ok (.getfield 15, 3) := by decide +kernel
theorem dX1_isTight_9 : decode cX1_isTight 9 = .ok (.isub, 1) := by decide +kernel
theorem dX1_isTight_10 : decode cX1_isTight 10 = .ok (.sipush 4000, 3) := by decide +kernel
theorem dX1_isTight_13 : decode cX1_isTight 13 = .ok (.if_icmp .ge 7, 3) := by decide +kernel
theorem dX1_isTight_16 : decode cX1_isTight 16 = .ok (.iconst 1, 1) := by decide +kernel
theorem dX1_isTight_17 : decode cX1_isTight 17 = .ok (.goto 4, 3) := by decide +kernel
theorem dX1_isTight_20 : decode cX1_isTight 20 = .ok (.iconst 0, 1) := by decide +kernel
theorem dX1_isTight_21 : decode cX1_isTight 21 = .ok (.ireturn, 1) := by decide +kernel
theorem dX1_kind_0 : decode cX1_kind 0 = .ok (.iload_n 1, 1) := by decide +kernel
theorem dX1_kind_1 : decode cX1_kind 1 = .ok (.ifCond .ge 13, 3) := by decide +kernel
theorem dX1_kind_4 : decode cX1_kind 4 = .ok (.iload_n 1, 1) := by decide +kernel
theorem dX1_kind_5 : decode cX1_kind 5 = .ok (.bipush 28, 2) := by decide +kernel
theorem dX1_kind_7 : decode cX1_kind 7 = .ok (.iushr, 1) := by decide +kernel
theorem dX1_kind_8 : decode cX1_kind 8 = .ok (.bipush 7, 2) := by decide +kernel
theorem dX1_kind_10 : decode cX1_kind 10 = .ok (.iand, 1) := by decide +kernel
theorem dX1_kind_11 : decode cX1_kind 11 = .ok (.goto 12, 3) := by decide +kernel
theorem dX1_kind_14 : decode cX1_kind 14 = .ok (.aload_n 0, 1) := by decide +kernel
theorem dX1_kind_15 : decode cX1_kind 15 = .ok (.getfield 11, 3) := by decide +kernel
theorem dX1_kind_18 : decode cX1_kind 18 = .ok (.iload_n 1, 1) := by decide +kernel
theorem dX1_kind_19 : decode cX1_kind 19 = .ok (.iaload, 1) := by decide +kernel
theorem dX1_kind_20 : decode cX1_kind 20 = .ok (.bipush 7, 2) := by decide +kernel
theorem dX1_kind_22 : decode cX1_kind 22 = .ok (.iand, 1) := by decide +kernel
theorem dX1_kind_23 : decode cX1_kind 23 = .ok (.ireturn, 1) := by decide +kernel
theorem dX1_length_0 : decode cX1_length 0 = .ok (.iload_n 1, 1) := by decide +kernel
theorem dX1_length_1 : decode cX1_length 1 = .ok (.ifCond .ge 18, 3) := by decide +kernel
theorem dX1_length_4 : decode cX1_length 4 = .ok (.iload_n 1, 1) := by decide +kernel
theorem dX1_length_5 : decode cX1_length 5 = .ok (.ldc 33, 2) := by decide +kernel
theorem dX1_length_7 : decode cX1_length 7 = .ok (.iand, 1) := by decide +kernel
theorem dX1_length_8 : decode cX1_length 8 = .ok (.ldc 34, 2) := by decide +kernel
theorem dX1_length_10 : decode cX1_length 10 = .ok (.if_icmp .ne 7, 3) := by decide +kernel
theorem dX1_length_13 : decode cX1_length 13 = .ok (.iconst 1, 1) := by decide +kernel
theorem dX1_length_14 : decode cX1_length 14 = .ok (.goto 4, 3) := by decide +kernel
theorem dX1_length_17 : decode cX1_length 17 = .ok (.iconst 0, 1) := by decide +kernel
theorem dX1_length_18 : decode cX1_length 18 = .ok (.ireturn, 1) := by decide +kernel
theorem dX1_length_19 : decode cX1_length 19 = .ok (.aload_n 0, 1) := by decide +kernel
theorem dX1_length_20 : decode cX1_length 20 = .ok (.getfield 11, 3) := by decide +kernel
theorem dX1_length_23 : decode cX1_length 23 = .ok (.iload_n 1, 1) := by decide +kernel
theorem dX1_length_24 : decode cX1_length 24 = .ok (.iaload, 1) := by decide +kernel
theorem dX1_length_25 : decode cX1_length 25 = .ok (.iconst 4, 1) := by decide +kernel
theorem dX1_length_26 : decode cX1_length 26 = .ok (.iushr, 1) := by decide +kernel
theorem dX1_length_27 : decode cX1_length 27 = .ok (.sipush 4095, 3) := by decide +kernel
theorem dX1_length_30 : decode cX1_length 30 = .ok (.iand, 1) := by decide +kernel
theorem dX1_length_31 : decode cX1_length 31 = .ok (.ireturn, 1) := by decide +kernel
theorem dX1_makeRow_0 : decode cX1_makeRow 0 = .ok (.iload 4, 2) := by decide +kernel
theorem dX1_makeRow_2 : decode cX1_makeRow 2 = .ok (.ifCond .gt 15, 3) := by decide +kernel
theorem dX1_makeRow_5 : decode cX1_makeRow 5 = .ok (.iload_n 1, 1) := by decide +kernel
theorem dX1_makeRow_6 : decode cX1_makeRow 6 = .ok (.bipush 6, 2) := by decide +kernel
theorem dX1_makeRow_8 : decode cX1_makeRow 8 = .ok (.if_icmp .ne 7, 3) := by decide +kernel
theorem dX1_makeRow_11 : decode cX1_makeRow 11 = .ok (.iconst 2, 1) := by decide +kernel
theorem dX1_makeRow_12 : decode cX1_makeRow 12 = .ok (.goto 4, 3) := by decide +kernel
theorem dX1_makeRow_15 : decode cX1_makeRow 15 = .ok (.iconst 1, 1) := by decide +kernel
theorem dX1_makeRow_16 : decode cX1_makeRow 16 = .ok (.ireturn, 1) := by decide +kernel
theorem dX1_makeRow_17 : decode cX1_makeRow 17 = .ok (.iconst 1, 1) := by decide +kernel
theorem dX1_makeRow_18 : decode cX1_makeRow 18 = .ok (.istore 5, 2) := by decide +kernel
theorem dX1_makeRow_20 : decode cX1_makeRow 20 = .ok (.iconst 0, 1) := by decide +kernel
theorem dX1_makeRow_21 : decode cX1_makeRow 21 = .ok (.istore 6, 2) := by decide +kernel
theorem dX1_makeRow_23 : decode cX1_makeRow 23 = .ok (.iload_n 1, 1) := by decide +kernel
theorem dX1_makeRow_24 : decode cX1_makeRow 24 = .ok (.bipush 6, 2) := by decide +kernel
theorem dX1_makeRow_26 : decode cX1_makeRow 26 = .ok (.if_icmp .ne 7, 3) := by decide +kernel
theorem dX1_makeRow_29 : decode cX1_makeRow 29 = .ok (.iconst 1, 1) := by decide +kernel
theorem dX1_makeRow_30 : decode cX1_makeRow 30 = .ok (.goto 4, 3) := by decide +kernel
theorem dX1_makeRow_33 : decode cX1_makeRow 33 = .ok (.iconst 0, 1) := by decide +kernel
theorem dX1_makeRow_34 : decode cX1_makeRow 34 = .ok (.istore 7, 2) := by decide +kernel
theorem dX1_makeRow_36 : decode cX1_makeRow 36 = .ok (.iload_n 3, 1) := by decide +kernel
theorem dX1_makeRow_37 : decode cX1_makeRow 37 = .ok (.istore 8, 2) := by decide +kernel
theorem dX1_makeRow_39 : decode cX1_makeRow 39 = .ok (.iload 8, 2) := by decide +kernel
theorem dX1_makeRow_41 : decode cX1_makeRow 41 = .ok (.iload_n 3, 1) := by decide +kernel
theorem dX1_makeRow_42 : decode cX1_makeRow 42 = .ok (.iload 4, 2) := by decide +kernel
theorem dX1_makeRow_44 : decode cX1_makeRow 44 = .ok (.iadd, 1) := by decide +kernel
theorem dX1_makeRow_45 : decode cX1_makeRow 45 = .ok (.if_icmp .ge 139, 3) := by decide +kernel
theorem dX1_makeRow_48 : decode cX1_makeRow 48 = .ok (.iload 5, 2) := by decide +kernel
theorem dX1_makeRow_50 : decode cX1_makeRow 50 = .ok (.sipush 1000, 3) := by decide +kernel
theorem dX1_makeRow_53 : decode cX1_makeRow 53 = .ok (.if_icmp .gt 131, 3) := by decide +kernel
theorem dX1_makeRow_56 : decode cX1_makeRow 56 = .ok (.aload_n 2, 1) := by decide +kernel
theorem dX1_makeRow_57 : decode cX1_makeRow 57 = .ok (.iload 8, 2) := by decide +kernel
theorem dX1_makeRow_59 : decode cX1_makeRow 59 = .ok (.iaload, 1) := by decide +kernel
theorem dX1_makeRow_60 : decode cX1_makeRow 60 = .ok (.istore 9, 2) := by decide +kernel
theorem dX1_makeRow_62 : decode cX1_makeRow 62 = .ok (.iload 9, 2) := by decide +kernel
theorem dX1_makeRow_64 : decode cX1_makeRow 64 = .ok (.ifCond .lt 73, 3) := by decide +kernel
theorem dX1_makeRow_67 : decode cX1_makeRow 67 = .ok (.aload_n 0, 1) := by decide +kernel
theorem dX1_makeRow_68 : decode cX1_makeRow 68 = .ok (.getfield 11, 3) := by decide +kernel
theorem dX1_makeRow_71 : decode cX1_makeRow 71 = .ok (.iload 9, 2) := by decide +kernel
theorem dX1_makeRow_73 : decode cX1_makeRow 73 = .ok (.iaload, 1) := by decide +kernel
theorem dX1_makeRow_74 : decode cX1_makeRow 74 = .ok (.istore 10, 2) := by decide +kernel
theorem dX1_makeRow_76 : decode cX1_makeRow 76 = .ok (.iload 5, 2) := by decide +kernel
theorem dX1_makeRow_78 : decode cX1_makeRow 78 = .ok (.iload 10, 2) := by decide +kernel
theorem dX1_makeRow_80 : decode cX1_makeRow 80 = .ok (.bipush 16, 2) := by decide +kernel
theorem dX1_makeRow_82 : decode cX1_makeRow 82 = .ok (.iushr, 1) := by decide +kernel
theorem dX1_makeRow_83 : decode cX1_makeRow 83 = .ok (.sipush 1023, 3) := by decide +kernel
theorem dX1_makeRow_86 : decode cX1_makeRow 86 = .ok (.iand, 1) := by decide +kernel
theorem dX1_makeRow_87 : decode cX1_makeRow 87 = .ok (.iadd, 1) := by decide +kernel
theorem dX1_makeRow_88 : decode cX1_makeRow 88 = .ok (.istore 5, 2) := by decide +kernel
theorem dX1_makeRow_90 : decode cX1_makeRow 90 = .ok (.iload 6, 2) := by decide +kernel
theorem dX1_makeRow_92 : decode cX1_makeRow 92 = .ok (.iload 10, 2) := by decide +kernel
theorem dX1_makeRow_94 : decode cX1_makeRow 94 = .ok (.bipush 26, 2) := by decide +kernel
theorem dX1_makeRow_96 : decode cX1_makeRow 96 = .ok (.iushr, 1) := by decide +kernel
theorem dX1_makeRow_97 : decode cX1_makeRow 97 = .ok (.if_icmp .le 8, 3) := by decide +kernel
theorem dX1_makeRow_100 : decode cX1_makeRow 100 = .ok (.iload 6, 2) := by decide +kernel
theorem dX1_makeRow_102 : decode cX1_makeRow 102 = .ok (.goto 8, 3) := by decide +kernel
theorem dX1_makeRow_105 : decode cX1_makeRow 105 = .ok (.iload 10, 2) := by decide +kernel
theorem dX1_makeRow_107 : decode cX1_makeRow 107 = .ok (.bipush 26, 2) := by decide +kernel
theorem dX1_makeRow_109 : decode cX1_makeRow 109 = .ok (.iushr, 1) := by decide +kernel
theorem dX1_makeRow_110 : decode cX1_makeRow 110 = .ok (.istore 6, 2) := by decide +kernel
theorem dX1_makeRow_112 : decode cX1_makeRow 112 = .ok (.iload 7, 2) := by decide +kernel
theorem dX1_makeRow_114 : decode cX1_makeRow 114 = .ok (.ifCond .eq 17, 3) := by decide +kernel
theorem dX1_makeRow_117 : decode cX1_makeRow 117 = .ok (.iload 10, 2) := by decide +kernel
theorem dX1_makeRow_119 : decode cX1_makeRow 119 = .ok (.ldc 64, 2) := by decide +kernel
theorem dX1_makeRow_121 : decode cX1_makeRow 121 = .ok (.iand, 1) := by decide +kernel
theorem dX1_makeRow_122 : decode cX1_makeRow 122 = .ok (.bipush 37, 2) := by decide +kernel
theorem dX1_makeRow_124 : decode cX1_makeRow 124 = .ok (.if_icmp .ne 7, 3) := by decide +kernel
theorem dX1_makeRow_127 : decode cX1_makeRow 127 = .ok (.iconst 1, 1) := by decide +kernel
theorem dX1_makeRow_128 : decode cX1_makeRow 128 = .ok (.goto 4, 3) := by decide +kernel
theorem dX1_makeRow_131 : decode cX1_makeRow 131 = .ok (.iconst 0, 1) := by decide +kernel
theorem dX1_makeRow_132 : decode cX1_makeRow 132 = .ok (.istore 7, 2) := by decide +kernel
theorem dX1_makeRow_134 : decode cX1_makeRow 134 = .ok (.goto 44, 3) := by decide +kernel
theorem dX1_makeRow_137 : decode cX1_makeRow 137 = .ok (.iload 9, 2) := by decide +kernel
theorem dX1_makeRow_139 : decode cX1_makeRow 139 = .ok (.ldc 33, 2) := by decide +kernel
theorem dX1_makeRow_141 : decode cX1_makeRow 141 = .ok (.iand, 1) := by decide +kernel
theorem dX1_makeRow_142 : decode cX1_makeRow 142 = .ok (.istore 10, 2) := by decide +kernel
theorem dX1_makeRow_144 : decode cX1_makeRow 144 = .ok (.iload 5, 2) := by decide +kernel
theorem dX1_makeRow_146 : decode cX1_makeRow 146 = .ok (.iload 10, 2) := by decide +kernel
theorem dX1_makeRow_148 : decode cX1_makeRow 148 = .ok (.ldc 34, 2) := by decide +kernel
theorem dX1_makeRow_150 : decode cX1_makeRow 150 = .ok (.if_icmp .eq 17, 3) := by decide +kernel
theorem dX1_makeRow_153 : decode cX1_makeRow 153 = .ok (.iload 10, 2) := by decide +kernel
theorem dX1_makeRow_155 : decode cX1_makeRow 155 = .ok (.ldc 35, 2) := by decide +kernel
theorem dX1_makeRow_157 : decode cX1_makeRow 157 = .ok (.if_icmp .ne 14, 3) := by decide +kernel
theorem dX1_makeRow_160 : decode cX1_makeRow 160 = .ok (.iload 9, 2) := by decide +kernel
theorem dX1_makeRow_162 : decode cX1_makeRow 162 = .ok (.ldc 35, 2) := by decide +kernel
theorem dX1_makeRow_164 : decode cX1_makeRow 164 = .ok (.if_icmp .eq 7, 3) := by decide +kernel
theorem dX1_makeRow_167 : decode cX1_makeRow 167 = .ok (.iconst 2, 1) := by decide +kernel
theorem dX1_makeRow_168 : decode cX1_makeRow 168 = .ok (.goto 4, 3) := by decide +kernel
theorem dX1_makeRow_171 : decode cX1_makeRow 171 = .ok (.iconst 1, 1) := by decide +kernel
theorem dX1_makeRow_172 : decode cX1_makeRow 172 = .ok (.iadd, 1) := by decide +kernel
theorem dX1_makeRow_173 : decode cX1_makeRow 173 = .ok (.istore 5, 2) := by decide +kernel
theorem dX1_makeRow_175 : decode cX1_makeRow 175 = .ok (.iconst 0, 1) := by decide +kernel
theorem dX1_makeRow_176 : decode cX1_makeRow 176 = .ok (.istore 7, 2) := by decide +kernel
theorem dX1_makeRow_178 : decode cX1_makeRow 178 = .ok (.iinc 8 1, 3) := by decide +kernel
theorem dX1_makeRow_181 : decode cX1_makeRow 181 = .ok (.goto (-142), 3) := by decide +kernel
theorem dX1_makeRow_184 : decode cX1_makeRow 184 = .ok (.iload 5, 2) := by decide +kernel
theorem dX1_makeRow_186 : decode cX1_makeRow 186 = .ok (.sipush 1000, 3) := by decide +kernel
theorem dX1_makeRow_189 : decode cX1_makeRow 189 = .ok (.if_icmp .gt 10, 3) := by decide +kernel
theorem dX1_makeRow_192 : decode cX1_makeRow 192 = .ok (.iload 6, 2) := by decide +kernel
theorem dX1_makeRow_194 : decode cX1_makeRow 194 = .ok (.bipush 30, 2) := by decide +kernel
theorem dX1_makeRow_196 : decode cX1_makeRow 196 = .ok (.if_icmp .lt 6, 3) := by decide +kernel
theorem dX1_makeRow_199 : decode cX1_makeRow 199 = .ok (.ldc 52, 2) := by decide +kernel
theorem dX1_makeRow_201 : decode cX1_makeRow 201 = .ok (.ireturn, 1) := by decide +kernel
theorem dX1_makeRow_202 : decode cX1_makeRow 202 = .ok (.aload_n 0, 1) := by decide +kernel
theorem dX1_makeRow_203 : decode cX1_makeRow 203 = .ok (.getfield 15, 3) := by decide +kernel
theorem dX1_makeRow_206 : decode cX1_makeRow 206 = .ok (.istore 8, 2) := by decide +kernel
theorem dX1_makeRow_208 : decode cX1_makeRow 208 = .ok (.iconst 1, 1) := by decide +kernel
theorem dX1_makeRow_209 : decode cX1_makeRow 209 = .ok (.iload 4, 2) := by decide +kernel
theorem dX1_makeRow_211 : decode cX1_makeRow 211 = .ok (.iadd, 1) := by decide +kernel
theorem dX1_makeRow_212 : decode cX1_makeRow 212 = .ok (.aload_n 0, 1) := by decide +kernel
theorem dX1_makeRow_213 : decode cX1_makeRow 213 = .ok (.getfield 11, 3) := by decide +kernel
theorem dX1_makeRow_216 : decode cX1_makeRow 216 = .ok (.arraylength, 1) := by decide +kernel
theorem dX1_makeRow_217 : decode cX1_makeRow 217 = .ok (.iload 8, 2) := by decide +kernel
theorem dX1_makeRow_219 : decode cX1_makeRow 219 = .ok (.isub, 1) := by decide +kernel
theorem dX1_makeRow_220 : decode cX1_makeRow 220 = .ok (.if_icmp .le 6, 3) := by decide +kernel
theorem dX1_makeRow_223 : decode cX1_makeRow 223 = .ok (.ldc 53, 2) := by decide +kernel
theorem dX1_makeRow_225 : decode cX1_makeRow 225 = .ok (.ireturn, 1) := by decide +kernel
theorem dX1_makeRow_226 : decode cX1_makeRow 226 = .ok (.aload_n 0, 1) := by decide +kernel
theorem dX1_makeRow_227 : decode cX1_makeRow 227 = .ok (.iload 8, 2) := by decide +kernel
theorem dX1_makeRow_229 : decode cX1_makeRow 229 = .ok (.iconst 1, 1) := by decide +kernel
theorem dX1_makeRow_230 : decode cX1_makeRow 230 = .ok (.iadd, 1) := by decide +kernel
theorem dX1_makeRow_231 : decode cX1_makeRow 231 = .ok (.iload 4, 2) := by decide +kernel
theorem dX1_makeRow_233 : decode cX1_makeRow 233 = .ok (.iadd, 1) := by decide +kernel
theorem dX1_makeRow_234 : decode cX1_makeRow 234 = .ok (.putfield 15, 3) := by decide +kernel
theorem dX1_makeRow_237 : decode cX1_makeRow 237 = .ok (.aload_n 0, 1) := by decide +kernel
theorem dX1_makeRow_238 : decode cX1_makeRow 238 = .ok (.getfield 11, 3) := by decide +kernel
theorem dX1_makeRow_241 : decode cX1_makeRow 241 = .ok (.iload 8, 2) := by decide +kernel
theorem dX1_makeRow_243 : decode cX1_makeRow 243 = .ok (.iload_n 1, 1) := by decide +kernel
theorem dX1_makeRow_244 : decode cX1_makeRow 244 = .ok (.iload 7, 2) := by decide +kernel
theorem dX1_makeRow_246 : decode cX1_makeRow 246 = .ok (.ifCond .eq 8, 3) := by decide +kernel
theorem dX1_makeRow_249 : decode cX1_makeRow 249 = .ok (.bipush 8, 2) := by decide +kernel
theorem dX1_makeRow_251 : decode cX1_makeRow 251 = .ok (.goto 4, 3) := by decide +kernel
theorem dX1_makeRow_254 : decode cX1_makeRow 254 = .ok (.iconst 0, 1) := by decide +kernel
theorem dX1_makeRow_255 : decode cX1_makeRow 255 = .ok (.ior, 1) := by decide +kernel
theorem dX1_makeRow_256 : decode cX1_makeRow 256 = .ok (.iload 4, 2) := by decide +kernel
theorem dX1_makeRow_258 : decode cX1_makeRow 258 = .ok (.iconst 4, 1) := by decide +kernel
theorem dX1_makeRow_259 : decode cX1_makeRow 259 = .ok (.ishl, 1) := by decide +kernel
theorem dX1_makeRow_260 : decode cX1_makeRow 260 = .ok (.ior, 1) := by decide +kernel
theorem dX1_makeRow_261 : decode cX1_makeRow 261 = .ok (.iload 5, 2) := by decide +kernel
theorem dX1_makeRow_263 : decode cX1_makeRow 263 = .ok (.bipush 16, 2) := by decide +kernel
theorem dX1_makeRow_265 : decode cX1_makeRow 265 = .ok (.ishl, 1) := by decide +kernel
theorem dX1_makeRow_266 : decode cX1_makeRow 266 = .ok (.ior, 1) := by decide +kernel
theorem dX1_makeRow_267 : decode cX1_makeRow 267 = .ok (.iload 6, 2) := by decide +kernel
theorem dX1_makeRow_269 : decode cX1_makeRow 269 = .ok (.iconst 1, 1) := by decide +kernel
theorem dX1_makeRow_270 : decode cX1_makeRow 270 = .ok (.iadd, 1) := by decide +kernel
theorem dX1_makeRow_271 : decode cX1_makeRow 271 = .ok (.bipush 26, 2) := by decide +kernel
theorem dX1_makeRow_273 : decode cX1_makeRow 273 = .ok (.ishl, 1) := by decide +kernel
theorem dX1_makeRow_274 : decode cX1_makeRow 274 = .ok (.ior, 1) := by decide +kernel
theorem dX1_makeRow_275 : decode cX1_makeRow 275 = .ok (.iastore, 1) := by decide +kernel
theorem dX1_makeRow_276 : decode cX1_makeRow 276 = .ok (.aload_n 2, 1) := by decide +kernel
theorem dX1_makeRow_277 : decode cX1_makeRow 277 = .ok (.iload_n 3, 1) := by decide +kernel
theorem dX1_makeRow_278 : decode cX1_makeRow 278 = .ok (.aload_n 0, 1) := by decide +kernel
theorem dX1_makeRow_279 : decode cX1_makeRow 279 = .ok (.getfield 11, 3) := by decide +kernel
theorem dX1_makeRow_282 : decode cX1_makeRow 282 = .ok (.iload 8, 2) := by decide +kernel
theorem dX1_makeRow_284 : decode cX1_makeRow 284 = .ok (.iconst 1, 1) := by decide +kernel
theorem dX1_makeRow_285 : decode cX1_makeRow 285 = .ok (.iadd, 1) := by decide +kernel
theorem dX1_makeRow_286 : decode cX1_makeRow 286 = .ok (.iload 4, 2) := by decide +kernel
theorem dX1_makeRow_288 : decode cX1_makeRow 288 = .ok (.invokestatic 54, 3) := by decide +kernel
theorem dX1_makeRow_291 : decode cX1_makeRow 291 = .ok (.iload 8, 2) := by decide +kernel
theorem dX1_makeRow_293 : decode cX1_makeRow 293 = .ok (.ireturn, 1) := by decide +kernel
theorem dX1_makeString_0 : decode cX1_makeString 0 = .ok (.iload_n 3, 1) := by decide +kernel
theorem dX1_makeString_1 : decode cX1_makeString 1 = .ok (.iconst 1, 1) := by decide +kernel
theorem dX1_makeString_2 : decode cX1_makeString 2 = .ok (.if_icmp .gt 22, 3) := by decide +kernel
theorem dX1_makeString_5 : decode cX1_makeString 5 = .ok (.iload_n 3, 1) := by decide +kernel
theorem dX1_makeString_6 : decode cX1_makeString 6 = .ok (.ifCond .gt 7, 3) := by decide +kernel
theorem dX1_makeString_9 : decode cX1_makeString 9 = .ok (.iconst 0, 1) := by decide +kernel
theorem dX1_makeString_10 : decode cX1_makeString 10 = .ok (.goto 13, 3) := by decide +kernel
theorem dX1_makeString_13 : decode cX1_makeString 13 = .ok (.ldc 34, 2) := by decide +kernel
theorem dX1_makeString_15 : decode cX1_makeString 15 = .ok (.aload_n 1, 1) := by decide +kernel
theorem dX1_makeString_16 : decode cX1_makeString 16 = .ok (.iload_n 2, 1) := by decide +kernel
theorem dX1_makeString_17 : decode cX1_makeString 17 = .ok (.baload, 1) := by decide +kernel
theorem dX1_makeString_18 : decode cX1_makeString 18 = .ok (.sipush 255, 3) := by decide +kernel
theorem dX1_makeString_21 : decode cX1_makeString 21 = .ok (.iand, 1) := by decide +kernel
theorem dX1_makeString_22 : decode cX1_makeString 22 = .ok (.ior, 1) := by decide +kernel
theorem dX1_makeString_23 : decode cX1_makeString 23 = .ok (.ireturn, 1) := by decide +kernel
theorem dX1_makeString_24 : decode cX1_makeString 24 = .ok (.iload_n 3, 1) := by decide +kernel
theorem dX1_makeString_25 : decode cX1_makeString 25 = .ok (.iconst 3, 1) := by decide +kernel
theorem dX1_makeString_26 : decode cX1_makeString 26 = .ok (.iadd, 1) := by decide +kernel
theorem dX1_makeString_27 : decode cX1_makeString 27 = .ok (.iconst 2, 1) := by decide +kernel
theorem dX1_makeString_28 : decode cX1_makeString 28 = .ok (.ishr, 1) := by decide +kernel
theorem dX1_makeString_29 : decode cX1_makeString 29 = .ok (.istore 4, 2) := by decide +kernel
theorem dX1_makeString_31 : decode cX1_makeString 31 = .ok (.iload 4, 2) := by decide +kernel
theorem dX1_makeString_33 : decode cX1_makeString 33 = .ok (.sipush 1000, 3) := by decide +kernel
theorem dX1_makeString_36 : decode cX1_makeString 36 = .ok (.if_icmp .lt 6, 3) := by decide +kernel
theorem dX1_makeString_39 : decode cX1_makeString 39 = .ok (.ldc 52, 2) := by decide +kernel
theorem dX1_makeString_41 : decode cX1_makeString 41 = .ok (.ireturn, 1) := by decide +kernel
theorem dX1_makeString_42 : decode cX1_makeString 42 = .ok (.aload_n 0, 1) := by decide +kernel
theorem dX1_makeString_43 : decode cX1_makeString 43 = .ok (.getfield 15, 3) := by decide +kernel
theorem dX1_makeString_46 : decode cX1_makeString 46 = .ok (.istore 5, 2) := by decide +kernel
theorem dX1_makeString_48 : decode cX1_makeString 48 = .ok (.iconst 1, 1) := by decide +kernel
theorem dX1_makeString_49 : decode cX1_makeString 49 = .ok (.iload 4, 2) := by decide +kernel
theorem dX1_makeString_51 : decode cX1_makeString 51 = .ok (.iadd, 1) := by decide +kernel
theorem dX1_makeString_52 : decode cX1_makeString 52 = .ok (.aload_n 0, 1) := by decide +kernel
theorem dX1_makeString_53 : decode cX1_makeString 53 = .ok (.getfield 11, 3) := by decide +kernel
theorem dX1_makeString_56 : decode cX1_makeString 56 = .ok (.arraylength, 1) := by decide +kernel
theorem dX1_makeString_57 : decode cX1_makeString 57 = .ok (.iload 5, 2) := by decide +kernel
theorem dX1_makeString_59 : decode cX1_makeString 59 = .ok (.isub, 1) := by decide +kernel
theorem dX1_makeString_60 : decode cX1_makeString 60 = .ok (.if_icmp .le 6, 3) := by decide +kernel
theorem dX1_makeString_63 : decode cX1_makeString 63 = .ok (.ldc 53, 2) := by decide +kernel
theorem dX1_makeString_65 : decode cX1_makeString 65 = .ok (.ireturn, 1) := by decide +kernel
theorem dX1_makeString_66 : decode cX1_makeString 66 = .ok (.aload_n 0, 1) := by decide +kernel
theorem dX1_makeString_67 : decode cX1_makeString 67 = .ok (.iload 5, 2) := by decide +kernel
theorem dX1_makeString_69 : decode cX1_makeString 69 = .ok (.iconst 1, 1) := by decide +kernel
theorem dX1_makeString_70 : decode cX1_makeString 70 = .ok (.iadd, 1) := by decide +kernel
theorem dX1_makeString_71 : decode cX1_makeString 71 = .ok (.iload 4, 2) := by decide +kernel
theorem dX1_makeString_73 : decode cX1_makeString 73 = .ok (.iadd, 1) := by decide +kernel
theorem dX1_makeString_74 : decode cX1_makeString 74 = .ok (.putfield 15, 3) := by decide +kernel
theorem dX1_makeString_77 : decode cX1_makeString 77 = .ok (.aload_n 0, 1) := by decide +kernel
theorem dX1_makeString_78 : decode cX1_makeString 78 = .ok (.getfield 11, 3) := by decide +kernel
theorem dX1_makeString_81 : decode cX1_makeString 81 = .ok (.iload 5, 2) := by decide +kernel
theorem dX1_makeString_83 : decode cX1_makeString 83 = .ok (.iconst 4, 1) := by decide +kernel
theorem dX1_makeString_84 : decode cX1_makeString 84 = .ok (.iconst 0, 1) := by decide +kernel
theorem dX1_makeString_85 : decode cX1_makeString 85 = .ok (.iload_n 3, 1) := by decide +kernel
theorem dX1_makeString_86 : decode cX1_makeString 86 = .ok (.iconst 1, 1) := by decide +kernel
theorem dX1_makeString_87 : decode cX1_makeString 87 = .ok (.iload 4, 2) := by decide +kernel
theorem dX1_makeString_89 : decode cX1_makeString 89 = .ok (.iadd, 1) := by decide +kernel
theorem dX1_makeString_90 : decode cX1_makeString 90 = .ok (.iconst 0, 1) := by decide +kernel
theorem dX1_makeString_91 : decode cX1_makeString 91 = .ok (.invokestatic 29, 3) := by decide +kernel
theorem dX1_makeString_94 : decode cX1_makeString 94 = .ok (.iastore, 1) := by decide +kernel
theorem dX1_makeString_95 : decode cX1_makeString 95 = .ok (.iconst 0, 1) := by decide +kernel
theorem dX1_makeString_96 : decode cX1_makeString 96 = .ok (.istore 6, 2) := by decide +kernel
theorem dX1_makeString_98 : decode cX1_makeString 98 = .ok (.iconst 0, 1) := by decide +kernel
theorem dX1_makeString_99 : decode cX1_makeString 99 = .ok (.istore 7, 2) := by decide +kernel
theorem dX1_makeString_101 : decode cX1_makeString 101 = .ok (.iload 7, 2) := by decide +kernel
theorem dX1_makeString_103 : decode cX1_makeString 103 = .ok (.iload_n 3, 1) := by decide +kernel
theorem dX1_makeString_104 : decode cX1_makeString 104 = .ok (.if_icmp .ge 69, 3) := by decide +kernel
theorem dX1_makeString_107 : decode cX1_makeString 107 = .ok (.iload 7, 2) := by decide +kernel
theorem dX1_makeString_109 : decode cX1_makeString 109 = .ok (.iconst 3, 1) := by decide +kernel
theorem dX1_makeString_110 : decode cX1_makeString 110 = .ok (.iand, 1) := by decide +kernel
theorem dX1_makeString_111 : decode cX1_makeString 111 = .ok (.iconst 3, 1) := by decide +kernel
theorem dX1_makeString_112 : decode cX1_makeString 112 = .ok (.ishl, 1) := by decide +kernel
theorem dX1_makeString_113 : decode cX1_makeString 113 = .ok (.istore 8, 2) := by decide +kernel
theorem dX1_makeString_115 : decode cX1_makeString 115 = .ok (.iload 6, 2) := by decide +kernel
theorem dX1_makeString_117 : decode cX1_makeString 117 = .ok (.aload_n 1, 1) := by decide +kernel
theorem dX1_makeString_118 : decode cX1_makeString 118 = .ok (.iload_n 2, 1) := by decide +kernel
theorem dX1_makeString_119 : decode cX1_makeString 119 = .ok (.iload 7, 2) := by decide +kernel
theorem dX1_makeString_121 : decode cX1_makeString 121 = .ok (.iadd, 1) := by decide +kernel
theorem dX1_makeString_122 : decode cX1_makeString 122 = .ok (.baload, 1) := by decide +kernel
theorem dX1_makeString_123 : decode cX1_makeString 123 = .ok (.sipush 255, 3) := by decide +kernel
theorem dX1_makeString_126 : decode cX1_makeString 126 = .ok (.iand, 1) := by decide +kernel
theorem dX1_makeString_127 : decode cX1_makeString 127 = .ok (.iload 8, 2) := by decide +kernel
theorem dX1_makeString_129 : decode cX1_makeString 129 = .ok (.ishl, 1) := by decide +kernel
theorem dX1_makeString_130 : decode cX1_makeString 130 = .ok (.ior, 1) := by decide +kernel
theorem dX1_makeString_131 : decode cX1_makeString 131 = .ok (.istore 6, 2) := by decide +kernel
theorem dX1_makeString_133 : decode cX1_makeString 133 = .ok (.iload 8, 2) := by decide +kernel
theorem dX1_makeString_135 : decode cX1_makeString 135 = .ok (.bipush 24, 2) := by decide +kernel
theorem dX1_makeString_137 : decode cX1_makeString 137 = .ok (.if_icmp .eq 11, 3) := by decide +kernel
theorem dX1_makeString_140 : decode cX1_makeString 140 = .ok (.iload 7, 2) := by decide +kernel
theorem dX1_makeString_142 : decode cX1_makeString 142 = .ok (.iload_n 3, 1) := by decide +kernel
theorem dX1_makeString_143 : decode cX1_makeString 143 = .ok (.iconst 1, 1) := by decide +kernel
theorem dX1_makeString_144 : decode cX1_makeString 144 = .ok (.isub, 1) := by decide +kernel
theorem dX1_makeString_145 : decode cX1_makeString 145 = .ok (.if_icmp .ne 22, 3) := by decide +kernel
theorem dX1_makeString_148 : decode cX1_makeString 148 = .ok (.aload_n 0, 1) := by decide +kernel
theorem dX1_makeString_149 : decode cX1_makeString 149 = .ok (.getfield 11, 3) := by decide +kernel
theorem dX1_makeString_152 : decode cX1_makeString 152 = .ok (.iload 5, 2) := by decide +kernel
theorem dX1_makeString_154 : decode cX1_makeString 154 = .ok (.iconst 1, 1) := by decide +kernel
theorem dX1_makeString_155 : decode cX1_makeString 155 = .ok (.iadd, 1) := by decide +kernel
theorem dX1_makeString_156 : decode cX1_makeString 156 = .ok (.iload 7, 2) := by decide +kernel
theorem dX1_makeString_158 : decode cX1_makeString 158 = .ok (.iconst 2, 1) := by decide +kernel
theorem dX1_makeString_159 : decode cX1_makeString 159 = .ok (.ishr, 1) := by decide +kernel
theorem dX1_makeString_160 : decode cX1_makeString 160 = .ok (.iadd, 1) := by decide +kernel
theorem dX1_makeString_161 : decode cX1_makeString 161 = .ok (.iload 6, 2) := by decide +kernel
theorem dX1_makeString_163 : decode cX1_makeString 163 = .ok (.iastore, 1) := by decide +kernel
theorem dX1_makeString_164 : decode cX1_makeString 164 = .ok (.iconst 0, 1) := by decide +kernel
theorem dX1_makeString_165 : decode cX1_makeString 165 = .ok (.istore 6, 2) := by decide +kernel
theorem dX1_makeString_167 : decode cX1_makeString 167 = .ok (.iinc 7 1, 3) := by decide +kernel
theorem dX1_makeString_170 : decode cX1_makeString 170 = .ok (.goto (-69), 3) := by decide +kernel
theorem dX1_makeString_173 : decode cX1_makeString 173 = .ok (.iload 5, 2) := by decide +kernel
theorem dX1_makeString_175 : decode cX1_makeString 175 = .ok (.ireturn, 1) := by decide +kernel
theorem dX1_makeTuple_0 : decode cX1_makeTuple 0 = .ok (.iload_n 3, 1) := by decide +kernel
theorem dX1_makeTuple_1 : decode cX1_makeTuple 1 = .ok (.istore 4, 2) := by decide +kernel
theorem dX1_makeTuple_3 : decode cX1_makeTuple 3 = .ok (.iload_n 3, 1) := by decide +kernel
theorem dX1_makeTuple_4 : decode cX1_makeTuple 4 = .ok (.istore 5, 2) := by decide +kernel
theorem dX1_makeTuple_6 : decode cX1_makeTuple 6 = .ok (.iload 5, 2) := by decide +kernel
theorem dX1_makeTuple_8 : decode cX1_makeTuple 8 = .ok (.ifCond .le 28, 3) := by decide +kernel
theorem dX1_makeTuple_11 : decode cX1_makeTuple 11 = .ok (.aload_n 1, 1) := by decide +kernel
theorem dX1_makeTuple_12 : decode cX1_makeTuple 12 = .ok (.iload_n 2, 1) := by decide +kernel
theorem dX1_makeTuple_13 : decode cX1_makeTuple 13 = .ok (.iload 5, 2) := by decide +kernel
theorem dX1_makeTuple_15 : decode cX1_makeTuple 15 = .ok (.iadd, 1) := by decide +kernel
theorem dX1_makeTuple_16 : decode cX1_makeTuple 16 = .ok (.iconst 1, 1) := by decide +kernel
theorem dX1_makeTuple_17 : decode cX1_makeTuple 17 = .ok (.isub, 1) := by decide +kernel
theorem dX1_makeTuple_18 : decode cX1_makeTuple 18 = .ok (.iaload, 1) := by decide +kernel
theorem dX1_makeTuple_19 : decode cX1_makeTuple 19 = .ok (.ldc 44, 2) := by decide +kernel
theorem dX1_makeTuple_21 : decode cX1_makeTuple 21 = .ok (.if_icmp .ne 15, 3) := by decide +kernel
theorem dX1_makeTuple_24 : decode cX1_makeTuple 24 = .ok (.iload 5, 2) := by decide +kernel
theorem dX1_makeTuple_26 : decode cX1_makeTuple 26 = .ok (.iconst 1, 1) := by decide +kernel
theorem dX1_makeTuple_27 : decode cX1_makeTuple 27 = .ok (.isub, 1) := by decide +kernel
theorem dX1_makeTuple_28 : decode cX1_makeTuple 28 = .ok (.istore 4, 2) := by decide +kernel
theorem dX1_makeTuple_30 : decode cX1_makeTuple 30 = .ok (.iinc 5 (-1), 3) := by decide +kernel
theorem dX1_makeTuple_33 : decode cX1_makeTuple 33 = .ok (.goto (-27), 3) := by decide +kernel
theorem dX1_makeTuple_36 : decode cX1_makeTuple 36 = .ok (.aload_n 0, 1) := by decide +kernel
theorem dX1_makeTuple_37 : decode cX1_makeTuple 37 = .ok (.iconst 5, 1) := by decide +kernel
theorem dX1_makeTuple_38 : decode cX1_makeTuple 38 = .ok (.aload_n 1, 1) := by decide +kernel
theorem dX1_makeTuple_39 : decode cX1_makeTuple 39 = .ok (.iload_n 2, 1) := by decide +kernel
theorem dX1_makeTuple_40 : decode cX1_makeTuple 40 = .ok (.iload 4, 2) := by decide +kernel
theorem dX1_makeTuple_42 : decode cX1_makeTuple 42 = .ok (.invokevirtual 60, 3) := by decide +kernel
theorem dX1_makeTuple_45 : decode cX1_makeTuple 45 = .ok (.ireturn, 1) := by decide +kernel
theorem dX1_makeWhole_0 : decode cX1_makeWhole 0 = .ok (.iload_n 2, 1) := by decide +kernel
theorem dX1_makeWhole_1 : decode cX1_makeWhole 1 = .ok (.bipush 32, 2) := by decide +kernel
theorem dX1_makeWhole_3 : decode cX1_makeWhole 3 = .ok (.if_icmp .le 6, 3) := by decide +kernel
theorem dX1_makeWhole_6 : decode cX1_makeWhole 6 = .ok (.ldc 52, 2) := by decide +kernel
theorem dX1_makeWhole_8 : decode cX1_makeWhole 8 = .ok (.ireturn, 1) := by decide +kernel
theorem dX1_makeWhole_9 : decode cX1_makeWhole 9 = .ok (.aload_n 0, 1) := by decide +kernel
theorem dX1_makeWhole_10 : decode cX1_makeWhole 10 = .ok (.getfield 15, 3) := by decide +kernel
theorem dX1_makeWhole_13 : decode cX1_makeWhole 13 = .ok (.istore 4, 2) := by decide +kernel
theorem dX1_makeWhole_15 : decode cX1_makeWhole 15 = .ok (.iconst 1, 1) := by decide +kernel
theorem dX1_makeWhole_16 : decode cX1_makeWhole 16 = .ok (.iload_n 2, 1) := by decide +kernel
theorem dX1_makeWhole_17 : decode cX1_makeWhole 17 = .ok (.iadd, 1) := by decide +kernel
theorem dX1_makeWhole_18 : decode cX1_makeWhole 18 = .ok (.aload_n 0, 1) := by decide +kernel
theorem dX1_makeWhole_19 : decode cX1_makeWhole 19 = .ok (.getfield 11, 3) := by decide +kernel
theorem dX1_makeWhole_22 : decode cX1_makeWhole 22 = .ok (.arraylength, 1) := by decide +kernel
theorem dX1_makeWhole_23 : decode cX1_makeWhole 23 = .ok (.iload 4, 2) := by decide +kernel
theorem dX1_makeWhole_25 : decode cX1_makeWhole 25 = .ok (.isub, 1) := by decide +kernel
theorem dX1_makeWhole_26 : decode cX1_makeWhole 26 = .ok (.if_icmp .le 6, 3) := by decide +kernel
theorem dX1_makeWhole_29 : decode cX1_makeWhole 29 = .ok (.ldc 53, 2) := by decide +kernel
theorem dX1_makeWhole_31 : decode cX1_makeWhole 31 = .ok (.ireturn, 1) := by decide +kernel
theorem dX1_makeWhole_32 : decode cX1_makeWhole 32 = .ok (.aload_n 0, 1) := by decide +kernel
theorem dX1_makeWhole_33 : decode cX1_makeWhole 33 = .ok (.iload 4, 2) := by decide +kernel
theorem dX1_makeWhole_35 : decode cX1_makeWhole 35 = .ok (.iconst 1, 1) := by decide +kernel
theorem dX1_makeWhole_36 : decode cX1_makeWhole 36 = .ok (.iadd, 1) := by decide +kernel
theorem dX1_makeWhole_37 : decode cX1_makeWhole 37 = .ok (.iload_n 2, 1) := by decide +kernel
theorem dX1_makeWhole_38 : decode cX1_makeWhole 38 = .ok (.iadd, 1) := by decide +kernel
theorem dX1_makeWhole_39 : decode cX1_makeWhole 39 = .ok (.putfield 15, 3) := by decide +kernel
theorem dX1_makeWhole_42 : decode cX1_makeWhole 42 = .ok (.aload_n 0, 1) := by decide +kernel
theorem dX1_makeWhole_43 : decode cX1_makeWhole 43 = .ok (.getfield 11, 3) := by decide +kernel
theorem dX1_makeWhole_46 : decode cX1_makeWhole 46 = .ok (.iload 4, 2) := by decide +kernel
theorem dX1_makeWhole_48 : decode cX1_makeWhole 48 = .ok (.iconst 2, 1) := by decide +kernel
theorem dX1_makeWhole_49 : decode cX1_makeWhole 49 = .ok (.iload_n 3, 1) := by decide +kernel
theorem dX1_makeWhole_50 : decode cX1_makeWhole 50 = .ok (.ifCond .eq 8, 3) := by decide +kernel
theorem dX1_makeWhole_53 : decode cX1_makeWhole 53 = .ok (.bipush 8, 2) := by decide +kernel
theorem dX1_makeWhole_55 : decode cX1_makeWhole 55 = .ok (.goto 4, 3) := by decide +kernel
theorem dX1_makeWhole_58 : decode cX1_makeWhole 58 = .ok (.iconst 0, 1) := by decide +kernel
theorem dX1_makeWhole_59 : decode cX1_makeWhole 59 = .ok (.ior, 1) := by decide +kernel
theorem dX1_makeWhole_60 : decode cX1_makeWhole 60 = .ok (.iload_n 2, 1) := by decide +kernel
theorem dX1_makeWhole_61 : decode cX1_makeWhole 61 = .ok (.iconst 4, 1) := by decide +kernel
theorem dX1_makeWhole_62 : decode cX1_makeWhole 62 = .ok (.ishl, 1) := by decide +kernel
theorem dX1_makeWhole_63 : decode cX1_makeWhole 63 = .ok (.ior, 1) := by decide +kernel
theorem dX1_makeWhole_64 : decode cX1_makeWhole 64 = .ok (.iconst 1, 1) := by decide +kernel
theorem dX1_makeWhole_65 : decode cX1_makeWhole 65 = .ok (.iload_n 2, 1) := by decide +kernel
theorem dX1_makeWhole_66 : decode cX1_makeWhole 66 = .ok (.iadd, 1) := by decide +kernel
theorem dX1_makeWhole_67 : decode cX1_makeWhole 67 = .ok (.bipush 16, 2) := by decide +kernel
theorem dX1_makeWhole_69 : decode cX1_makeWhole 69 = .ok (.ishl, 1) := by decide +kernel
theorem dX1_makeWhole_70 : decode cX1_makeWhole 70 = .ok (.ior, 1) := by decide +kernel
theorem dX1_makeWhole_71 : decode cX1_makeWhole 71 = .ok (.iastore, 1) := by decide +kernel
theorem dX1_makeWhole_72 : decode cX1_makeWhole 72 = .ok (.aload_n 1, 1) := by decide +kernel
theorem dX1_makeWhole_73 : decode cX1_makeWhole 73 = .ok (.iconst 0, 1) := by decide +kernel
theorem dX1_makeWhole_74 : decode cX1_makeWhole 74 = .ok (.aload_n 0, 1) := by decide +kernel
theorem dX1_makeWhole_75 : decode cX1_makeWhole 75 = .ok (.getfield 11, 3) := by decide +kernel
theorem dX1_makeWhole_78 : decode cX1_makeWhole 78 = .ok (.iload 4, 2) := by decide +kernel
theorem dX1_makeWhole_80 : decode cX1_makeWhole 80 = .ok (.iconst 1, 1) := by decide +kernel
theorem dX1_makeWhole_81 : decode cX1_makeWhole 81 = .ok (.iadd, 1) := by decide +kernel
theorem dX1_makeWhole_82 : decode cX1_makeWhole 82 = .ok (.iload_n 2, 1) := by decide +kernel
theorem dX1_makeWhole_83 : decode cX1_makeWhole 83 = .ok (.invokestatic 54, 3) := by decide +kernel
theorem dX1_makeWhole_86 : decode cX1_makeWhole 86 = .ok (.iload 4, 2) := by decide +kernel
theorem dX1_makeWhole_88 : decode cX1_makeWhole 88 = .ok (.ireturn, 1) := by decide +kernel
theorem dX1_markCell_0 : decode cX1_markCell 0 = .ok (.aload_n 0, 1) := by decide +kernel
theorem dX1_markCell_1 : decode cX1_markCell 1 = .ok (.getfield 19, 3) := by decide +kernel
theorem dX1_markCell_4 : decode cX1_markCell 4 = .ok (.iload_n 1, 1) := by decide +kernel
theorem dX1_markCell_5 : decode cX1_markCell 5 = .ok (.iconst 5, 1) := by decide +kernel
theorem dX1_markCell_6 : decode cX1_markCell 6 = .ok (.ishr, 1) := by decide +kernel
theorem dX1_markCell_7 : decode cX1_markCell 7 = .ok (.iaload, 1) := by decide +kernel
theorem dX1_markCell_8 : decode cX1_markCell 8 = .ok (.iload_n 1, 1) := by decide +kernel
theorem dX1_markCell_9 : decode cX1_markCell 9 = .ok (.bipush 31, 2) := by decide +kernel
theorem dX1_markCell_11 : decode cX1_markCell 11 = .ok (.iand, 1) := by decide +kernel
theorem dX1_markCell_12 : decode cX1_markCell 12 = .ok (.iushr, 1) := by decide +kernel
theorem dX1_markCell_13 : decode cX1_markCell 13 = .ok (.iconst 1, 1) := by decide +kernel
theorem dX1_markCell_14 : decode cX1_markCell 14 = .ok (.iand, 1) := by decide +kernel
theorem dX1_markCell_15 : decode cX1_markCell 15 = .ok (.ifCond .eq 4, 3) := by decide +kernel
theorem dX1_markCell_18 : decode cX1_markCell 18 = .ok (.return_, 1) := by decide +kernel
theorem dX1_markCell_19 : decode cX1_markCell 19 = .ok (.aload_n 0, 1) := by decide +kernel
theorem dX1_markCell_20 : decode cX1_markCell 20 = .ok (.getfield 11, 3) := by decide +kernel
theorem dX1_markCell_23 : decode cX1_markCell 23 = .ok (.iload_n 1, 1) := by decide +kernel
theorem dX1_markCell_24 : decode cX1_markCell 24 = .ok (.iaload, 1) := by decide +kernel
theorem dX1_markCell_25 : decode cX1_markCell 25 = .ok (.bipush 7, 2) := by decide +kernel
theorem dX1_markCell_27 : decode cX1_markCell 27 = .ok (.iand, 1) := by decide +kernel
theorem dX1_markCell_28 : decode cX1_markCell 28 = .ok (.istore_n 2, 1) := by decide +kernel
theorem dX1_markCell_29 : decode cX1_markCell 29 = .ok (.aload_n 0, 1) := by decide +kernel
theorem dX1_markCell_30 : decode cX1_markCell 30 = .ok (.getfield 11, 3) := by decide +kernel
theorem dX1_markCell_33 : decode cX1_markCell 33 = .ok (.iload_n 1, 1) := by decide +kernel
theorem dX1_markCell_34 : decode cX1_markCell 34 = .ok (.iaload, 1) := by decide +kernel
theorem dX1_markCell_35 : decode cX1_markCell 35 = .ok (.iconst 4, 1) := by decide +kernel
theorem dX1_markCell_36 : decode cX1_markCell 36 = .ok (.iushr, 1) := by decide +kernel
theorem dX1_markCell_37 : decode cX1_markCell 37 = .ok (.sipush 4095, 3) := by decide +kernel
theorem dX1_markCell_40 : decode cX1_markCell 40 = .ok (.iand, 1) := by decide +kernel
theorem dX1_markCell_41 : decode cX1_markCell 41 = .ok (.istore_n 3, 1) := by decide +kernel
theorem dX1_markCell_42 : decode cX1_markCell 42 = .ok (.iload_n 1, 1) := by decide +kernel
theorem dX1_markCell_43 : decode cX1_markCell 43 = .ok (.iload_n 2, 1) := by decide +kernel
theorem dX1_markCell_44 : decode cX1_markCell 44 = .ok (.iconst 4, 1) := by decide +kernel
theorem dX1_markCell_45 : decode cX1_markCell 45 = .ok (.if_icmp .ne 11, 3) := by decide +kernel
theorem dX1_markCell_48 : decode cX1_markCell 48 = .ok (.iload_n 3, 1) := by decide +kernel
theorem dX1_markCell_49 : decode cX1_markCell 49 = .ok (.iconst 3, 1) := by decide +kernel
theorem dX1_markCell_50 : decode cX1_markCell 50 = .ok (.iadd, 1) := by decide +kernel
theorem dX1_markCell_51 : decode cX1_markCell 51 = .ok (.iconst 2, 1) := by decide +kernel
theorem dX1_markCell_52 : decode cX1_markCell 52 = .ok (.ishr, 1) := by decide +kernel
theorem dX1_markCell_53 : decode cX1_markCell 53 = .ok (.goto 4, 3) := by decide +kernel
theorem dX1_markCell_56 : decode cX1_markCell 56 = .ok (.iload_n 3, 1) := by decide +kernel
theorem dX1_markCell_57 : decode cX1_markCell 57 = .ok (.iadd, 1) := by decide +kernel
theorem dX1_markCell_58 : decode cX1_markCell 58 = .ok (.istore 4, 2) := by decide +kernel
theorem dX1_markCell_60 : decode cX1_markCell 60 = .ok (.iload_n 1, 1) := by decide +kernel
theorem dX1_markCell_61 : decode cX1_markCell 61 = .ok (.istore 5, 2) := by decide +kernel
theorem dX1_markCell_63 : decode cX1_markCell 63 = .ok (.iload 5, 2) := by decide +kernel
theorem dX1_markCell_65 : decode cX1_markCell 65 = .ok (.iload 4, 2) := by decide +kernel
theorem dX1_markCell_67 : decode cX1_markCell 67 = .ok (.if_icmp .gt 28, 3) := by decide +kernel
theorem dX1_markCell_70 : decode cX1_markCell 70 = .ok (.aload_n 0, 1) := by decide +kernel
theorem dX1_markCell_71 : decode cX1_markCell 71 = .ok (.getfield 19, 3) := by decide +kernel
theorem dX1_markCell_74 : decode cX1_markCell 74 = .ok (.iload 5, 2) := by decide +kernel
theorem dX1_markCell_76 : decode cX1_markCell 76 = .ok (.iconst 5, 1) := by decide +kernel
theorem dX1_markCell_77 : decode cX1_markCell 77 = .ok (.ishr, 1) := by decide +kernel
theorem dX1_markCell_78 : decode cX1_markCell 78 = .ok (.dup2, 1) := by decide +kernel
theorem dX1_markCell_79 : decode cX1_markCell 79 = .ok (.iaload, 1) := by decide +kernel
theorem dX1_markCell_80 : decode cX1_markCell 80 = .ok (.iconst 1, 1) := by decide +kernel
theorem dX1_markCell_81 : decode cX1_markCell 81 = .ok (.iload 5, 2) := by decide +kernel
theorem dX1_markCell_83 : decode cX1_markCell 83 = .ok (.bipush 31, 2) := by decide +kernel
theorem dX1_markCell_85 : decode cX1_markCell 85 = .ok (.iand, 1) := by decide +kernel
theorem dX1_markCell_86 : decode cX1_markCell 86 = .ok (.ishl, 1) := by decide +kernel
theorem dX1_markCell_87 : decode cX1_markCell 87 = .ok (.ior, 1) := by decide +kernel
theorem dX1_markCell_88 : decode cX1_markCell 88 = .ok (.iastore, 1) := by decide +kernel
theorem dX1_markCell_89 : decode cX1_markCell 89 = .ok (.iinc 5 1, 3) := by decide +kernel
theorem dX1_markCell_92 : decode cX1_markCell 92 = .ok (.goto (-29), 3) := by decide +kernel
theorem dX1_markCell_95 : decode cX1_markCell 95 = .ok (.iload_n 1, 1) := by decide +kernel
theorem dX1_markCell_96 : decode cX1_markCell 96 = .ok (.iconst 1, 1) := by decide +kernel
theorem dX1_markCell_97 : decode cX1_markCell 97 = .ok (.iadd, 1) := by decide +kernel
theorem dX1_markCell_98 : decode cX1_markCell 98 = .ok (.istore 5, 2) := by decide +kernel
theorem dX1_markCell_100 : decode cX1_markCell 100 = .ok (.iload 5, 2) := by decide +kernel
theorem dX1_markCell_102 : decode cX1_markCell 102 = .ok (.iload 4, 2) := by decide +kernel
theorem dX1_markCell_104 : decode cX1_markCell 104 = .ok (.if_icmp .gt 36, 3) := by decide +kernel
theorem dX1_markCell_107 : decode cX1_markCell 107 = .ok (.iload_n 2, 1) := by decide +kernel
theorem dX1_markCell_108 : decode cX1_markCell 108 = .ok (.iconst 5, 1) := by decide +kernel
theorem dX1_markCell_109 : decode cX1_markCell 109 = .ok (.if_icmp .lt 31, 3) := by decide +kernel
theorem dX1_markCell_112 : decode cX1_markCell 112 = .ok (.aload_n 0, 1) := by decide +kernel
theorem dX1_markCell_113 : decode cX1_markCell 113 = .ok (.getfield 11, 3) := by decide +kernel
theorem dX1_markCell_116 : decode cX1_markCell 116 = .ok (.iload 5, 2) := by decide +kernel
theorem dX1_markCell_118 : decode cX1_markCell 118 = .ok (.iaload, 1) := by decide +kernel
theorem dX1_markCell_119 : decode cX1_markCell 119 = .ok (.iconst 3, 1) := by decide +kernel
theorem dX1_markCell_120 : decode cX1_markCell 120 = .ok (.if_icmp .lt 14, 3) := by decide +kernel
theorem dX1_markCell_123 : decode cX1_markCell 123 = .ok (.aload_n 0, 1) := by decide +kernel
theorem dX1_markCell_124 : decode cX1_markCell 124 = .ok (.aload_n 0, 1) := by decide +kernel
theorem dX1_markCell_125 : decode cX1_markCell 125 = .ok (.getfield 11, 3) := by decide +kernel
theorem dX1_markCell_128 : decode cX1_markCell 128 = .ok (.iload 5, 2) := by decide +kernel
theorem dX1_markCell_130 : decode cX1_markCell 130 = .ok (.iaload, 1) := by decide +kernel
theorem dX1_markCell_131 : decode cX1_markCell 131 = .ok (.invokevirtual 85, 3) := by decide +kernel
theorem dX1_markCell_134 : decode cX1_markCell 134 = .ok (.iinc 5 1, 3) := by decide +kernel
theorem dX1_markCell_137 : decode cX1_markCell 137 = .ok (.goto (-37), 3) := by decide +kernel
theorem dX1_markCell_140 : decode cX1_markCell 140 = .ok (.return_, 1) := by decide +kernel
theorem dX1_markRow_0 : decode cX1_markRow 0 = .ok (.iconst 0, 1) := by decide +kernel
theorem dX1_markRow_1 : decode cX1_markRow 1 = .ok (.istore_n 3, 1) := by decide +kernel
theorem dX1_markRow_2 : decode cX1_markRow 2 = .ok (.iload_n 3, 1) := by decide +kernel
theorem dX1_markRow_3 : decode cX1_markRow 3 = .ok (.iload_n 2, 1) := by decide +kernel
theorem dX1_markRow_4 : decode cX1_markRow 4 = .ok (.if_icmp .ge 23, 3) := by decide +kernel
theorem dX1_markRow_7 : decode cX1_markRow 7 = .ok (.aload_n 1, 1) := by decide +kernel
theorem dX1_markRow_8 : decode cX1_markRow 8 = .ok (.iload_n 3, 1) := by decide +kernel
theorem dX1_markRow_9 : decode cX1_markRow 9 = .ok (.iaload, 1) := by decide +kernel
theorem dX1_markRow_10 : decode cX1_markRow 10 = .ok (.iconst 3, 1) := by decide +kernel
theorem dX1_markRow_11 : decode cX1_markRow 11 = .ok (.if_icmp .lt 10, 3) := by decide +kernel
theorem dX1_markRow_14 : decode cX1_markRow 14 = .ok (.aload_n 0, 1) := by decide +kernel
theorem dX1_markRow_15 : decode cX1_markRow 15 = .ok (.aload_n 1, 1) := by decide +kernel
theorem dX1_markRow_16 : decode cX1_markRow 16 = .ok (.iload_n 3, 1) := by decide +kernel
theorem dX1_markRow_17 : decode cX1_markRow 17 = .ok (.iaload, 1) := by decide +kernel
theorem dX1_markRow_18 : decode cX1_markRow 18 = .ok (.invokevirtual 85, 3) := by decide +kernel
theorem dX1_markRow_21 : decode cX1_markRow 21 = .ok (.iinc 3 1, 3) := by decide +kernel
theorem dX1_markRow_24 : decode cX1_markRow 24 = .ok (.goto (-22), 3) := by decide +kernel
theorem dX1_markRow_27 : decode cX1_markRow 27 = .ok (.return_, 1) := by decide +kernel
theorem dX1_member_0 : decode cX1_member 0 = .ok (.iload_n 1, 1) := by decide +kernel
theorem dX1_member_1 : decode cX1_member 1 = .ok (.ifCond .lt 36, 3) := by decide +kernel
theorem dX1_member_4 : decode cX1_member 4 = .ok (.iload_n 2, 1) := by decide +kernel
theorem dX1_member_5 : decode cX1_member 5 = .ok (.ifCond .lt 32, 3) := by decide +kernel
theorem dX1_member_8 : decode cX1_member 8 = .ok (.iload_n 2, 1) := by decide +kernel
theorem dX1_member_9 : decode cX1_member 9 = .ok (.aload_n 0, 1) := by decide +kernel
theorem dX1_member_10 : decode cX1_member 10 = .ok (.getfield 11, 3) := by decide +kernel
theorem dX1_member_13 : decode cX1_member 13 = .ok (.iload_n 1, 1) := by decide +kernel
theorem dX1_member_14 : decode cX1_member 14 = .ok (.iaload, 1) := by decide +kernel
theorem dX1_member_15 : decode cX1_member 15 = .ok (.iconst 4, 1) := by decide +kernel
theorem dX1_member_16 : decode cX1_member 16 = .ok (.iushr, 1) := by decide +kernel
theorem dX1_member_17 : decode cX1_member 17 = .ok (.sipush 4095, 3) := by decide +kernel
theorem dX1_member_20 : decode cX1_member 20 = .ok (.iand, 1) := by decide +kernel
theorem dX1_member_21 : decode cX1_member 21 = .ok (.if_icmp .ge 16, 3) := by decide +kernel
theorem dX1_member_24 : decode cX1_member 24 = .ok (.aload_n 0, 1) := by decide +kernel
theorem dX1_member_25 : decode cX1_member 25 = .ok (.getfield 11, 3) := by decide +kernel
theorem dX1_member_28 : decode cX1_member 28 = .ok (.iload_n 1, 1) := by decide +kernel
theorem dX1_member_29 : decode cX1_member 29 = .ok (.iconst 1, 1) := by decide +kernel
theorem dX1_member_30 : decode cX1_member 30 = .ok (.iadd, 1) := by decide +kernel
theorem dX1_member_31 : decode cX1_member 31 = .ok (.iload_n 2, 1) := by decide +kernel
theorem dX1_member_32 : decode cX1_member 32 = .ok (.iadd, 1) := by decide +kernel
theorem dX1_member_33 : decode cX1_member 33 = .ok (.iaload, 1) := by decide +kernel
theorem dX1_member_34 : decode cX1_member 34 = .ok (.goto 5, 3) := by decide +kernel
theorem dX1_member_37 : decode cX1_member 37 = .ok (.ldc 44, 2) := by decide +kernel
theorem dX1_member_39 : decode cX1_member 39 = .ok (.ireturn, 1) := by decide +kernel
theorem dX1_moveCells_0 : decode cX1_moveCells 0 = .ok (.iconst 3, 1) := by decide +kernel
theorem dX1_moveCells_1 : decode cX1_moveCells 1 = .ok (.istore_n 1, 1) := by decide +kernel
theorem dX1_moveCells_2 : decode cX1_moveCells 2 = .ok (.iconst 0, 1) := by decide +kernel
theorem dX1_moveCells_3 : decode cX1_moveCells 3 = .ok (.istore_n 2, 1) := by decide +kernel
theorem dX1_moveCells_4 : decode cX1_moveCells 4 = .ok (.iconst 3, 1) := by decide +kernel
theorem dX1_moveCells_5 : decode cX1_moveCells 5 = .ok (.istore_n 3, 1) := by decide +kernel
theorem dX1_moveCells_6 : decode cX1_moveCells 6 = .ok (.iload_n 3, 1) := by decide +kernel
theorem dX1_moveCells_7 : decode cX1_moveCells 7 = .ok (.aload_n 0, 1) := by decide +kernel
theorem dX1_moveCells_8 : decode cX1_moveCells 8 = .ok (.getfield 15, 3) := by decide +kernel
theorem dX1_moveCells_11 : decode cX1_moveCells 11 = .ok (.if_icmp .ge 129, 3) := by decide +kernel
theorem dX1_moveCells_14 : decode cX1_moveCells 14 = .ok (.aload_n 0, 1) := by decide +kernel
theorem dX1_moveCells_15 : decode cX1_moveCells 15 = .ok (.getfield 11, 3) := by decide +kernel
theorem dX1_moveCells_18 : decode cX1_moveCells 18 = .ok (.iload_n 3, 1) := by decide +kernel
theorem dX1_moveCells_19 : decode cX1_moveCells 19 = .ok (.iaload, 1) := by decide +kernel
theorem dX1_moveCells_20 : decode cX1_moveCells 20 = .ok (.istore 4, 2) := by decide +kernel
theorem dX1_moveCells_22 : decode cX1_moveCells 22 = .ok (.iconst 1, 1) := by decide +kernel
theorem dX1_moveCells_23 : decode cX1_moveCells 23 = .ok (.iload 4, 2) := by decide +kernel
theorem dX1_moveCells_25 : decode cX1_moveCells 25 = .ok (.invokestatic 97, 3) := by decide +kernel
theorem dX1_moveCells_28 : decode cX1_moveCells 28 = .ok (.iadd, 1) := by decide +kernel
theorem dX1_moveCells_29 : decode cX1_moveCells 29 = .ok (.istore_n 2, 1) := by decide +kernel
theorem dX1_moveCells_30 : decode cX1_moveCells 30 = .ok (.aload_n 0, 1) := by decide +kernel
theorem dX1_moveCells_31 : decode cX1_moveCells 31 = .ok (.getfield 19, 3) := by decide +kernel
theorem dX1_moveCells_34 : decode cX1_moveCells 34 = .ok (.iload_n 3, 1) := by decide +kernel
theorem dX1_moveCells_35 : decode cX1_moveCells 35 = .ok (.iconst 5, 1) := by decide +kernel
theorem dX1_moveCells_36 : decode cX1_moveCells 36 = .ok (.ishr, 1) := by decide +kernel
theorem dX1_moveCells_37 : decode cX1_moveCells 37 = .ok (.iaload, 1) := by decide +kernel
theorem dX1_moveCells_38 : decode cX1_moveCells 38 = .ok (.iload_n 3, 1) := by decide +kernel
theorem dX1_moveCells_39 : decode cX1_moveCells 39 = .ok (.bipush 31, 2) := by decide +kernel
theorem dX1_moveCells_41 : decode cX1_moveCells 41 = .ok (.iand, 1) := by decide +kernel
theorem dX1_moveCells_42 : decode cX1_moveCells 42 = .ok (.iushr, 1) := by decide +kernel
theorem dX1_moveCells_43 : decode cX1_moveCells 43 = .ok (.iconst 1, 1) := by decide +kernel
theorem dX1_moveCells_44 : decode cX1_moveCells 44 = .ok (.iand, 1) := by decide +kernel
theorem dX1_moveCells_45 : decode cX1_moveCells 45 = .ok (.ifCond .eq 88, 3) := by decide +kernel
theorem dX1_moveCells_48 : decode cX1_moveCells 48 = .ok (.iload_n 3, 1) := by decide +kernel
theorem dX1_moveCells_49 : decode cX1_moveCells 49 = .ok (.iconst 1, 1) := by decide +kernel
theorem dX1_moveCells_50 : decode cX1_moveCells 50 = .ok (.iadd, 1) := by decide +kernel
theorem dX1_moveCells_51 : decode cX1_moveCells 51 = .ok (.istore 5, 2) := by decide +kernel
theorem dX1_moveCells_53 : decode cX1_moveCells 53 = .ok (.iload 5, 2) := by decide +kernel
theorem dX1_moveCells_55 : decode cX1_moveCells 55 = .ok (.iload_n 3, 1) := by decide +kernel
theorem dX1_moveCells_56 : decode cX1_moveCells 56 = .ok (.iload_n 2, 1) := by decide +kernel
theorem dX1_moveCells_57 : decode cX1_moveCells 57 = .ok (.iadd, 1) := by decide +kernel
theorem dX1_moveCells_58 : decode cX1_moveCells 58 = .ok (.if_icmp .ge 57, 3) := by decide +kernel
theorem dX1_moveCells_61 : decode cX1_moveCells 61 = .ok (.iload 4, 2) := by decide +kernel
theorem dX1_moveCells_63 : decode cX1_moveCells 63 = .ok (.bipush 7, 2) := by decide +kernel
theorem dX1_moveCells_65 : decode cX1_moveCells 65 = .ok (.iand, 1) := by decide +kernel
theorem dX1_moveCells_66 : decode cX1_moveCells 66 = .ok (.iconst 5, 1) := by decide +kernel
theorem dX1_moveCells_67 : decode cX1_moveCells 67 = .ok (.if_icmp .lt 48, 3) := by decide +kernel
theorem dX1_moveCells_70 : decode cX1_moveCells 70 = .ok (.aload_n 0, 1) := by decide +kernel
theorem dX1_moveCells_71 : decode cX1_moveCells 71 = .ok (.getfield 11, 3) := by decide +kernel
theorem dX1_moveCells_74 : decode cX1_moveCells 74 = .ok (.iload 5, 2) := by decide +kernel
theorem dX1_moveCells_76 : decode cX1_moveCells 76 = .ok (.aload_n 0, 1) := by decide +kernel
theorem dX1_moveCells_77 : decode cX1_moveCells 77 = .ok (.getfield 11, 3) := by decide +kernel
theorem dX1_moveCells_80 : decode cX1_moveCells 80 = .ok (.iload 5, 2) := by decide +kernel
theorem dX1_moveCells_82 : decode cX1_moveCells 82 = .ok (.iaload, 1) := by decide +kernel
theorem dX1_moveCells_83 : decode cX1_moveCells 83 = .ok (.iconst 3, 1) := by decide +kernel
theorem dX1_moveCells_84 : decode cX1_moveCells 84 = .ok (.if_icmp .lt 17, 3) := by decide +kernel
theorem dX1_moveCells_87 : decode cX1_moveCells 87 = .ok (.aload_n 0, 1) := by decide +kernel
theorem dX1_moveCells_88 : decode cX1_moveCells 88 = .ok (.aload_n 0, 1) := by decide +kernel
theorem dX1_moveCells_89 : decode cX1_moveCells 89 = .ok (.getfield 11, 3) := by decide +kernel
theorem dX1_moveCells_92 : decode cX1_moveCells 92 = .ok (.iload 5, 2) := by decide +kernel
theorem dX1_moveCells_94 : decode cX1_moveCells 94 = .ok (.iaload, 1) := by decide +kernel
theorem dX1_moveCells_95 : decode cX1_moveCells 95 = .ok (.invokevirtual 94, 3) := by decide +kernel
theorem dX1_moveCells_98 : decode cX1_moveCells 98 = .ok (.goto 10, 3) := by decide +kernel
theorem dX1_moveCells_101 : decode cX1_moveCells 101 = .ok (.aload_n 0, 1) := by decide +kernel
theorem dX1_moveCells_102 : decode cX1_moveCells 102 = .ok (.getfield 11, 3) := by decide +kernel
theorem dX1_moveCells_105 : decode cX1_moveCells 105 = .ok (.iload 5, 2) := by decide +kernel
theorem dX1_moveCells_107 : decode cX1_moveCells 107 = .ok (.iaload, 1) := by decide +kernel
theorem dX1_moveCells_108 : decode cX1_moveCells 108 = .ok (.iastore, 1) := by decide +kernel
theorem dX1_moveCells_109 : decode cX1_moveCells 109 = .ok (.iinc 5 1, 3) := by decide +kernel
theorem dX1_moveCells_112 : decode cX1_moveCells 112 = .ok (.goto (-59), 3) := by decide +kernel
theorem dX1_moveCells_115 : decode cX1_moveCells 115 = .ok (.aload_n 0, 1) := by decide +kernel
theorem dX1_moveCells_116 : decode cX1_moveCells 116 = .ok (.getfield 11, 3) := by decide +kernel
theorem dX1_moveCells_119 : decode cX1_moveCells 119 = .ok (.iload_n 3, 1) := by decide +kernel
theorem dX1_moveCells_120 : decode cX1_moveCells 120 = .ok (.aload_n 0, 1) := by decide +kernel
theorem dX1_moveCells_121 : decode cX1_moveCells 121 = .ok (.getfield 11, 3) := by decide +kernel
theorem dX1_moveCells_124 : decode cX1_moveCells 124 = .ok (.iload_n 1, 1) := by decide +kernel
theorem dX1_moveCells_125 : decode cX1_moveCells 125 = .ok (.iload_n 2, 1) := by decide +kernel
theorem dX1_moveCells_126 : decode cX1_moveCells 126 = .ok (.invokestatic 54, 3) := by decide +kernel
theorem dX1_moveCells_129 : decode cX1_moveCells 129 = .ok (.iload_n 1, 1) := by decide +kernel
theorem dX1_moveCells_130 : decode cX1_moveCells 130 = .ok (.iload_n 2, 1) := by decide +kernel
theorem dX1_moveCells_131 : decode cX1_moveCells 131 = .ok (.iadd, 1) := by decide +kernel
theorem dX1_moveCells_132 : decode cX1_moveCells 132 = .ok (.istore_n 1, 1) := by decide +kernel
theorem dX1_moveCells_133 : decode cX1_moveCells 133 = .ok (.iload_n 3, 1) := by decide +kernel
theorem dX1_moveCells_134 : decode cX1_moveCells 134 = .ok (.iload_n 2, 1) := by decide +kernel
theorem dX1_moveCells_135 : decode cX1_moveCells 135 = .ok (.iadd, 1) := by decide +kernel
theorem dX1_moveCells_136 : decode cX1_moveCells 136 = .ok (.istore_n 3, 1) := by decide +kernel
theorem dX1_moveCells_137 : decode cX1_moveCells 137 = .ok (.goto (-131), 3) := by decide +kernel
theorem dX1_moveCells_140 : decode cX1_moveCells 140 = .ok (.aload_n 0, 1) := by decide +kernel
theorem dX1_moveCells_141 : decode cX1_moveCells 141 = .ok (.iload_n 1, 1) := by decide +kernel
theorem dX1_moveCells_142 : decode cX1_moveCells 142 = .ok (.putfield 15, 3) := by decide +kernel
theorem dX1_moveCells_145 : decode cX1_moveCells 145 = .ok (.return_, 1) := by decide +kernel
theorem dX1_moveRow_0 : decode cX1_moveRow 0 = .ok (.iconst 0, 1) := by decide +kernel
theorem dX1_moveRow_1 : decode cX1_moveRow 1 = .ok (.istore_n 3, 1) := by decide +kernel
theorem dX1_moveRow_2 : decode cX1_moveRow 2 = .ok (.iload_n 3, 1) := by decide +kernel
theorem dX1_moveRow_3 : decode cX1_moveRow 3 = .ok (.iload_n 2, 1) := by decide +kernel
theorem dX1_moveRow_4 : decode cX1_moveRow 4 = .ok (.if_icmp .ge 26, 3) := by decide +kernel
theorem dX1_moveRow_7 : decode cX1_moveRow 7 = .ok (.aload_n 1, 1) := by decide +kernel
theorem dX1_moveRow_8 : decode cX1_moveRow 8 = .ok (.iload_n 3, 1) := by decide +kernel
theorem dX1_moveRow_9 : decode cX1_moveRow 9 = .ok (.iaload, 1) := by decide +kernel
theorem dX1_moveRow_10 : decode cX1_moveRow 10 = .ok (.iconst 3, 1) := by decide +kernel
theorem dX1_moveRow_11 : decode cX1_moveRow 11 = .ok (.if_icmp .lt 13, 3) := by decide +kernel
theorem dX1_moveRow_14 : decode cX1_moveRow 14 = .ok (.aload_n 1, 1) := by decide +kernel
theorem dX1_moveRow_15 : decode cX1_moveRow 15 = .ok (.iload_n 3, 1) := by decide +kernel
theorem dX1_moveRow_16 : decode cX1_moveRow 16 = .ok (.aload_n 0, 1) := by decide +kernel
theorem dX1_moveRow_17 : decode cX1_moveRow 17 = .ok (.aload_n 1, 1) := by decide +kernel
theorem dX1_moveRow_18 : decode cX1_moveRow 18 = .ok (.iload_n 3, 1) := by decide +kernel
theorem dX1_moveRow_19 : decode cX1_moveRow 19 = .ok (.iaload, 1) := by decide +kernel
theorem dX1_moveRow_20 : decode cX1_moveRow 20 = .ok (.invokevirtual 94, 3) := by decide +kernel
theorem dX1_moveRow_23 : decode cX1_moveRow 23 = .ok (.iastore, 1) := by decide +kernel
theorem dX1_moveRow_24 : decode cX1_moveRow 24 = .ok (.iinc 3 1, 3) := by decide +kernel
theorem dX1_moveRow_27 : decode cX1_moveRow 27 = .ok (.goto (-25), 3) := by decide +kernel
theorem dX1_moveRow_30 : decode cX1_moveRow 30 = .ok (.return_, 1) := by decide +kernel
theorem dX1_placeOf_0 : decode cX1_placeOf 0 = .ok (.aload_n 0, 1) := by decide +kernel
theorem dX1_placeOf_1 : decode cX1_placeOf 1 = .ok (.getfield 22, 3) := by decide +kernel
theorem dX1_placeOf_4 : decode cX1_placeOf 4 = .ok (.iload_n 1, 1) := by decide +kernel
theorem dX1_placeOf_5 : decode cX1_placeOf 5 = .ok (.iconst 5, 1) := by decide +kernel
theorem dX1_placeOf_6 : decode cX1_placeOf 6 = .ok (.ishr, 1) := by decide +kernel
theorem dX1_placeOf_7 : decode cX1_placeOf 7 = .ok (.iaload, 1) := by decide +kernel
theorem dX1_placeOf_8 : decode cX1_placeOf 8 = .ok (.aload_n 0, 1) := by decide +kernel
theorem dX1_placeOf_9 : decode cX1_placeOf 9 = .ok (.getfield 19, 3) := by decide +kernel
theorem dX1_placeOf_12 : decode cX1_placeOf 12 = .ok (.iload_n 1, 1) := by decide +kernel
theorem dX1_placeOf_13 : decode cX1_placeOf 13 = .ok (.iconst 5, 1) := by decide +kernel
theorem dX1_placeOf_14 : decode cX1_placeOf 14 = .ok (.ishr, 1) := by decide +kernel
theorem dX1_placeOf_15 : decode cX1_placeOf 15 = .ok (.iaload, 1) := by decide +kernel
theorem dX1_placeOf_16 : decode cX1_placeOf 16 = .ok (.iconst 1, 1) := by decide +kernel
theorem dX1_placeOf_17 : decode cX1_placeOf 17 = .ok (.iload_n 1, 1) := by decide +kernel
theorem dX1_placeOf_18 : decode cX1_placeOf 18 = .ok (.bipush 31, 2) := by decide +kernel
theorem dX1_placeOf_20 : decode cX1_placeOf 20 = .ok (.iand, 1) := by decide +kernel
theorem dX1_placeOf_21 : decode cX1_placeOf 21 = .ok (.ishl, 1) := by decide +kernel
theorem dX1_placeOf_22 : decode cX1_placeOf 22 = .ok (.iconst 1, 1) := by decide +kernel
theorem dX1_placeOf_23 : decode cX1_placeOf 23 = .ok (.isub, 1) := by decide +kernel
theorem dX1_placeOf_24 : decode cX1_placeOf 24 = .ok (.iand, 1) := by decide +kernel
theorem dX1_placeOf_25 : decode cX1_placeOf 25 = .ok (.invokestatic 89, 3) := by decide +kernel
theorem dX1_placeOf_28 : decode cX1_placeOf 28 = .ok (.iadd, 1) := by decide +kernel
theorem dX1_placeOf_29 : decode cX1_placeOf 29 = .ok (.ireturn, 1) := by decide +kernel
theorem dX1_same_0 : decode cX1_same 0 = .ok (.iload_n 1, 1) := by decide +kernel
theorem dX1_same_1 : decode cX1_same 1 = .ok (.iload_n 2, 1) := by decide +kernel
theorem dX1_same_2 : decode cX1_same 2 = .ok (.if_icmp .eq 35, 3) := by decide +kernel
theorem dX1_same_5 : decode cX1_same 5 = .ok (.iload_n 1, 1) := by decide +kernel
theorem dX1_same_6 : decode cX1_same 6 = .ok (.ifCond .lt 35, 3) := by decide +kernel
theorem dX1_same_9 : decode cX1_same 9 = .ok (.iload_n 2, 1) := by decide +kernel
theorem dX1_same_10 : decode cX1_same 10 = .ok (.ifCond .lt 31, 3) := by decide +kernel
theorem dX1_same_13 : decode cX1_same 13 = .ok (.aload_n 0, 1) := by decide +kernel
theorem dX1_same_14 : decode cX1_same 14 = .ok (.getfield 11, 3) := by decide +kernel
theorem dX1_same_17 : decode cX1_same 17 = .ok (.iload_n 1, 1) := by decide +kernel
theorem dX1_same_18 : decode cX1_same 18 = .ok (.iaload, 1) := by decide +kernel
theorem dX1_same_19 : decode cX1_same 19 = .ok (.aload_n 0, 1) := by decide +kernel
theorem dX1_same_20 : decode cX1_same 20 = .ok (.getfield 11, 3) := by decide +kernel
theorem dX1_same_23 : decode cX1_same 23 = .ok (.iload_n 2, 1) := by decide +kernel
theorem dX1_same_24 : decode cX1_same 24 = .ok (.iaload, 1) := by decide +kernel
theorem dX1_same_25 : decode cX1_same 25 = .ok (.if_icmp .ne 16, 3) := by decide +kernel
theorem dX1_same_28 : decode cX1_same 28 = .ok (.aload_n 0, 1) := by decide +kernel
theorem dX1_same_29 : decode cX1_same 29 = .ok (.iload_n 1, 1) := by decide +kernel
theorem dX1_same_30 : decode cX1_same 30 = .ok (.iload_n 2, 1) := by decide +kernel
theorem dX1_same_31 : decode cX1_same 31 = .ok (.invokevirtual 65, 3) := by decide +kernel
theorem dX1_same_34 : decode cX1_same 34 = .ok (.ifCond .ne 7, 3) := by decide +kernel
theorem dX1_same_37 : decode cX1_same 37 = .ok (.iconst 1, 1) := by decide +kernel
theorem dX1_same_38 : decode cX1_same 38 = .ok (.goto 4, 3) := by decide +kernel
theorem dX1_same_41 : decode cX1_same 41 = .ok (.iconst 0, 1) := by decide +kernel
theorem dX1_same_42 : decode cX1_same 42 = .ok (.ireturn, 1) := by decide +kernel
theorem dX1_size_0 : decode cX1_size 0 = .ok (.iload_n 1, 1) := by decide +kernel
theorem dX1_size_1 : decode cX1_size 1 = .ok (.ifCond .lt 17, 3) := by decide +kernel
theorem dX1_size_4 : decode cX1_size 4 = .ok (.aload_n 0, 1) := by decide +kernel
theorem dX1_size_5 : decode cX1_size 5 = .ok (.getfield 11, 3) := by decide +kernel
theorem dX1_size_8 : decode cX1_size 8 = .ok (.iload_n 1, 1) := by decide +kernel
theorem dX1_size_9 : decode cX1_size 9 = .ok (.iaload, 1) := by decide +kernel
theorem dX1_size_10 : decode cX1_size 10 = .ok (.bipush 16, 2) := by decide +kernel
theorem dX1_size_12 : decode cX1_size 12 = .ok (.iushr, 1) := by decide +kernel
theorem dX1_size_13 : decode cX1_size 13 = .ok (.sipush 1023, 3) := by decide +kernel
theorem dX1_size_16 : decode cX1_size 16 = .ok (.iand, 1) := by decide +kernel
theorem dX1_size_17 : decode cX1_size 17 = .ok (.ireturn, 1) := by decide +kernel
theorem dX1_size_18 : decode cX1_size 18 = .ok (.iload_n 1, 1) := by decide +kernel
theorem dX1_size_19 : decode cX1_size 19 = .ok (.ldc 33, 2) := by decide +kernel
theorem dX1_size_21 : decode cX1_size 21 = .ok (.iand, 1) := by decide +kernel
theorem dX1_size_22 : decode cX1_size 22 = .ok (.istore_n 2, 1) := by decide +kernel
theorem dX1_size_23 : decode cX1_size 23 = .ok (.iload_n 2, 1) := by decide +kernel
theorem dX1_size_24 : decode cX1_size 24 = .ok (.ldc 34, 2) := by decide +kernel
theorem dX1_size_26 : decode cX1_size 26 = .ok (.if_icmp .eq 15, 3) := by decide +kernel
theorem dX1_size_29 : decode cX1_size 29 = .ok (.iload_n 2, 1) := by decide +kernel
theorem dX1_size_30 : decode cX1_size 30 = .ok (.ldc 35, 2) := by decide +kernel
theorem dX1_size_32 : decode cX1_size 32 = .ok (.if_icmp .ne 13, 3) := by decide +kernel
theorem dX1_size_35 : decode cX1_size 35 = .ok (.iload_n 1, 1) := by decide +kernel
theorem dX1_size_36 : decode cX1_size 36 = .ok (.ldc 35, 2) := by decide +kernel
theorem dX1_size_38 : decode cX1_size 38 = .ok (.if_icmp .eq 7, 3) := by decide +kernel
theorem dX1_size_41 : decode cX1_size 41 = .ok (.iconst 2, 1) := by decide +kernel
theorem dX1_size_42 : decode cX1_size 42 = .ok (.goto 4, 3) := by decide +kernel
theorem dX1_size_45 : decode cX1_size 45 = .ok (.iconst 1, 1) := by decide +kernel
theorem dX1_size_46 : decode cX1_size 46 = .ok (.ireturn, 1) := by decide +kernel
theorem dX1_taken_0 : decode cX1_taken 0 = .ok (.aload_n 0, 1) := by decide +kernel
theorem dX1_taken_1 : decode cX1_taken 1 = .ok (.iload_n 1, 1) := by decide +kernel
theorem dX1_taken_2 : decode cX1_taken 2 = .ok (.invokevirtual 36, 3) := by decide +kernel
theorem dX1_taken_5 : decode cX1_taken 5 = .ok (.iconst 4, 1) := by decide +kernel
theorem dX1_taken_6 : decode cX1_taken 6 = .ok (.if_icmp .ne 15, 3) := by decide +kernel
theorem dX1_taken_9 : decode cX1_taken 9 = .ok (.ldc 34, 2) := by decide +kernel
theorem dX1_taken_11 : decode cX1_taken 11 = .ok (.aload_n 0, 1) := by decide +kernel
theorem dX1_taken_12 : decode cX1_taken 12 = .ok (.iload_n 1, 1) := by decide +kernel
theorem dX1_taken_13 : decode cX1_taken 13 = .ok (.iload_n 2, 1) := by decide +kernel
theorem dX1_taken_14 : decode cX1_taken 14 = .ok (.invokevirtual 45, 3) := by decide +kernel
theorem dX1_taken_17 : decode cX1_taken 17 = .ok (.ior, 1) := by decide +kernel
theorem dX1_taken_18 : decode cX1_taken 18 = .ok (.goto 9, 3) := by decide +kernel
theorem dX1_taken_21 : decode cX1_taken 21 = .ok (.aload_n 0, 1) := by decide +kernel
theorem dX1_taken_22 : decode cX1_taken 22 = .ok (.iload_n 1, 1) := by decide +kernel
theorem dX1_taken_23 : decode cX1_taken 23 = .ok (.iload_n 2, 1) := by decide +kernel
theorem dX1_taken_24 : decode cX1_taken 24 = .ok (.invokevirtual 49, 3) := by decide +kernel
theorem dX1_taken_27 : decode cX1_taken 27 = .ok (.ireturn, 1) := by decide +kernel
theorem dX1_wordsBehind_0 : decode cX1_wordsBehind 0 = .ok (.iload_n 0, 1) := by decide +kernel
theorem dX1_wordsBehind_1 : decode cX1_wordsBehind 1 = .ok (.iconst 4, 1) := by decide +kernel
theorem dX1_wordsBehind_2 : decode cX1_wordsBehind 2 = .ok (.iushr, 1) := by decide +kernel
theorem dX1_wordsBehind_3 : decode cX1_wordsBehind 3 = .ok (.sipush 4095, 3) := by decide +kernel
theorem dX1_wordsBehind_6 : decode cX1_wordsBehind 6 = .ok (.iand, 1) := by decide +kernel
theorem dX1_wordsBehind_7 : decode cX1_wordsBehind 7 = .ok (.istore_n 1, 1) := by decide +kernel
theorem dX1_wordsBehind_8 : decode cX1_wordsBehind 8 = .ok (.iload_n 0, 1) := by decide +kernel
theorem dX1_wordsBehind_9 : decode cX1_wordsBehind 9 = .ok (.bipush 7, 2) := by decide +kernel
theorem dX1_wordsBehind_11 : decode cX1_wordsBehind 11 = .ok (.iand, 1) := by decide +kernel
theorem dX1_wordsBehind_12 : decode cX1_wordsBehind 12 = .ok (.iconst 4, 1) := by decide +kernel
theorem dX1_wordsBehind_13 : decode cX1_wordsBehind 13 = .ok (.if_icmp .ne 11, 3) := by decide +kernel
theorem dX1_wordsBehind_16 : decode cX1_wordsBehind 16 = .ok (.iload_n 1, 1) := by decide +kernel
theorem dX1_wordsBehind_17 : decode cX1_wordsBehind 17 = .ok (.iconst 3, 1) := by decide +kernel
theorem dX1_wordsBehind_18 : decode cX1_wordsBehind 18 = .ok (.iadd, 1) := by decide +kernel
theorem dX1_wordsBehind_19 : decode cX1_wordsBehind 19 = .ok (.iconst 2, 1) := by decide +kernel
theorem dX1_wordsBehind_20 : decode cX1_wordsBehind 20 = .ok (.ishr, 1) := by decide +kernel
theorem dX1_wordsBehind_21 : decode cX1_wordsBehind 21 = .ok (.goto 4, 3) := by decide +kernel
theorem dX1_wordsBehind_24 : decode cX1_wordsBehind 24 = .ok (.iload_n 1, 1) := by decide +kernel
theorem dX1_wordsBehind_25 : decode cX1_wordsBehind 25 = .ok (.ireturn, 1) := by decide +kernel
theorem dX3_assign_0 : decode cX3_assign 0 = .ok (.aload_n 0, 1) := by decide +kernel
theorem dX3_assign_1 : decode cX3_assign 1 = .ok (.getfield 39, 3) := by decide +kernel
theorem dX3_assign_4 : decode cX3_assign 4 = .ok (.iload_n 2, 1) := by decide +kernel
theorem dX3_assign_5 : decode cX3_assign 5 = .ok (.invokevirtual 316, 3) := by decide +kernel
theorem dX3_assign_8 : decode cX3_assign 8 = .ok (.aload_n 0, 1) := by decide +kernel
theorem dX3_assign_9 : decode cX3_assign 9 = .ok (.getfield 39, 3) := by decide +kernel
theorem dX3_assign_12 : decode cX3_assign 12 = .ok (.aload_n 0, 1) := by decide +kernel
theorem dX3_assign_13 : decode cX3_assign 13 = .ok (.getfield 18, 3) := by decide +kernel
theorem dX3_assign_16 : decode cX3_assign 16 = .ok (.iload_n 1, 1) := by decide +kernel
theorem dX3_assign_17 : decode cX3_assign 17 = .ok (.iaload, 1) := by decide +kernel
theorem dX3_assign_18 : decode cX3_assign 18 = .ok (.invokevirtual 316, 3) := by decide +kernel
theorem dX3_assign_21 : decode cX3_assign 21 = .ok (.isub, 1) := by decide +kernel
theorem dX3_assign_22 : decode cX3_assign 22 = .ok (.istore 4, 2) := by decide +kernel
theorem dX3_assign_24 : decode cX3_assign 24 = .ok (.iload 4, 2) := by decide +kernel
theorem dX3_assign_26 : decode cX3_assign 26 = .ok (.ifCond .le 34, 3) := by decide +kernel
theorem dX3_assign_29 : decode cX3_assign 29 = .ok (.aload_n 0, 1) := by decide +kernel
theorem dX3_assign_30 : decode cX3_assign 30 = .ok (.getfield 14, 3) := by decide +kernel
theorem dX3_assign_33 : decode cX3_assign 33 = .ok (.getfield 108, 3) := by decide +kernel
theorem dX3_assign_36 : decode cX3_assign 36 = .ok (.iload 4, 2) := by decide +kernel
theorem dX3_assign_38 : decode cX3_assign 38 = .ok (.iadd, 1) := by decide +kernel
theorem dX3_assign_39 : decode cX3_assign 39 = .ok (.aload_n 0, 1) := by decide +kernel
theorem dX3_assign_40 : decode cX3_assign 40 = .ok (.getfield 14, 3) := by decide +kernel
theorem dX3_assign_43 : decode cX3_assign 43 = .ok (.getfield 114, 3) := by decide +kernel
theorem dX3_assign_46 : decode cX3_assign 46 = .ok (.iadd, 1) := by decide +kernel
theorem dX3_assign_47 : decode cX3_assign 47 = .ok (.ldc_w 394, 3) := by decide +kernel
theorem dX3_assign_50 : decode cX3_assign 50 = .ok (.if_icmp .le 10, 3) := by decide +kernel
theorem dX3_assign_53 : decode cX3_assign 53 = .ok (.aload_n 0, 1) := by decide +kernel
theorem dX3_assign_54 : decode cX3_assign 54 = .ok (.bipush 6, 2) := by decide +kernel
theorem dX3_assign_56 : decode cX3_assign 56 = .ok (.invokevirtual 313, 3) := by decide +kernel
theorem dX3_assign_59 : decode cX3_assign 59 = .ok (.return_, 1) := by decide +kernel
theorem dX3_assign_60 : decode cX3_assign 60 = .ok (.aload_n 0, 1) := by decide +kernel
theorem dX3_assign_61 : decode cX3_assign 61 = .ok (.getfield 14, 3) := by decide +kernel
theorem dX3_assign_64 : decode cX3_assign 64 = .ok (.aload_n 0, 1) := by decide +kernel
theorem dX3_assign_65 : decode cX3_assign 65 = .ok (.getfield 14, 3) := by decide +kernel
theorem dX3_assign_68 : decode cX3_assign 68 = .ok (.getfield 108, 3) := by decide +kernel
theorem dX3_assign_71 : decode cX3_assign 71 = .ok (.iload 4, 2) := by decide +kernel
theorem dX3_assign_73 : decode cX3_assign 73 = .ok (.iadd, 1) := by decide +kernel
theorem dX3_assign_74 : decode cX3_assign 74 = .ok (.putfield 108, 3) := by decide +kernel
theorem dX3_assign_77 : decode cX3_assign 77 = .ok (.aload_n 0, 1) := by decide +kernel
theorem dX3_assign_78 : decode cX3_assign 78 = .ok (.getfield 14, 3) := by decide +kernel
theorem dX3_assign_81 : decode cX3_assign 81 = .ok (.iload_n 3, 1) := by decide +kernel
theorem dX3_assign_82 : decode cX3_assign 82 = .ok (.ifCond .eq 16, 3) := by decide +kernel
theorem dX3_assign_85 : decode cX3_assign 85 = .ok (.aload_n 0, 1) := by decide +kernel
theorem dX3_assign_86 : decode cX3_assign 86 = .ok (.getfield 14, 3) := by decide +kernel
theorem dX3_assign_89 : decode cX3_assign 89 = .ok (.getfield 111, 3) := by decide +kernel
theorem dX3_assign_92 : decode cX3_assign 92 = .ok (.iload 4, 2) := by decide +kernel
theorem dX3_assign_94 : decode cX3_assign 94 = .ok (.iadd, 1) := by decide +kernel
theorem dX3_assign_95 : decode cX3_assign 95 = .ok (.goto 10, 3) := by decide +kernel
theorem dX3_assign_98 : decode cX3_assign 98 = .ok (.aload_n 0, 1) := by decide +kernel
theorem dX3_assign_99 : decode cX3_assign 99 = .ok (.getfield 14, 3) := by decide +kernel
theorem dX3_assign_102 : decode cX3_assign 102 = .ok (.getfield 111, 3) := by decide +kernel
theorem dX3_assign_105 : decode cX3_assign 105 = .ok (.putfield 111, 3) := by decide +kernel
theorem dX3_assign_108 : decode cX3_assign 108 = .ok (.aload_n 0, 1) := by decide +kernel
theorem dX3_assign_109 : decode cX3_assign 109 = .ok (.getfield 18, 3) := by decide +kernel
theorem dX3_assign_112 : decode cX3_assign 112 = .ok (.iload_n 1, 1) := by decide +kernel
theorem dX3_assign_113 : decode cX3_assign 113 = .ok (.iload_n 2, 1) := by decide +kernel
theorem dX3_assign_114 : decode cX3_assign 114 = .ok (.iastore, 1) := by decide +kernel
theorem dX3_assign_115 : decode cX3_assign 115 = .ok (.return_, 1) := by decide +kernel
theorem dX3_beginStatement_0 : decode cX3_beginStatement 0 = .ok (.aload_n 0, 1) := by decide +kernel
theorem dX3_beginStatement_1 : decode cX3_beginStatement 1 = .ok (.getfield 140, 3) := by decide +kernel
theorem dX3_beginStatement_4 : decode cX3_beginStatement 4 = .ok (.ifCond .ne 17, 3) := by decide +kernel
theorem dX3_beginStatement_7 : decode cX3_beginStatement 7 = .ok (.aload_n 0, 1) := by decide +kernel
theorem dX3_beginStatement_8 : decode cX3_beginStatement 8 = .ok (.getfield 14, 3) := by decide +kernel
theorem dX3_beginStatement_11 : decode cX3_beginStatement 11 = .ok (.iload_n 2, 1) := by decide +kernel
theorem dX3_beginStatement_12 : decode cX3_beginStatement 12 = .ok (.putfield 78, 3) := by decide +kernel
theorem dX3_beginStatement_15 : decode cX3_beginStatement 15 = .ok (.aload_n 0, 1) := by decide +kernel
theorem dX3_beginStatement_16 : decode cX3_beginStatement 16 = .ok (.iconst 1, 1) := by decide +kernel
theorem dX3_beginStatement_17 : decode cX3_beginStatement 17 = .ok (.putfield 225, 3) := by decide +kernel
theorem dX3_beginStatement_20 : decode cX3_beginStatement 20 = .ok (.return_, 1) := by decide +kernel
theorem dX3_beginStatement_21 : decode cX3_beginStatement 21 = .ok (.aload_n 0, 1) := by decide +kernel
theorem dX3_beginStatement_22 : decode cX3_beginStatement 22 = .ok (.dup, 1) := by decide +kernel
theorem dX3_beginStatement_23 : decode cX3_beginStatement 23 = .ok (.getfield 140, 3) := by decide +kernel
theorem dX3_beginStatement_26 : decode cX3_beginStatement 26 = .ok (.iconst 1, 1) := by decide +kernel
theorem dX3_beginStatement_27 : decode cX3_beginStatement 27 = .ok (.isub, 1) := by decide +kernel
theorem dX3_beginStatement_28 : decode cX3_beginStatement 28 = .ok (.putfield 140, 3) := by decide +kernel
theorem dX3_beginStatement_31 : decode cX3_beginStatement 31 = .ok (.aload_n 0, 1) := by decide +kernel
theorem dX3_beginStatement_32 : decode cX3_beginStatement 32 = .ok (.getfield 14, 3) := by decide +kernel
theorem dX3_beginStatement_35 : decode cX3_beginStatement 35 = .ok (.dup, 1) := by decide +kernel
theorem dX3_beginStatement_36 : decode cX3_beginStatement 36 = .ok (.getfield 87, 3) := by decide +kernel
theorem dX3_beginStatement_39 : decode cX3_beginStatement 39 = .ok (.iconst 1, 1) := by decide +kernel
theorem dX3_beginStatement_40 : decode cX3_beginStatement 40 = .ok (.iadd, 1) := by decide +kernel
theorem dX3_beginStatement_41 : decode cX3_beginStatement 41 = .ok (.putfield 87, 3) := by decide +kernel
theorem dX3_beginStatement_44 : decode cX3_beginStatement 44 = .ok (.aload_n 0, 1) := by decide +kernel
theorem dX3_beginStatement_45 : decode cX3_beginStatement 45 = .ok (.getfield 14, 3) := by decide +kernel
theorem dX3_beginStatement_48 : decode cX3_beginStatement 48 = .ok (.iload_n 1, 1) := by decide +kernel
theorem dX3_beginStatement_49 : decode cX3_beginStatement 49 = .ok (.putfield 90, 3) := by decide +kernel
theorem dX3_beginStatement_52 : decode cX3_beginStatement 52 = .ok (.aload_n 0, 1) := by decide +kernel
theorem dX3_beginStatement_53 : decode cX3_beginStatement 53 = .ok (.getfield 14, 3) := by decide +kernel
theorem dX3_beginStatement_56 : decode cX3_beginStatement 56 = .ok (.iconst 0, 1) := by decide +kernel
theorem dX3_beginStatement_57 : decode cX3_beginStatement 57 = .ok (.putfield 93, 3) := by decide +kernel
theorem dX3_beginStatement_60 : decode cX3_beginStatement 60 = .ok (.return_, 1) := by decide +kernel
theorem dX3_beginWork_0 : decode cX3_beginWork 0 = .ok (.aload_n 0, 1) := by decide +kernel
theorem dX3_beginWork_1 : decode cX3_beginWork 1 = .ok (.iconst 0, 1) := by decide +kernel
theorem dX3_beginWork_2 : decode cX3_beginWork 2 = .ok (.putfield 225, 3) := by decide +kernel
theorem dX3_beginWork_5 : decode cX3_beginWork 5 = .ok (.aload_n 0, 1) := by decide +kernel
theorem dX3_beginWork_6 : decode cX3_beginWork 6 = .ok (.iconst 0, 1) := by decide +kernel
theorem dX3_beginWork_7 : decode cX3_beginWork 7 = .ok (.putfield 149, 3) := by decide +kernel
theorem dX3_beginWork_10 : decode cX3_beginWork 10 = .ok (.aload_n 0, 1) := by decide +kernel
theorem dX3_beginWork_11 : decode cX3_beginWork 11 = .ok (.iconst 0, 1) := by decide +kernel
theorem dX3_beginWork_12 : decode cX3_beginWork 12 = .ok (.putfield 229, 3) := by decide +kernel
theorem dX3_beginWork_15 : decode cX3_beginWork 15 = .ok (.aload_n 0, 1) := by decide +kernel
theorem dX3_beginWork_16 : decode cX3_beginWork 16 = .ok (.iconst 0, 1) := by decide +kernel
theorem dX3_beginWork_17 : decode cX3_beginWork 17 = .ok (.putfield 232, 3) := by decide +kernel
theorem dX3_beginWork_20 : decode cX3_beginWork 20 = .ok (.aload_n 0, 1) := by decide +kernel
theorem dX3_beginWork_21 : decode cX3_beginWork 21 = .ok (.iconst 0, 1) := by decide +kernel
theorem dX3_beginWork_22 : decode cX3_beginWork 22 = .ok (.putfield 235, 3) := by decide +kernel
theorem dX3_beginWork_25 : decode cX3_beginWork 25 = .ok (.return_, 1) := by decide +kernel
theorem dX3_clearFor_0 : decode cX3_clearFor 0 = .ok (.aload_n 0, 1) := by decide +kernel
theorem dX3_clearFor_1 : decode cX3_clearFor 1 = .ok (.aload_n 0, 1) := by decide +kernel
theorem dX3_clearFor_2 : decode cX3_clearFor 2 = .ok (.getfield 18, 3) := by decide +kernel
theorem dX3_clearFor_5 : decode cX3_clearFor 5 = .ok (.iload_n 1, 1) := by decide +kernel
theorem dX3_clearFor_6 : decode cX3_clearFor 6 = .ok (.iconst 1, 1) := by decide +kernel
theorem dX3_clearFor_7 : decode cX3_clearFor 7 = .ok (.invokevirtual 513, 3) := by decide +kernel
theorem dX3_clearFor_10 : decode cX3_clearFor 10 = .ok (.iload_n 2, 1) := by decide +kernel
theorem dX3_clearFor_11 : decode cX3_clearFor 11 = .ok (.istore 4, 2) := by decide +kernel
theorem dX3_clearFor_13 : decode cX3_clearFor 13 = .ok (.iload 4, 2) := by decide +kernel
theorem dX3_clearFor_15 : decode cX3_clearFor 15 = .ok (.iload_n 2, 1) := by decide +kernel
theorem dX3_clearFor_16 : decode cX3_clearFor 16 = .ok (.iload_n 3, 1) := by decide +kernel
theorem dX3_clearFor_17 : decode cX3_clearFor 17 = .ok (.iadd, 1) := by decide +kernel
theorem dX3_clearFor_18 : decode cX3_clearFor 18 = .ok (.if_icmp .ge 18, 3) := by decide +kernel
theorem dX3_clearFor_21 : decode cX3_clearFor 21 = .ok (.aload_n 0, 1) := by decide +kernel
theorem dX3_clearFor_22 : decode cX3_clearFor 22 = .ok (.iload 4, 2) := by decide +kernel
theorem dX3_clearFor_24 : decode cX3_clearFor 24 = .ok (.ldc 136, 2) := by decide +kernel
theorem dX3_clearFor_26 : decode cX3_clearFor 26 = .ok (.iconst 1, 1) := by decide +kernel
theorem dX3_clearFor_27 : decode cX3_clearFor 27 = .ok (.invokevirtual 504, 3) := by decide +kernel
theorem dX3_clearFor_30 : decode cX3_clearFor 30 = .ok (.iinc 4 1, 3) := by decide +kernel
theorem dX3_clearFor_33 : decode cX3_clearFor 33 = .ok (.goto (-20), 3) := by decide +kernel
theorem dX3_clearFor_36 : decode cX3_clearFor 36 = .ok (.return_, 1) := by decide +kernel
theorem dX3_countOut_0 : decode cX3_countOut 0 = .ok (.aload_n 0, 1) := by decide +kernel
theorem dX3_countOut_1 : decode cX3_countOut 1 = .ok (.getfield 14, 3) := by decide +kernel
theorem dX3_countOut_4 : decode cX3_countOut 4 = .ok (.aload_n 0, 1) := by decide +kernel
theorem dX3_countOut_5 : decode cX3_countOut 5 = .ok (.getfield 14, 3) := by decide +kernel
theorem dX3_countOut_8 : decode cX3_countOut 8 = .ok (.getfield 125, 3) := by decide +kernel
theorem dX3_countOut_11 : decode cX3_countOut 11 = .ok (.iload_n 1, 1) := by decide +kernel
theorem dX3_countOut_12 : decode cX3_countOut 12 = .ok (.iadd, 1) := by decide +kernel
theorem dX3_countOut_13 : decode cX3_countOut 13 = .ok (.ldc_w 430, 3) := by decide +kernel
theorem dX3_countOut_16 : decode cX3_countOut 16 = .ok (.invokestatic 418, 3) := by decide +kernel
theorem dX3_countOut_19 : decode cX3_countOut 19 = .ok (.putfield 125, 3) := by decide +kernel
theorem dX3_countOut_22 : decode cX3_countOut 22 = .ok (.return_, 1) := by decide +kernel
theorem dX3_drawn_0 : decode cX3_drawn 0 = .ok (.aload_n 0, 1) := by decide +kernel
theorem dX3_drawn_1 : decode cX3_drawn 1 = .ok (.getfield 39, 3) := by decide +kernel
theorem dX3_drawn_4 : decode cX3_drawn 4 = .ok (.iload_n 1, 1) := by decide +kernel
theorem dX3_drawn_5 : decode cX3_drawn 5 = .ok (.invokevirtual 396, 3) := by decide +kernel
theorem dX3_drawn_8 : decode cX3_drawn 8 = .ok (.istore_n 2, 1) := by decide +kernel
theorem dX3_drawn_9 : decode cX3_drawn 9 = .ok (.iload_n 2, 1) := by decide +kernel
theorem dX3_drawn_10 : decode cX3_drawn 10 = .ok (.iconst 4, 1) := by decide +kernel
theorem dX3_drawn_11 : decode cX3_drawn 11 = .ok (.if_icmp .lt 35, 3) := by decide +kernel
theorem dX3_drawn_14 : decode cX3_drawn 14 = .ok (.aload_n 0, 1) := by decide +kernel
theorem dX3_drawn_15 : decode cX3_drawn 15 = .ok (.getfield 39, 3) := by decide +kernel
theorem dX3_drawn_18 : decode cX3_drawn 18 = .ok (.iload_n 1, 1) := by decide +kernel
theorem dX3_drawn_19 : decode cX3_drawn 19 = .ok (.invokevirtual 399, 3) := by decide +kernel
theorem dX3_drawn_22 : decode cX3_drawn 22 = .ok (.istore_n 3, 1) := by decide +kernel
theorem dX3_drawn_23 : decode cX3_drawn 23 = .ok (.iload_n 3, 1) := by decide +kernel
theorem dX3_drawn_24 : decode cX3_drawn 24 = .ok (.ifCond .ne 8, 3) := by decide +kernel
theorem dX3_drawn_27 : decode cX3_drawn 27 = .ok (.ldc 136, 2) := by decide +kernel
theorem dX3_drawn_29 : decode cX3_drawn 29 = .ok (.goto 16, 3) := by decide +kernel
theorem dX3_drawn_32 : decode cX3_drawn 32 = .ok (.aload_n 0, 1) := by decide +kernel
theorem dX3_drawn_33 : decode cX3_drawn 33 = .ok (.getfield 39, 3) := by decide +kernel
theorem dX3_drawn_36 : decode cX3_drawn 36 = .ok (.iload_n 1, 1) := by decide +kernel
theorem dX3_drawn_37 : decode cX3_drawn 37 = .ok (.aload_n 0, 1) := by decide +kernel
theorem dX3_drawn_38 : decode cX3_drawn 38 = .ok (.iload_n 3, 1) := by decide +kernel
theorem dX3_drawn_39 : decode cX3_drawn 39 = .ok (.invokevirtual 470, 3) := by decide +kernel
theorem dX3_drawn_42 : decode cX3_drawn 42 = .ok (.invokevirtual 473, 3) := by decide +kernel
theorem dX3_drawn_45 : decode cX3_drawn 45 = .ok (.ireturn, 1) := by decide +kernel
theorem dX3_drawn_46 : decode cX3_drawn 46 = .ok (.iload_n 2, 1) := by decide +kernel
theorem dX3_drawn_47 : decode cX3_drawn 47 = .ok (.iconst 2, 1) := by decide +kernel
theorem dX3_drawn_48 : decode cX3_drawn 48 = .ok (.if_icmp .eq 7, 3) := by decide +kernel
theorem dX3_drawn_51 : decode cX3_drawn 51 = .ok (.ldc_w 445, 3) := by decide +kernel
theorem dX3_drawn_54 : decode cX3_drawn 54 = .ok (.ireturn, 1) := by decide +kernel
theorem dX3_drawn_55 : decode cX3_drawn 55 = .ok (.iload_n 1, 1) := by decide +kernel
theorem dX3_drawn_56 : decode cX3_drawn 56 = .ok (.ifCond .ge 10, 3) := by decide +kernel
theorem dX3_drawn_59 : decode cX3_drawn 59 = .ok (.iload_n 1, 1) := by decide +kernel
theorem dX3_drawn_60 : decode cX3_drawn 60 = .ok (.invokestatic 476, 3) := by decide +kernel
theorem dX3_drawn_63 : decode cX3_drawn 63 = .ok (.goto 30, 3) := by decide +kernel
theorem dX3_drawn_66 : decode cX3_drawn 66 = .ok (.aload_n 0, 1) := by decide +kernel
theorem dX3_drawn_67 : decode cX3_drawn 67 = .ok (.getfield 39, 3) := by decide +kernel
theorem dX3_drawn_70 : decode cX3_drawn 70 = .ok (.iload_n 1, 1) := by decide +kernel
theorem dX3_drawn_71 : decode cX3_drawn 71 = .ok (.invokevirtual 399, 3) := by decide +kernel
theorem dX3_drawn_74 : decode cX3_drawn 74 = .ok (.iconst 1, 1) := by decide +kernel
theorem dX3_drawn_75 : decode cX3_drawn 75 = .ok (.if_icmp .ne 17, 3) := by decide +kernel
theorem dX3_drawn_78 : decode cX3_drawn 78 = .ok (.aload_n 0, 1) := by decide +kernel
theorem dX3_drawn_79 : decode cX3_drawn 79 = .ok (.getfield 39, 3) := by decide +kernel
theorem dX3_drawn_82 : decode cX3_drawn 82 = .ok (.getfield 481, 3) := by decide +kernel
theorem dX3_drawn_85 : decode cX3_drawn 85 = .ok (.iload_n 1, 1) := by decide +kernel
theorem dX3_drawn_86 : decode cX3_drawn 86 = .ok (.iconst 1, 1) := by decide +kernel
theorem dX3_drawn_87 : decode cX3_drawn 87 = .ok (.iadd, 1) := by decide +kernel
theorem dX3_drawn_88 : decode cX3_drawn 88 = .ok (.iaload, 1) := by decide +kernel
theorem dX3_drawn_89 : decode cX3_drawn 89 = .ok (.goto 4, 3) := by decide +kernel
theorem dX3_drawn_92 : decode cX3_drawn 92 = .ok (.iconst 0, 1) := by decide +kernel
theorem dX3_drawn_93 : decode cX3_drawn 93 = .ok (.istore_n 3, 1) := by decide +kernel
theorem dX3_drawn_94 : decode cX3_drawn 94 = .ok (.iload_n 3, 1) := by decide +kernel
theorem dX3_drawn_95 : decode cX3_drawn 95 = .ok (.iconst 1, 1) := by decide +kernel
theorem dX3_drawn_96 : decode cX3_drawn 96 = .ok (.if_icmp .lt 14, 3) := by decide +kernel
theorem dX3_drawn_99 : decode cX3_drawn 99 = .ok (.aload_n 0, 1) := by decide +kernel
theorem dX3_drawn_100 : decode cX3_drawn 100 = .ok (.getfield 43, 3) := by decide +kernel
theorem dX3_drawn_103 : decode cX3_drawn 103 = .ok (.iload_n 1, 1) := by decide +kernel
theorem dX3_drawn_104 : decode cX3_drawn 104 = .ok (.invokevirtual 484, 3) := by decide +kernel
theorem dX3_drawn_107 : decode cX3_drawn 107 = .ok (.ifCond .eq 7, 3) := by decide +kernel
theorem dX3_drawn_110 : decode cX3_drawn 110 = .ok (.ldc_w 487, 3) := by decide +kernel
theorem dX3_drawn_113 : decode cX3_drawn 113 = .ok (.ireturn, 1) := by decide +kernel
theorem dX3_drawn_114 : decode cX3_drawn 114 = .ok (.aload_n 0, 1) := by decide +kernel
theorem dX3_drawn_115 : decode cX3_drawn 115 = .ok (.getfield 43, 3) := by decide +kernel
theorem dX3_drawn_118 : decode cX3_drawn 118 = .ok (.lconst 1, 1) := by decide +kernel
theorem dX3_drawn_119 : decode cX3_drawn 119 = .ok (.aload_n 0, 1) := by decide +kernel
theorem dX3_drawn_120 : decode cX3_drawn 120 = .ok (.iload_n 3, 1) := by decide +kernel
theorem dX3_drawn_121 : decode cX3_drawn 121 = .ok (.invokevirtual 470, 3) := by decide +kernel
theorem dX3_drawn_124 : decode cX3_drawn 124 = .ok (.i2l, 1) := by decide +kernel
theorem dX3_drawn_125 : decode cX3_drawn 125 = .ok (.ladd, 1) := by decide +kernel
theorem dX3_drawn_126 : decode cX3_drawn 126 = .ok (.invokevirtual 488, 3) := by decide +kernel
theorem dX3_drawn_129 : decode cX3_drawn 129 = .ok (.ireturn, 1) := by decide +kernel
theorem dX3_endProc_0 : decode cX3_endProc 0 = .ok (.aload_n 0, 1) := by decide +kernel
theorem dX3_endProc_1 : decode cX3_endProc 1 = .ok (.invokevirtual 339, 3) := by decide +kernel
theorem dX3_endProc_4 : decode cX3_endProc 4 = .ok (.istore_n 1, 1) := by decide +kernel
theorem dX3_endProc_5 : decode cX3_endProc 5 = .ok (.aload_n 0, 1) := by decide +kernel
theorem dX3_endProc_6 : decode cX3_endProc 6 = .ok (.getfield 14, 3) := by decide +kernel
theorem dX3_endProc_9 : decode cX3_endProc 9 = .ok (.getfield 81, 3) := by decide +kernel
theorem dX3_endProc_12 : decode cX3_endProc 12 = .ok (.istore_n 2, 1) := by decide +kernel
theorem dX3_endProc_13 : decode cX3_endProc 13 = .ok (.aload_n 0, 1) := by decide +kernel
theorem dX3_endProc_14 : decode cX3_endProc 14 = .ok (.getfield 58, 3) := by decide +kernel
theorem dX3_endProc_17 : decode cX3_endProc 17 = .ok (.getfield 382, 3) := by decide +kernel
theorem dX3_endProc_20 : decode cX3_endProc 20 = .ok (.aload_n 0, 1) := by decide +kernel
theorem dX3_endProc_21 : decode cX3_endProc 21 = .ok (.getfield 18, 3) := by decide +kernel
theorem dX3_endProc_24 : decode cX3_endProc 24 = .ok (.iload_n 2, 1) := by decide +kernel
theorem dX3_endProc_25 : decode cX3_endProc 25 = .ok (.iconst 2, 1) := by decide +kernel
theorem dX3_endProc_26 : decode cX3_endProc 26 = .ok (.iadd, 1) := by decide +kernel
theorem dX3_endProc_27 : decode cX3_endProc 27 = .ok (.iaload, 1) := by decide +kernel
theorem dX3_endProc_28 : decode cX3_endProc 28 = .ok (.invokestatic 388, 3) := by decide +kernel
theorem dX3_endProc_31 : decode cX3_endProc 31 = .ok (.iaload, 1) := by decide +kernel
theorem dX3_endProc_32 : decode cX3_endProc 32 = .ok (.istore_n 3, 1) := by decide +kernel
theorem dX3_endProc_33 : decode cX3_endProc 33 = .ok (.aload_n 0, 1) := by decide +kernel
theorem dX3_endProc_34 : decode cX3_endProc 34 = .ok (.getfield 14, 3) := by decide +kernel
theorem dX3_endProc_37 : decode cX3_endProc 37 = .ok (.aload_n 0, 1) := by decide +kernel
theorem dX3_endProc_38 : decode cX3_endProc 38 = .ok (.getfield 18, 3) := by decide +kernel
theorem dX3_endProc_41 : decode cX3_endProc 41 = .ok (.iload_n 2, 1) := by decide +kernel
theorem dX3_endProc_42 : decode cX3_endProc 42 = .ok (.iaload, 1) := by decide +kernel
theorem dX3_endProc_43 : decode cX3_endProc 43 = .ok (.invokestatic 388, 3) := by decide +kernel
theorem dX3_endProc_46 : decode cX3_endProc 46 = .ok (.putfield 78, 3) := by decide +kernel
theorem dX3_endProc_49 : decode cX3_endProc 49 = .ok (.aload_n 0, 1) := by decide +kernel
theorem dX3_endProc_50 : decode cX3_endProc 50 = .ok (.getfield 14, 3) := by decide +kernel
theorem dX3_endProc_53 : decode cX3_endProc 53 = .ok (.aload_n 0, 1) := by decide +kernel
theorem dX3_endProc_54 : decode cX3_endProc 54 = .ok (.getfield 18, 3) := by decide +kernel
theorem dX3_endProc_57 : decode cX3_endProc 57 = .ok (.iload_n 2, 1) := by decide +kernel
theorem dX3_endProc_58 : decode cX3_endProc 58 = .ok (.iconst 1, 1) := by decide +kernel
theorem dX3_endProc_59 : decode cX3_endProc 59 = .ok (.iadd, 1) := by decide +kernel
theorem dX3_endProc_60 : decode cX3_endProc 60 = .ok (.iaload, 1) := by decide +kernel
theorem dX3_endProc_61 : decode cX3_endProc 61 = .ok (.invokestatic 388, 3) := by decide +kernel
theorem dX3_endProc_64 : decode cX3_endProc 64 = .ok (.putfield 81, 3) := by decide +kernel
theorem dX3_endProc_67 : decode cX3_endProc 67 = .ok (.aload_n 0, 1) := by decide +kernel
theorem dX3_endProc_68 : decode cX3_endProc 68 = .ok (.getfield 14, 3) := by decide +kernel
theorem dX3_endProc_71 : decode cX3_endProc 71 = .ok (.dup, 1) := by decide +kernel
theorem dX3_endProc_72 : decode cX3_endProc 72 = .ok (.getfield 102, 3) := by decide +kernel
theorem dX3_endProc_75 : decode cX3_endProc 75 = .ok (.iconst 1, 1) := by decide +kernel
theorem dX3_endProc_76 : decode cX3_endProc 76 = .ok (.isub, 1) := by decide +kernel
theorem dX3_endProc_77 : decode cX3_endProc 77 = .ok (.putfield 102, 3) := by decide +kernel
theorem dX3_endProc_80 : decode cX3_endProc 80 = .ok (.aload_n 0, 1) := by decide +kernel
theorem dX3_endProc_81 : decode cX3_endProc 81 = .ok (.getfield 14, 3) := by decide +kernel
theorem dX3_endProc_84 : decode cX3_endProc 84 = .ok (.aload_n 0, 1) := by decide +kernel
theorem dX3_endProc_85 : decode cX3_endProc 85 = .ok (.getfield 14, 3) := by decide +kernel
theorem dX3_endProc_88 : decode cX3_endProc 88 = .ok (.getfield 108, 3) := by decide +kernel
theorem dX3_endProc_91 : decode cX3_endProc 91 = .ok (.aload_n 0, 1) := by decide +kernel
theorem dX3_endProc_92 : decode cX3_endProc 92 = .ok (.getfield 14, 3) := by decide +kernel
theorem dX3_endProc_95 : decode cX3_endProc 95 = .ok (.getfield 111, 3) := by decide +kernel
theorem dX3_endProc_98 : decode cX3_endProc 98 = .ok (.isub, 1) := by decide +kernel
theorem dX3_endProc_99 : decode cX3_endProc 99 = .ok (.putfield 108, 3) := by decide +kernel
theorem dX3_endProc_102 : decode cX3_endProc 102 = .ok (.aload_n 0, 1) := by decide +kernel
theorem dX3_endProc_103 : decode cX3_endProc 103 = .ok (.getfield 14, 3) := by decide +kernel
theorem dX3_endProc_106 : decode cX3_endProc 106 = .ok (.aload_n 0, 1) := by decide +kernel
theorem dX3_endProc_107 : decode cX3_endProc 107 = .ok (.getfield 18, 3) := by decide +kernel
theorem dX3_endProc_110 : decode cX3_endProc 110 = .ok (.iload_n 2, 1) := by decide +kernel
theorem dX3_endProc_111 : decode cX3_endProc 111 = .ok (.iconst 3, 1) := by decide +kernel
theorem dX3_endProc_112 : decode cX3_endProc 112 = .ok (.iadd, 1) := by decide +kernel
theorem dX3_endProc_113 : decode cX3_endProc 113 = .ok (.iaload, 1) := by decide +kernel
theorem dX3_endProc_114 : decode cX3_endProc 114 = .ok (.invokestatic 388, 3) := by decide +kernel
theorem dX3_endProc_117 : decode cX3_endProc 117 = .ok (.putfield 111, 3) := by decide +kernel
theorem dX3_endProc_120 : decode cX3_endProc 120 = .ok (.aload_n 0, 1) := by decide +kernel
theorem dX3_endProc_121 : decode cX3_endProc 121 = .ok (.getfield 18, 3) := by decide +kernel
theorem dX3_endProc_124 : decode cX3_endProc 124 = .ok (.iload_n 2, 1) := by decide +kernel
theorem dX3_endProc_125 : decode cX3_endProc 125 = .ok (.iload_n 1, 1) := by decide +kernel
theorem dX3_endProc_126 : decode cX3_endProc 126 = .ok (.iastore, 1) := by decide +kernel
theorem dX3_endProc_127 : decode cX3_endProc 127 = .ok (.iconst 1, 1) := by decide +kernel
theorem dX3_endProc_128 : decode cX3_endProc 128 = .ok (.istore 4, 2) := by decide +kernel
theorem dX3_endProc_130 : decode cX3_endProc 130 = .ok (.iload 4, 2) := by decide +kernel
theorem dX3_endProc_132 : decode cX3_endProc 132 = .ok (.iload_n 3, 1) := by decide +kernel
theorem dX3_endProc_133 : decode cX3_endProc 133 = .ok (.if_icmp .gt 31, 3) := by decide +kernel
theorem dX3_endProc_136 : decode cX3_endProc 136 = .ok (.aload_n 0, 1) := by decide +kernel
theorem dX3_endProc_137 : decode cX3_endProc 137 = .ok (.getfield 18, 3) := by decide +kernel
theorem dX3_endProc_140 : decode cX3_endProc 140 = .ok (.iload_n 2, 1) := by decide +kernel
theorem dX3_endProc_141 : decode cX3_endProc 141 = .ok (.iload 4, 2) := by decide +kernel
theorem dX3_endProc_143 : decode cX3_endProc 143 = .ok (.iadd, 1) := by decide +kernel
theorem dX3_endProc_144 : decode cX3_endProc 144 = .ok (.aload_n 0, 1) := by decide +kernel
theorem dX3_endProc_145 : decode cX3_endProc 145 = .ok (.getfield 18, 3) := by decide +kernel
theorem dX3_endProc_148 : decode cX3_endProc 148 = .ok (.iload_n 2, 1) := by decide +kernel
theorem dX3_endProc_149 : decode cX3_endProc 149 = .ok (.iconst 4, 1) := by decide +kernel
theorem dX3_endProc_150 : decode cX3_endProc 150 = .ok (.iadd, 1) := by decide +kernel
theorem dX3_endProc_151 : decode cX3_endProc 151 = .ok (.iconst 1, 1) := by decide +kernel
theorem dX3_endProc_152 : decode cX3_endProc 152 = .ok (.isub, 1) := by decide +kernel
theorem dX3_endProc_153 : decode cX3_endProc 153 = .ok (.iload 4, 2) := by decide +kernel
theorem dX3_endProc_155 : decode cX3_endProc 155 = .ok (.iadd, 1) := by decide +kernel
theorem dX3_endProc_156 : decode cX3_endProc 156 = .ok (.iaload, 1) := by decide +kernel
theorem dX3_endProc_157 : decode cX3_endProc 157 = .ok (.iastore, 1) := by decide +kernel
theorem dX3_endProc_158 : decode cX3_endProc 158 = .ok (.iinc 4 1, 3) := by decide +kernel
theorem dX3_endProc_161 : decode cX3_endProc 161 = .ok (.goto (-31), 3) := by decide +kernel
theorem dX3_endProc_164 : decode cX3_endProc 164 = .ok (.aload_n 0, 1) := by decide +kernel
theorem dX3_endProc_165 : decode cX3_endProc 165 = .ok (.getfield 14, 3) := by decide +kernel
theorem dX3_endProc_168 : decode cX3_endProc 168 = .ok (.iload_n 2, 1) := by decide +kernel
theorem dX3_endProc_169 : decode cX3_endProc 169 = .ok (.iconst 1, 1) := by decide +kernel
theorem dX3_endProc_170 : decode cX3_endProc 170 = .ok (.iadd, 1) := by decide +kernel
theorem dX3_endProc_171 : decode cX3_endProc 171 = .ok (.iload_n 3, 1) := by decide +kernel
theorem dX3_endProc_172 : decode cX3_endProc 172 = .ok (.iadd, 1) := by decide +kernel
theorem dX3_endProc_173 : decode cX3_endProc 173 = .ok (.putfield 84, 3) := by decide +kernel
theorem dX3_endProc_176 : decode cX3_endProc 176 = .ok (.return_, 1) := by decide +kernel
theorem dX3_fail_0 : decode cX3_fail 0 = .ok (.aload_n 0, 1) := by decide +kernel
theorem dX3_fail_1 : decode cX3_fail 1 = .ok (.iload_n 1, 1) := by decide +kernel
theorem dX3_fail_2 : decode cX3_fail 2 = .ok (.putfield 149, 3) := by decide +kernel
theorem dX3_fail_5 : decode cX3_fail 5 = .ok (.aload_n 0, 1) := by decide +kernel
theorem dX3_fail_6 : decode cX3_fail 6 = .ok (.iconst 1, 1) := by decide +kernel
theorem dX3_fail_7 : decode cX3_fail 7 = .ok (.putfield 225, 3) := by decide +kernel
theorem dX3_fail_10 : decode cX3_fail 10 = .ok (.return_, 1) := by decide +kernel
theorem dX3_global_0 : decode cX3_global 0 = .ok (.aload_n 0, 1) := by decide +kernel
theorem dX3_global_1 : decode cX3_global 1 = .ok (.getfield 18, 3) := by decide +kernel
theorem dX3_global_4 : decode cX3_global 4 = .ok (.iconst 4, 1) := by decide +kernel
theorem dX3_global_5 : decode cX3_global 5 = .ok (.iload_n 1, 1) := by decide +kernel
theorem dX3_global_6 : decode cX3_global 6 = .ok (.iadd, 1) := by decide +kernel
theorem dX3_global_7 : decode cX3_global 7 = .ok (.iaload, 1) := by decide +kernel
theorem dX3_global_8 : decode cX3_global 8 = .ok (.ireturn, 1) := by decide +kernel
theorem dX3_letGo_0 : decode cX3_letGo 0 = .ok (.iload_n 3, 1) := by decide +kernel
theorem dX3_letGo_1 : decode cX3_letGo 1 = .ok (.ifCond .eq 57, 3) := by decide +kernel
theorem dX3_letGo_4 : decode cX3_letGo 4 = .ok (.aload_n 1, 1) := by decide +kernel
theorem dX3_letGo_5 : decode cX3_letGo 5 = .ok (.iload_n 2, 1) := by decide +kernel
theorem dX3_letGo_6 : decode cX3_letGo 6 = .ok (.iaload, 1) := by decide +kernel
theorem dX3_letGo_7 : decode cX3_letGo 7 = .ok (.ldc 136, 2) := by decide +kernel
theorem dX3_letGo_9 : decode cX3_letGo 9 = .ok (.if_icmp .eq 49, 3) := by decide +kernel
theorem dX3_letGo_12 : decode cX3_letGo 12 = .ok (.aload_n 0, 1) := by decide +kernel
theorem dX3_letGo_13 : decode cX3_letGo 13 = .ok (.getfield 39, 3) := by decide +kernel
theorem dX3_letGo_16 : decode cX3_letGo 16 = .ok (.aload_n 1, 1) := by decide +kernel
theorem dX3_letGo_17 : decode cX3_letGo 17 = .ok (.iload_n 2, 1) := by decide +kernel
theorem dX3_letGo_18 : decode cX3_letGo 18 = .ok (.iaload, 1) := by decide +kernel
theorem dX3_letGo_19 : decode cX3_letGo 19 = .ok (.invokevirtual 316, 3) := by decide +kernel
theorem dX3_letGo_22 : decode cX3_letGo 22 = .ok (.istore 4, 2) := by decide +kernel
theorem dX3_letGo_24 : decode cX3_letGo 24 = .ok (.aload_n 0, 1) := by decide +kernel
theorem dX3_letGo_25 : decode cX3_letGo 25 = .ok (.getfield 14, 3) := by decide +kernel
theorem dX3_letGo_28 : decode cX3_letGo 28 = .ok (.aload_n 0, 1) := by decide +kernel
theorem dX3_letGo_29 : decode cX3_letGo 29 = .ok (.getfield 14, 3) := by decide +kernel
theorem dX3_letGo_32 : decode cX3_letGo 32 = .ok (.getfield 108, 3) := by decide +kernel
theorem dX3_letGo_35 : decode cX3_letGo 35 = .ok (.iload 4, 2) := by decide +kernel
theorem dX3_letGo_37 : decode cX3_letGo 37 = .ok (.isub, 1) := by decide +kernel
theorem dX3_letGo_38 : decode cX3_letGo 38 = .ok (.putfield 108, 3) := by decide +kernel
theorem dX3_letGo_41 : decode cX3_letGo 41 = .ok (.aload_n 0, 1) := by decide +kernel
theorem dX3_letGo_42 : decode cX3_letGo 42 = .ok (.getfield 14, 3) := by decide +kernel
theorem dX3_letGo_45 : decode cX3_letGo 45 = .ok (.aload_n 0, 1) := by decide +kernel
theorem dX3_letGo_46 : decode cX3_letGo 46 = .ok (.getfield 14, 3) := by decide +kernel
theorem dX3_letGo_49 : decode cX3_letGo 49 = .ok (.getfield 111, 3) := by decide +kernel
theorem dX3_letGo_52 : decode cX3_letGo 52 = .ok (.iload 4, 2) := by decide +kernel
theorem dX3_letGo_54 : decode cX3_letGo 54 = .ok (.isub, 1) := by decide +kernel
theorem dX3_letGo_55 : decode cX3_letGo 55 = .ok (.putfield 111, 3) := by decide +kernel
theorem dX3_letGo_58 : decode cX3_letGo 58 = .ok (.aload_n 1, 1) := by decide +kernel
theorem dX3_letGo_59 : decode cX3_letGo 59 = .ok (.iload_n 2, 1) := by decide +kernel
theorem dX3_letGo_60 : decode cX3_letGo 60 = .ok (.ldc 136, 2) := by decide +kernel
theorem dX3_letGo_62 : decode cX3_letGo 62 = .ok (.iastore, 1) := by decide +kernel
theorem dX3_letGo_63 : decode cX3_letGo 63 = .ok (.aload_n 1, 1) := by decide +kernel
theorem dX3_letGo_64 : decode cX3_letGo 64 = .ok (.iload_n 2, 1) := by decide +kernel
theorem dX3_letGo_65 : decode cX3_letGo 65 = .ok (.iconst 1, 1) := by decide +kernel
theorem dX3_letGo_66 : decode cX3_letGo 66 = .ok (.iadd, 1) := by decide +kernel
theorem dX3_letGo_67 : decode cX3_letGo 67 = .ok (.ldc 136, 2) := by decide +kernel
theorem dX3_letGo_69 : decode cX3_letGo 69 = .ok (.iastore, 1) := by decide +kernel
theorem dX3_letGo_70 : decode cX3_letGo 70 = .ok (.return_, 1) := by decide +kernel
theorem dX3_moveAll_0 : decode cX3_moveAll 0 = .ok (.aload_n 0, 1) := by decide +kernel
theorem dX3_moveAll_1 : decode cX3_moveAll 1 = .ok (.getfield 39, 3) := by decide +kernel
theorem dX3_moveAll_4 : decode cX3_moveAll 4 = .ok (.invokevirtual 210, 3) := by decide +kernel
theorem dX3_moveAll_7 : decode cX3_moveAll 7 = .ok (.aload_n 0, 1) := by decide +kernel
theorem dX3_moveAll_8 : decode cX3_moveAll 8 = .ok (.getfield 39, 3) := by decide +kernel
theorem dX3_moveAll_11 : decode cX3_moveAll 11 = .ok (.aload_n 0, 1) := by decide +kernel
theorem dX3_moveAll_12 : decode cX3_moveAll 12 = .ok (.getfield 18, 3) := by decide +kernel
theorem dX3_moveAll_15 : decode cX3_moveAll 15 = .ok (.aload_n 0, 1) := by decide +kernel
theorem dX3_moveAll_16 : decode cX3_moveAll 16 = .ok (.getfield 14, 3) := by decide +kernel
theorem dX3_moveAll_19 : decode cX3_moveAll 19 = .ok (.getfield 84, 3) := by decide +kernel
theorem dX3_moveAll_22 : decode cX3_moveAll 22 = .ok (.invokevirtual 213, 3) := by decide +kernel
theorem dX3_moveAll_25 : decode cX3_moveAll 25 = .ok (.aload_n 0, 1) := by decide +kernel
theorem dX3_moveAll_26 : decode cX3_moveAll 26 = .ok (.getfield 39, 3) := by decide +kernel
theorem dX3_moveAll_29 : decode cX3_moveAll 29 = .ok (.aload_n 0, 1) := by decide +kernel
theorem dX3_moveAll_30 : decode cX3_moveAll 30 = .ok (.getfield 29, 3) := by decide +kernel
theorem dX3_moveAll_33 : decode cX3_moveAll 33 = .ok (.aload_n 0, 1) := by decide +kernel
theorem dX3_moveAll_34 : decode cX3_moveAll 34 = .ok (.getfield 29, 3) := by decide +kernel
theorem dX3_moveAll_37 : decode cX3_moveAll 37 = .ok (.arraylength, 1) := by decide +kernel
theorem dX3_moveAll_38 : decode cX3_moveAll 38 = .ok (.invokevirtual 213, 3) := by decide +kernel
theorem dX3_moveAll_41 : decode cX3_moveAll 41 = .ok (.aload_n 0, 1) := by decide +kernel
theorem dX3_moveAll_42 : decode cX3_moveAll 42 = .ok (.getfield 39, 3) := by decide +kernel
theorem dX3_moveAll_45 : decode cX3_moveAll 45 = .ok (.aload_n 0, 1) := by decide +kernel
theorem dX3_moveAll_46 : decode cX3_moveAll 46 = .ok (.getfield 22, 3) := by decide +kernel
theorem dX3_moveAll_49 : decode cX3_moveAll 49 = .ok (.aload_n 0, 1) := by decide +kernel
theorem dX3_moveAll_50 : decode cX3_moveAll 50 = .ok (.getfield 14, 3) := by decide +kernel
theorem dX3_moveAll_53 : decode cX3_moveAll 53 = .ok (.getfield 119, 3) := by decide +kernel
theorem dX3_moveAll_56 : decode cX3_moveAll 56 = .ok (.invokevirtual 213, 3) := by decide +kernel
theorem dX3_moveAll_59 : decode cX3_moveAll 59 = .ok (.aload_n 0, 1) := by decide +kernel
theorem dX3_moveAll_60 : decode cX3_moveAll 60 = .ok (.getfield 39, 3) := by decide +kernel
theorem dX3_moveAll_63 : decode cX3_moveAll 63 = .ok (.aload_n 0, 1) := by decide +kernel
theorem dX3_moveAll_64 : decode cX3_moveAll 64 = .ok (.getfield 55, 3) := by decide +kernel
theorem dX3_moveAll_67 : decode cX3_moveAll 67 = .ok (.aload_n 0, 1) := by decide +kernel
theorem dX3_moveAll_68 : decode cX3_moveAll 68 = .ok (.getfield 55, 3) := by decide +kernel
theorem dX3_moveAll_71 : decode cX3_moveAll 71 = .ok (.arraylength, 1) := by decide +kernel
theorem dX3_moveAll_72 : decode cX3_moveAll 72 = .ok (.invokevirtual 213, 3) := by decide +kernel
theorem dX3_moveAll_75 : decode cX3_moveAll 75 = .ok (.aload_n 0, 1) := by decide +kernel
theorem dX3_moveAll_76 : decode cX3_moveAll 76 = .ok (.getfield 39, 3) := by decide +kernel
theorem dX3_moveAll_79 : decode cX3_moveAll 79 = .ok (.aload_n 0, 1) := by decide +kernel
theorem dX3_moveAll_80 : decode cX3_moveAll 80 = .ok (.getfield 35, 3) := by decide +kernel
theorem dX3_moveAll_83 : decode cX3_moveAll 83 = .ok (.getfield 170, 3) := by decide +kernel
theorem dX3_moveAll_86 : decode cX3_moveAll 86 = .ok (.aload_n 0, 1) := by decide +kernel
theorem dX3_moveAll_87 : decode cX3_moveAll 87 = .ok (.getfield 35, 3) := by decide +kernel
theorem dX3_moveAll_90 : decode cX3_moveAll 90 = .ok (.invokevirtual 203, 3) := by decide +kernel
theorem dX3_moveAll_93 : decode cX3_moveAll 93 = .ok (.invokevirtual 213, 3) := by decide +kernel
theorem dX3_moveAll_96 : decode cX3_moveAll 96 = .ok (.aload_n 0, 1) := by decide +kernel
theorem dX3_moveAll_97 : decode cX3_moveAll 97 = .ok (.getfield 39, 3) := by decide +kernel
theorem dX3_moveAll_100 : decode cX3_moveAll 100 = .ok (.invokevirtual 216, 3) := by decide +kernel
theorem dX3_moveAll_103 : decode cX3_moveAll 103 = .ok (.aload_n 0, 1) := by decide +kernel
theorem dX3_moveAll_104 : decode cX3_moveAll 104 = .ok (.getfield 39, 3) := by decide +kernel
theorem dX3_moveAll_107 : decode cX3_moveAll 107 = .ok (.aload_n 0, 1) := by decide +kernel
theorem dX3_moveAll_108 : decode cX3_moveAll 108 = .ok (.getfield 18, 3) := by decide +kernel
theorem dX3_moveAll_111 : decode cX3_moveAll 111 = .ok (.aload_n 0, 1) := by decide +kernel
theorem dX3_moveAll_112 : decode cX3_moveAll 112 = .ok (.getfield 14, 3) := by decide +kernel
theorem dX3_moveAll_115 : decode cX3_moveAll 115 = .ok (.getfield 84, 3) := by decide +kernel
theorem dX3_moveAll_118 : decode cX3_moveAll 118 = .ok (.invokevirtual 219, 3) := by decide +kernel
theorem dX3_moveAll_121 : decode cX3_moveAll 121 = .ok (.aload_n 0, 1) := by decide +kernel
theorem dX3_moveAll_122 : decode cX3_moveAll 122 = .ok (.getfield 39, 3) := by decide +kernel
theorem dX3_moveAll_125 : decode cX3_moveAll 125 = .ok (.aload_n 0, 1) := by decide +kernel
theorem dX3_moveAll_126 : decode cX3_moveAll 126 = .ok (.getfield 29, 3) := by decide +kernel
theorem dX3_moveAll_129 : decode cX3_moveAll 129 = .ok (.aload_n 0, 1) := by decide +kernel
theorem dX3_moveAll_130 : decode cX3_moveAll 130 = .ok (.getfield 29, 3) := by decide +kernel
theorem dX3_moveAll_133 : decode cX3_moveAll 133 = .ok (.arraylength, 1) := by decide +kernel
theorem dX3_moveAll_134 : decode cX3_moveAll 134 = .ok (.invokevirtual 219, 3) := by decide +kernel
theorem dX3_moveAll_137 : decode cX3_moveAll 137 = .ok (.aload_n 0, 1) := by decide +kernel
theorem dX3_moveAll_138 : decode cX3_moveAll 138 = .ok (.getfield 39, 3) := by decide +kernel
theorem dX3_moveAll_141 : decode cX3_moveAll 141 = .ok (.aload_n 0, 1) := by decide +kernel
theorem dX3_moveAll_142 : decode cX3_moveAll 142 = .ok (.getfield 22, 3) := by decide +kernel
theorem dX3_moveAll_145 : decode cX3_moveAll 145 = .ok (.aload_n 0, 1) := by decide +kernel
theorem dX3_moveAll_146 : decode cX3_moveAll 146 = .ok (.getfield 14, 3) := by decide +kernel
theorem dX3_moveAll_149 : decode cX3_moveAll 149 = .ok (.getfield 119, 3) := by decide +kernel
theorem dX3_moveAll_152 : decode cX3_moveAll 152 = .ok (.invokevirtual 219, 3) := by decide +kernel
theorem dX3_moveAll_155 : decode cX3_moveAll 155 = .ok (.aload_n 0, 1) := by decide +kernel
theorem dX3_moveAll_156 : decode cX3_moveAll 156 = .ok (.getfield 39, 3) := by decide +kernel
theorem dX3_moveAll_159 : decode cX3_moveAll 159 = .ok (.aload_n 0, 1) := by decide +kernel
theorem dX3_moveAll_160 : decode cX3_moveAll 160 = .ok (.getfield 55, 3) := by decide +kernel
theorem dX3_moveAll_163 : decode cX3_moveAll 163 = .ok (.aload_n 0, 1) := by decide +kernel
theorem dX3_moveAll_164 : decode cX3_moveAll 164 = .ok (.getfield 55, 3) := by decide +kernel
theorem dX3_moveAll_167 : decode cX3_moveAll 167 = .ok (.arraylength, 1) := by decide +kernel
theorem dX3_moveAll_168 : decode cX3_moveAll 168 = .ok (.invokevirtual 219, 3) := by decide +kernel
theorem dX3_moveAll_171 : decode cX3_moveAll 171 = .ok (.aload_n 0, 1) := by decide +kernel
theorem dX3_moveAll_172 : decode cX3_moveAll 172 = .ok (.getfield 39, 3) := by decide +kernel
theorem dX3_moveAll_175 : decode cX3_moveAll 175 = .ok (.aload_n 0, 1) := by decide +kernel
theorem dX3_moveAll_176 : decode cX3_moveAll 176 = .ok (.getfield 35, 3) := by decide +kernel
theorem dX3_moveAll_179 : decode cX3_moveAll 179 = .ok (.getfield 170, 3) := by decide +kernel
theorem dX3_moveAll_182 : decode cX3_moveAll 182 = .ok (.aload_n 0, 1) := by decide +kernel
theorem dX3_moveAll_183 : decode cX3_moveAll 183 = .ok (.getfield 35, 3) := by decide +kernel
theorem dX3_moveAll_186 : decode cX3_moveAll 186 = .ok (.invokevirtual 203, 3) := by decide +kernel
theorem dX3_moveAll_189 : decode cX3_moveAll 189 = .ok (.invokevirtual 219, 3) := by decide +kernel
theorem dX3_moveAll_192 : decode cX3_moveAll 192 = .ok (.aload_n 0, 1) := by decide +kernel
theorem dX3_moveAll_193 : decode cX3_moveAll 193 = .ok (.getfield 39, 3) := by decide +kernel
theorem dX3_moveAll_196 : decode cX3_moveAll 196 = .ok (.invokevirtual 222, 3) := by decide +kernel
theorem dX3_moveAll_199 : decode cX3_moveAll 199 = .ok (.return_, 1) := by decide +kernel
theorem dX3_nextDraw_0 : decode cX3_nextDraw 0 = .ok (.aload_n 0, 1) := by decide +kernel
theorem dX3_nextDraw_1 : decode cX3_nextDraw 1 = .ok (.getfield 14, 3) := by decide +kernel
theorem dX3_nextDraw_4 : decode cX3_nextDraw 4 = .ok (.aload_n 0, 1) := by decide +kernel
theorem dX3_nextDraw_5 : decode cX3_nextDraw 5 = .ok (.getfield 14, 3) := by decide +kernel
theorem dX3_nextDraw_8 : decode cX3_nextDraw 8 = .ok (.getfield 128, 3) := by decide +kernel
theorem dX3_nextDraw_11 : decode cX3_nextDraw 11 = .ok (.ldc2_w 492, 3) := by decide +kernel
theorem dX3_nextDraw_14 : decode cX3_nextDraw 14 = .ok (.lmul, 1) := by decide +kernel
theorem dX3_nextDraw_15 : decode cX3_nextDraw 15 = .ok (.ldc2_w 494, 3) := by decide +kernel
theorem dX3_nextDraw_18 : decode cX3_nextDraw 18 = .ok (.ladd, 1) := by decide +kernel
theorem dX3_nextDraw_19 : decode cX3_nextDraw 19 = .ok (.putfield 128, 3) := by decide +kernel
theorem dX3_nextDraw_22 : decode cX3_nextDraw 22 = .ok (.iload_n 1, 1) := by decide +kernel
theorem dX3_nextDraw_23 : decode cX3_nextDraw 23 = .ok (.ifCond .le 20, 3) := by decide +kernel
theorem dX3_nextDraw_26 : decode cX3_nextDraw 26 = .ok (.aload_n 0, 1) := by decide +kernel
theorem dX3_nextDraw_27 : decode cX3_nextDraw 27 = .ok (.getfield 14, 3) := by decide +kernel
theorem dX3_nextDraw_30 : decode cX3_nextDraw 30 = .ok (.getfield 128, 3) := by decide +kernel
theorem dX3_nextDraw_33 : decode cX3_nextDraw 33 = .ok (.bipush 33, 2) := by decide +kernel
theorem dX3_nextDraw_35 : decode cX3_nextDraw 35 = .ok (.lushr, 1) := by decide +kernel
theorem dX3_nextDraw_36 : decode cX3_nextDraw 36 = .ok (.iload_n 1, 1) := by decide +kernel
theorem dX3_nextDraw_37 : decode cX3_nextDraw 37 = .ok (.i2l, 1) := by decide +kernel
theorem dX3_nextDraw_38 : decode cX3_nextDraw 38 = .ok (.lrem, 1) := by decide +kernel
theorem dX3_nextDraw_39 : decode cX3_nextDraw 39 = .ok (.l2i, 1) := by decide +kernel
theorem dX3_nextDraw_40 : decode cX3_nextDraw 40 = .ok (.goto 4, 3) := by decide +kernel
theorem dX3_nextDraw_43 : decode cX3_nextDraw 43 = .ok (.iconst 0, 1) := by decide +kernel
theorem dX3_nextDraw_44 : decode cX3_nextDraw 44 = .ok (.ireturn, 1) := by decide +kernel
theorem dX3_pop_0 : decode cX3_pop 0 = .ok (.aload_n 0, 1) := by decide +kernel
theorem dX3_pop_1 : decode cX3_pop 1 = .ok (.getfield 14, 3) := by decide +kernel
theorem dX3_pop_4 : decode cX3_pop 4 = .ok (.dup, 1) := by decide +kernel
theorem dX3_pop_5 : decode cX3_pop 5 = .ok (.getfield 84, 3) := by decide +kernel
theorem dX3_pop_8 : decode cX3_pop 8 = .ok (.iconst 1, 1) := by decide +kernel
theorem dX3_pop_9 : decode cX3_pop 9 = .ok (.isub, 1) := by decide +kernel
theorem dX3_pop_10 : decode cX3_pop 10 = .ok (.putfield 84, 3) := by decide +kernel
theorem dX3_pop_13 : decode cX3_pop 13 = .ok (.aload_n 0, 1) := by decide +kernel
theorem dX3_pop_14 : decode cX3_pop 14 = .ok (.getfield 18, 3) := by decide +kernel
theorem dX3_pop_17 : decode cX3_pop 17 = .ok (.aload_n 0, 1) := by decide +kernel
theorem dX3_pop_18 : decode cX3_pop 18 = .ok (.getfield 14, 3) := by decide +kernel
theorem dX3_pop_21 : decode cX3_pop 21 = .ok (.getfield 84, 3) := by decide +kernel
theorem dX3_pop_24 : decode cX3_pop 24 = .ok (.iaload, 1) := by decide +kernel
theorem dX3_pop_25 : decode cX3_pop 25 = .ok (.ireturn, 1) := by decide +kernel
theorem dX3_replace_0 : decode cX3_replace 0 = .ok (.iload_n 1, 1) := by decide +kernel
theorem dX3_replace_1 : decode cX3_replace 1 = .ok (.invokestatic 310, 3) := by decide +kernel
theorem dX3_replace_4 : decode cX3_replace 4 = .ok (.ifCond .eq 14, 3) := by decide +kernel
theorem dX3_replace_7 : decode cX3_replace 7 = .ok (.aload_n 0, 1) := by decide +kernel
theorem dX3_replace_8 : decode cX3_replace 8 = .ok (.iload_n 1, 1) := by decide +kernel
theorem dX3_replace_9 : decode cX3_replace 9 = .ok (.bipush 15, 2) := by decide +kernel
theorem dX3_replace_11 : decode cX3_replace 11 = .ok (.iand, 1) := by decide +kernel
theorem dX3_replace_12 : decode cX3_replace 12 = .ok (.invokevirtual 313, 3) := by decide +kernel
theorem dX3_replace_15 : decode cX3_replace 15 = .ok (.goto 30, 3) := by decide +kernel
theorem dX3_replace_18 : decode cX3_replace 18 = .ok (.aload_n 0, 1) := by decide +kernel
theorem dX3_replace_19 : decode cX3_replace 19 = .ok (.getfield 18, 3) := by decide +kernel
theorem dX3_replace_22 : decode cX3_replace 22 = .ok (.aload_n 0, 1) := by decide +kernel
theorem dX3_replace_23 : decode cX3_replace 23 = .ok (.getfield 14, 3) := by decide +kernel
theorem dX3_replace_26 : decode cX3_replace 26 = .ok (.getfield 84, 3) := by decide +kernel
theorem dX3_replace_29 : decode cX3_replace 29 = .ok (.iconst 1, 1) := by decide +kernel
theorem dX3_replace_30 : decode cX3_replace 30 = .ok (.isub, 1) := by decide +kernel
theorem dX3_replace_31 : decode cX3_replace 31 = .ok (.iload_n 1, 1) := by decide +kernel
theorem dX3_replace_32 : decode cX3_replace 32 = .ok (.iastore, 1) := by decide +kernel
theorem dX3_replace_33 : decode cX3_replace 33 = .ok (.aload_n 0, 1) := by decide +kernel
theorem dX3_replace_34 : decode cX3_replace 34 = .ok (.aload_n 0, 1) := by decide +kernel
theorem dX3_replace_35 : decode cX3_replace 35 = .ok (.getfield 39, 3) := by decide +kernel
theorem dX3_replace_38 : decode cX3_replace 38 = .ok (.iload_n 1, 1) := by decide +kernel
theorem dX3_replace_39 : decode cX3_replace 39 = .ok (.invokevirtual 316, 3) := by decide +kernel
theorem dX3_replace_42 : decode cX3_replace 42 = .ok (.invokevirtual 319, 3) := by decide +kernel
theorem dX3_replace_45 : decode cX3_replace 45 = .ok (.return_, 1) := by decide +kernel
theorem dX3_shortcut_0 : decode cX3_shortcut 0 = .ok (.aload_n 0, 1) := by decide +kernel
theorem dX3_shortcut_1 : decode cX3_shortcut 1 = .ok (.getfield 18, 3) := by decide +kernel
theorem dX3_shortcut_4 : decode cX3_shortcut 4 = .ok (.aload_n 0, 1) := by decide +kernel
theorem dX3_shortcut_5 : decode cX3_shortcut 5 = .ok (.getfield 14, 3) := by decide +kernel
theorem dX3_shortcut_8 : decode cX3_shortcut 8 = .ok (.getfield 84, 3) := by decide +kernel
theorem dX3_shortcut_11 : decode cX3_shortcut 11 = .ok (.iconst 1, 1) := by decide +kernel
theorem dX3_shortcut_12 : decode cX3_shortcut 12 = .ok (.isub, 1) := by decide +kernel
theorem dX3_shortcut_13 : decode cX3_shortcut 13 = .ok (.iaload, 1) := by decide +kernel
theorem dX3_shortcut_14 : decode cX3_shortcut 14 = .ok (.istore_n 3, 1) := by decide +kernel
theorem dX3_shortcut_15 : decode cX3_shortcut 15 = .ok (.aload_n 0, 1) := by decide +kernel
theorem dX3_shortcut_16 : decode cX3_shortcut 16 = .ok (.iload_n 3, 1) := by decide +kernel
theorem dX3_shortcut_17 : decode cX3_shortcut 17 = .ok (.invokevirtual 342, 3) := by decide +kernel
theorem dX3_shortcut_20 : decode cX3_shortcut 20 = .ok (.ifCond .ne 4, 3) := by decide +kernel
theorem dX3_shortcut_23 : decode cX3_shortcut 23 = .ok (.return_, 1) := by decide +kernel
theorem dX3_shortcut_24 : decode cX3_shortcut 24 = .ok (.iload_n 3, 1) := by decide +kernel
theorem dX3_shortcut_25 : decode cX3_shortcut 25 = .ok (.iload_n 1, 1) := by decide +kernel
theorem dX3_shortcut_26 : decode cX3_shortcut 26 = .ok (.if_icmp .ne 19, 3) := by decide +kernel
theorem dX3_shortcut_29 : decode cX3_shortcut 29 = .ok (.aload_n 0, 1) := by decide +kernel
theorem dX3_shortcut_30 : decode cX3_shortcut 30 = .ok (.getfield 14, 3) := by decide +kernel
theorem dX3_shortcut_33 : decode cX3_shortcut 33 = .ok (.iload_n 2, 1) := by decide +kernel
theorem dX3_shortcut_34 : decode cX3_shortcut 34 = .ok (.putfield 78, 3) := by decide +kernel
theorem dX3_shortcut_37 : decode cX3_shortcut 37 = .ok (.aload_n 0, 1) := by decide +kernel
theorem dX3_shortcut_38 : decode cX3_shortcut 38 = .ok (.iconst 1, 1) := by decide +kernel
theorem dX3_shortcut_39 : decode cX3_shortcut 39 = .ok (.invokevirtual 319, 3) := by decide +kernel
theorem dX3_shortcut_42 : decode cX3_shortcut 42 = .ok (.goto 16, 3) := by decide +kernel
theorem dX3_shortcut_45 : decode cX3_shortcut 45 = .ok (.aload_n 0, 1) := by decide +kernel
theorem dX3_shortcut_46 : decode cX3_shortcut 46 = .ok (.getfield 14, 3) := by decide +kernel
theorem dX3_shortcut_49 : decode cX3_shortcut 49 = .ok (.dup, 1) := by decide +kernel
theorem dX3_shortcut_50 : decode cX3_shortcut 50 = .ok (.getfield 84, 3) := by decide +kernel
theorem dX3_shortcut_53 : decode cX3_shortcut 53 = .ok (.iconst 1, 1) := by decide +kernel
theorem dX3_shortcut_54 : decode cX3_shortcut 54 = .ok (.isub, 1) := by decide +kernel
theorem dX3_shortcut_55 : decode cX3_shortcut 55 = .ok (.putfield 84, 3) := by decide +kernel
theorem dX3_shortcut_58 : decode cX3_shortcut 58 = .ok (.return_, 1) := by decide +kernel
theorem dX3_spend_0 : decode cX3_spend 0 = .ok (.aload_n 0, 1) := by decide +kernel
theorem dX3_spend_1 : decode cX3_spend 1 = .ok (.getfield 14, 3) := by decide +kernel
theorem dX3_spend_4 : decode cX3_spend 4 = .ok (.aload_n 0, 1) := by decide +kernel
theorem dX3_spend_5 : decode cX3_spend 5 = .ok (.getfield 14, 3) := by decide +kernel
theorem dX3_spend_8 : decode cX3_spend 8 = .ok (.getfield 93, 3) := by decide +kernel
theorem dX3_spend_11 : decode cX3_spend 11 = .ok (.iload_n 1, 1) := by decide +kernel
theorem dX3_spend_12 : decode cX3_spend 12 = .ok (.iadd, 1) := by decide +kernel
theorem dX3_spend_13 : decode cX3_spend 13 = .ok (.putfield 93, 3) := by decide +kernel
theorem dX3_spend_16 : decode cX3_spend 16 = .ok (.aload_n 0, 1) := by decide +kernel
theorem dX3_spend_17 : decode cX3_spend 17 = .ok (.getfield 14, 3) := by decide +kernel
theorem dX3_spend_20 : decode cX3_spend 20 = .ok (.getfield 93, 3) := by decide +kernel
theorem dX3_spend_23 : decode cX3_spend 23 = .ok (.ldc_w 300, 3) := by decide +kernel
theorem dX3_spend_26 : decode cX3_spend 26 = .ok (.if_icmp .le 14, 3) := by decide +kernel
theorem dX3_spend_29 : decode cX3_spend 29 = .ok (.aload_n 0, 1) := by decide +kernel
theorem dX3_spend_30 : decode cX3_spend 30 = .ok (.bipush 11, 2) := by decide +kernel
theorem dX3_spend_32 : decode cX3_spend 32 = .ok (.putfield 149, 3) := by decide +kernel
theorem dX3_spend_35 : decode cX3_spend 35 = .ok (.aload_n 0, 1) := by decide +kernel
theorem dX3_spend_36 : decode cX3_spend 36 = .ok (.iconst 1, 1) := by decide +kernel
theorem dX3_spend_37 : decode cX3_spend 37 = .ok (.putfield 225, 3) := by decide +kernel
theorem dX3_spend_40 : decode cX3_spend 40 = .ok (.return_, 1) := by decide +kernel
theorem dX3_wantTruth_0 : decode cX3_wantTruth 0 = .ok (.iload_n 1, 1) := by decide +kernel
theorem dX3_wantTruth_1 : decode cX3_wantTruth 1 = .ok (.ldc_w 325, 3) := by decide +kernel
theorem dX3_wantTruth_4 : decode cX3_wantTruth 4 = .ok (.if_icmp .eq 18, 3) := by decide +kernel
theorem dX3_wantTruth_7 : decode cX3_wantTruth 7 = .ok (.iload_n 1, 1) := by decide +kernel
theorem dX3_wantTruth_8 : decode cX3_wantTruth 8 = .ok (.ldc_w 326, 3) := by decide +kernel
theorem dX3_wantTruth_11 : decode cX3_wantTruth 11 = .ok (.if_icmp .eq 11, 3) := by decide +kernel
theorem dX3_wantTruth_14 : decode cX3_wantTruth 14 = .ok (.aload_n 0, 1) := by decide +kernel
theorem dX3_wantTruth_15 : decode cX3_wantTruth 15 = .ok (.bipush 9, 2) := by decide +kernel
theorem dX3_wantTruth_17 : decode cX3_wantTruth 17 = .ok (.invokevirtual 313, 3) := by decide +kernel
theorem dX3_wantTruth_20 : decode cX3_wantTruth 20 = .ok (.iconst 0, 1) := by decide +kernel
theorem dX3_wantTruth_21 : decode cX3_wantTruth 21 = .ok (.ireturn, 1) := by decide +kernel
theorem dX3_wantTruth_22 : decode cX3_wantTruth 22 = .ok (.iconst 1, 1) := by decide +kernel
theorem dX3_wantTruth_23 : decode cX3_wantTruth 23 = .ok (.ireturn, 1) := by decide +kernel
theorem dX5_aimAll_0 : decode cX5_aimAll 0 = .ok (.iload_n 1, 1) := by decide +kernel
theorem dX5_aimAll_1 : decode cX5_aimAll 1 = .ok (.istore_n 2, 1) := by decide +kernel
theorem dX5_aimAll_2 : decode cX5_aimAll 2 = .ok (.iconst 0, 1) := by decide +kernel
theorem dX5_aimAll_3 : decode cX5_aimAll 3 = .ok (.istore_n 3, 1) := by decide +kernel
theorem dX5_aimAll_4 : decode cX5_aimAll 4 = .ok (.iload_n 3, 1) := by decide +kernel
theorem dX5_aimAll_5 : decode cX5_aimAll 5 = .ok (.ldc 35, 2) := by decide +kernel
theorem dX5_aimAll_7 : decode cX5_aimAll 7 = .ok (.if_icmp .gt 45, 3) := by decide +kernel
theorem dX5_aimAll_10 : decode cX5_aimAll 10 = .ok (.iload_n 2, 1) := by decide +kernel
theorem dX5_aimAll_11 : decode cX5_aimAll 11 = .ok (.ifCond .eq 41, 3) := by decide +kernel
theorem dX5_aimAll_14 : decode cX5_aimAll 14 = .ok (.aload_n 0, 1) := by decide +kernel
theorem dX5_aimAll_15 : decode cX5_aimAll 15 = .ok (.getfield 93, 3) := by decide +kernel
theorem dX5_aimAll_18 : decode cX5_aimAll 18 = .ok (.getfield 246, 3) := by decide +kernel
theorem dX5_aimAll_21 : decode cX5_aimAll 21 = .ok (.iload_n 2, 1) := by decide +kernel
theorem dX5_aimAll_22 : decode cX5_aimAll 22 = .ok (.iaload, 1) := by decide +kernel
theorem dX5_aimAll_23 : decode cX5_aimAll 23 = .ok (.bipush 8, 2) := by decide +kernel
theorem dX5_aimAll_25 : decode cX5_aimAll 25 = .ok (.ishr, 1) := by decide +kernel
theorem dX5_aimAll_26 : decode cX5_aimAll 26 = .ok (.istore 4, 2) := by decide +kernel
theorem dX5_aimAll_28 : decode cX5_aimAll 28 = .ok (.aload_n 0, 1) := by decide +kernel
theorem dX5_aimAll_29 : decode cX5_aimAll 29 = .ok (.getfield 93, 3) := by decide +kernel
theorem dX5_aimAll_32 : decode cX5_aimAll 32 = .ok (.iload_n 2, 1) := by decide +kernel
theorem dX5_aimAll_33 : decode cX5_aimAll 33 = .ok (.aload_n 0, 1) := by decide +kernel
theorem dX5_aimAll_34 : decode cX5_aimAll 34 = .ok (.getfield 93, 3) := by decide +kernel
theorem dX5_aimAll_37 : decode cX5_aimAll 37 = .ok (.getfield 50, 3) := by decide +kernel
theorem dX5_aimAll_40 : decode cX5_aimAll 40 = .ok (.invokevirtual 240, 3) := by decide +kernel
theorem dX5_aimAll_43 : decode cX5_aimAll 43 = .ok (.iload 4, 2) := by decide +kernel
theorem dX5_aimAll_45 : decode cX5_aimAll 45 = .ok (.istore_n 2, 1) := by decide +kernel
theorem dX5_aimAll_46 : decode cX5_aimAll 46 = .ok (.iinc 3 1, 3) := by decide +kernel
theorem dX5_aimAll_49 : decode cX5_aimAll 49 = .ok (.goto (-45), 3) := by decide +kernel
theorem dX5_aimAll_52 : decode cX5_aimAll 52 = .ok (.return_, 1) := by decide +kernel
theorem dX5_beginsStatement_0 : decode cX5_beginsStatement 0 = .ok (.aload_n 0, 1) := by decide +kernel
theorem dX5_beginsStatement_1 : decode cX5_beginsStatement 1 = .ok (.getfield 18, 3) := by decide +kernel
theorem dX5_beginsStatement_4 : decode cX5_beginsStatement 4 = .ok (.getfield 36, 3) := by decide +kernel
theorem dX5_beginsStatement_7 : decode cX5_beginsStatement 7 = .ok (.tableswitch 235 2 56 #[233, 235, 235, 235, 235, 235, 235, 235, 235, 235, 235, 235, 233, 235, 235, 235, 235, 235, 235, 235, 235, 235, 235, 235, 235, 235, 235, 235, 235, 235, 235, 235, 235, 235, 235, 235, 235, 233, 235, 235, 235, 233, 235, 233, 235, 235, 235, 233, 233, 233, 233, 233, 233, 233, 233], 233) := by decide +kernel
theorem dX5_beginsStatement_240 : decode cX5_beginsStatement 240 = .ok (.iconst 1, 1) := by decide +kernel
theorem dX5_beginsStatement_241 : decode cX5_beginsStatement 241 = .ok (.ireturn, 1) := by decide +kernel
theorem dX5_beginsStatement_242 : decode cX5_beginsStatement 242 = .ok (.iconst 0, 1) := by decide +kernel
theorem dX5_beginsStatement_243 : decode cX5_beginsStatement 243 = .ok (.ireturn, 1) := by decide +kernel
theorem dX5_binaryOp_0 : decode cX5_binaryOp 0 = .ok (.iload_n 0, 1) := by decide +kernel
theorem dX5_binaryOp_1 : decode cX5_binaryOp 1 = .ok (.lookupswitch 119 #[(6, 83), (7, 87), (8, 91), (9, 103), (46, 107), (47, 111), (48, 115), (67, 95), (68, 99)], 83) := by decide +kernel
theorem dX5_binaryOp_84 : decode cX5_binaryOp 84 = .ok (.sipush 128, 3) := by decide +kernel
theorem dX5_binaryOp_87 : decode cX5_binaryOp 87 = .ok (.ireturn, 1) := by decide +kernel
theorem dX5_binaryOp_88 : decode cX5_binaryOp 88 = .ok (.sipush 129, 3) := by decide +kernel
theorem dX5_binaryOp_91 : decode cX5_binaryOp 91 = .ok (.ireturn, 1) := by decide +kernel
theorem dX5_binaryOp_92 : decode cX5_binaryOp 92 = .ok (.sipush 130, 3) := by decide +kernel
theorem dX5_binaryOp_95 : decode cX5_binaryOp 95 = .ok (.ireturn, 1) := by decide +kernel
theorem dX5_binaryOp_96 : decode cX5_binaryOp 96 = .ok (.sipush 131, 3) := by decide +kernel
theorem dX5_binaryOp_99 : decode cX5_binaryOp 99 = .ok (.ireturn, 1) := by decide +kernel
theorem dX5_binaryOp_100 : decode cX5_binaryOp 100 = .ok (.sipush 132, 3) := by decide +kernel
theorem dX5_binaryOp_103 : decode cX5_binaryOp 103 = .ok (.ireturn, 1) := by decide +kernel
theorem dX5_binaryOp_104 : decode cX5_binaryOp 104 = .ok (.sipush 133, 3) := by decide +kernel
theorem dX5_binaryOp_107 : decode cX5_binaryOp 107 = .ok (.ireturn, 1) := by decide +kernel
theorem dX5_binaryOp_108 : decode cX5_binaryOp 108 = .ok (.sipush 140, 3) := by decide +kernel
theorem dX5_binaryOp_111 : decode cX5_binaryOp 111 = .ok (.ireturn, 1) := by decide +kernel
theorem dX5_binaryOp_112 : decode cX5_binaryOp 112 = .ok (.sipush 141, 3) := by decide +kernel
theorem dX5_binaryOp_115 : decode cX5_binaryOp 115 = .ok (.ireturn, 1) := by decide +kernel
theorem dX5_binaryOp_116 : decode cX5_binaryOp 116 = .ok (.sipush 142, 3) := by decide +kernel
theorem dX5_binaryOp_119 : decode cX5_binaryOp 119 = .ok (.ireturn, 1) := by decide +kernel
theorem dX5_binaryOp_120 : decode cX5_binaryOp 120 = .ok (.sipush 134, 3) := by decide +kernel
theorem dX5_binaryOp_123 : decode cX5_binaryOp 123 = .ok (.iload_n 0, 1) := by decide +kernel
theorem dX5_binaryOp_124 : decode cX5_binaryOp 124 = .ok (.iadd, 1) := by decide +kernel
theorem dX5_binaryOp_125 : decode cX5_binaryOp 125 = .ok (.bipush 20, 2) := by decide +kernel
theorem dX5_binaryOp_127 : decode cX5_binaryOp 127 = .ok (.isub, 1) := by decide +kernel
theorem dX5_binaryOp_128 : decode cX5_binaryOp 128 = .ok (.ireturn, 1) := by decide +kernel
theorem dX5_closeUnit_0 : decode cX5_closeUnit 0 = .ok (.aload_n 0, 1) := by decide +kernel
theorem dX5_closeUnit_1 : decode cX5_closeUnit 1 = .ok (.getfield 93, 3) := by decide +kernel
theorem dX5_closeUnit_4 : decode cX5_closeUnit 4 = .ok (.iload_n 1, 1) := by decide +kernel
theorem dX5_closeUnit_5 : decode cX5_closeUnit 5 = .ok (.putfield 84, 3) := by decide +kernel
theorem dX5_closeUnit_8 : decode cX5_closeUnit 8 = .ok (.aload_n 0, 1) := by decide +kernel
theorem dX5_closeUnit_9 : decode cX5_closeUnit 9 = .ok (.iconst 0, 1) := by decide +kernel
theorem dX5_closeUnit_10 : decode cX5_closeUnit 10 = .ok (.putfield 97, 3) := by decide +kernel
theorem dX5_closeUnit_13 : decode cX5_closeUnit 13 = .ok (.aload_n 0, 1) := by decide +kernel
theorem dX5_closeUnit_14 : decode cX5_closeUnit 14 = .ok (.iconst 2, 1) := by decide +kernel
theorem dX5_closeUnit_15 : decode cX5_closeUnit 15 = .ok (.putfield 100, 3) := by decide +kernel
theorem dX5_closeUnit_18 : decode cX5_closeUnit 18 = .ok (.return_, 1) := by decide +kernel
theorem dX5_level_0 : decode cX5_level 0 = .ok (.iload_n 0, 1) := by decide +kernel
theorem dX5_level_1 : decode cX5_level 1 = .ok (.tableswitch 280 6 68 #[273, 273, 275, 277, 280, 280, 280, 280, 280, 280, 280, 280, 280, 280, 271, 271, 271, 271, 271, 271, 280, 280, 280, 280, 280, 280, 280, 280, 280, 280, 280, 280, 280, 280, 280, 280, 280, 280, 280, 280, 271, 271, 271, 280, 280, 280, 280, 280, 280, 280, 280, 280, 280, 280, 280, 280, 280, 280, 269, 267, 280, 275, 275], 267) := by decide +kernel
theorem dX5_level_268 : decode cX5_level 268 = .ok (.iconst 0, 1) := by decide +kernel
theorem dX5_level_269 : decode cX5_level 269 = .ok (.ireturn, 1) := by decide +kernel
theorem dX5_level_270 : decode cX5_level 270 = .ok (.iconst 1, 1) := by decide +kernel
theorem dX5_level_271 : decode cX5_level 271 = .ok (.ireturn, 1) := by decide +kernel
theorem dX5_level_272 : decode cX5_level 272 = .ok (.iconst 3, 1) := by decide +kernel
theorem dX5_level_273 : decode cX5_level 273 = .ok (.ireturn, 1) := by decide +kernel
theorem dX5_level_274 : decode cX5_level 274 = .ok (.iconst 4, 1) := by decide +kernel
theorem dX5_level_275 : decode cX5_level 275 = .ok (.ireturn, 1) := by decide +kernel
theorem dX5_level_276 : decode cX5_level 276 = .ok (.iconst 5, 1) := by decide +kernel
theorem dX5_level_277 : decode cX5_level 277 = .ok (.ireturn, 1) := by decide +kernel
theorem dX5_level_278 : decode cX5_level 278 = .ok (.bipush 6, 2) := by decide +kernel
theorem dX5_level_280 : decode cX5_level 280 = .ok (.ireturn, 1) := by decide +kernel
theorem dX5_level_281 : decode cX5_level 281 = .ok (.iconst (-1), 1) := by decide +kernel
theorem dX5_level_282 : decode cX5_level 282 = .ok (.ireturn, 1) := by decide +kernel
theorem dX5_noteFault_0 : decode cX5_noteFault 0 = .ok (.aload_n 0, 1) := by decide +kernel
theorem dX5_noteFault_1 : decode cX5_noteFault 1 = .ok (.getfield 75, 3) := by decide +kernel
theorem dX5_noteFault_4 : decode cX5_noteFault 4 = .ok (.ifCond .ne 19, 3) := by decide +kernel
theorem dX5_noteFault_7 : decode cX5_noteFault 7 = .ok (.aload_n 0, 1) := by decide +kernel
theorem dX5_noteFault_8 : decode cX5_noteFault 8 = .ok (.iconst 1, 1) := by decide +kernel
theorem dX5_noteFault_9 : decode cX5_noteFault 9 = .ok (.putfield 75, 3) := by decide +kernel
theorem dX5_noteFault_12 : decode cX5_noteFault 12 = .ok (.aload_n 0, 1) := by decide +kernel
theorem dX5_noteFault_13 : decode cX5_noteFault 13 = .ok (.aload_n 0, 1) := by decide +kernel
theorem dX5_noteFault_14 : decode cX5_noteFault 14 = .ok (.getfield 18, 3) := by decide +kernel
theorem dX5_noteFault_17 : decode cX5_noteFault 17 = .ok (.getfield 78, 3) := by decide +kernel
theorem dX5_noteFault_20 : decode cX5_noteFault 20 = .ok (.putfield 81, 3) := by decide +kernel
theorem dX5_noteFault_23 : decode cX5_noteFault 23 = .ok (.return_, 1) := by decide +kernel
theorem dX5_postponedLevel_0 : decode cX5_postponedLevel 0 = .ok (.aload_n 0, 1) := by decide +kernel
theorem dX5_postponedLevel_1 : decode cX5_postponedLevel 1 = .ok (.getfield 112, 3) := by decide +kernel
theorem dX5_postponedLevel_4 : decode cX5_postponedLevel 4 = .ok (.iload_n 1, 1) := by decide +kernel
theorem dX5_postponedLevel_5 : decode cX5_postponedLevel 5 = .ok (.if_icmp .le 17, 3) := by decide +kernel
theorem dX5_postponedLevel_8 : decode cX5_postponedLevel 8 = .ok (.aload_n 0, 1) := by decide +kernel
theorem dX5_postponedLevel_9 : decode cX5_postponedLevel 9 = .ok (.getfield 9, 3) := by decide +kernel
theorem dX5_postponedLevel_12 : decode cX5_postponedLevel 12 = .ok (.aload_n 0, 1) := by decide +kernel
theorem dX5_postponedLevel_13 : decode cX5_postponedLevel 13 = .ok (.getfield 112, 3) := by decide +kernel
theorem dX5_postponedLevel_16 : decode cX5_postponedLevel 16 = .ok (.iconst 3, 1) := by decide +kernel
theorem dX5_postponedLevel_17 : decode cX5_postponedLevel 17 = .ok (.isub, 1) := by decide +kernel
theorem dX5_postponedLevel_18 : decode cX5_postponedLevel 18 = .ok (.iaload, 1) := by decide +kernel
theorem dX5_postponedLevel_19 : decode cX5_postponedLevel 19 = .ok (.goto 4, 3) := by decide +kernel
theorem dX5_postponedLevel_22 : decode cX5_postponedLevel 22 = .ok (.iconst (-1), 1) := by decide +kernel
theorem dX5_postponedLevel_23 : decode cX5_postponedLevel 23 = .ok (.ireturn, 1) := by decide +kernel
theorem dX5_wordOp_0 : decode cX5_wordOp 0 = .ok (.iload_n 0, 1) := by decide +kernel
theorem dX5_wordOp_1 : decode cX5_wordOp 1 = .ok (.bipush 71, 2) := by decide +kernel
theorem dX5_wordOp_3 : decode cX5_wordOp 3 = .ok (.if_icmp .lt 18, 3) := by decide +kernel
theorem dX5_wordOp_6 : decode cX5_wordOp 6 = .ok (.iload_n 0, 1) := by decide +kernel
theorem dX5_wordOp_7 : decode cX5_wordOp 7 = .ok (.bipush 79, 2) := by decide +kernel
theorem dX5_wordOp_9 : decode cX5_wordOp 9 = .ok (.if_icmp .gt 12, 3) := by decide +kernel
theorem dX5_wordOp_12 : decode cX5_wordOp 12 = .ok (.sipush 162, 3) := by decide +kernel
theorem dX5_wordOp_15 : decode cX5_wordOp 15 = .ok (.iload_n 0, 1) := by decide +kernel
theorem dX5_wordOp_16 : decode cX5_wordOp 16 = .ok (.iadd, 1) := by decide +kernel
theorem dX5_wordOp_17 : decode cX5_wordOp 17 = .ok (.bipush 71, 2) := by decide +kernel
theorem dX5_wordOp_19 : decode cX5_wordOp 19 = .ok (.isub, 1) := by decide +kernel
theorem dX5_wordOp_20 : decode cX5_wordOp 20 = .ok (.ireturn, 1) := by decide +kernel
theorem dX5_wordOp_21 : decode cX5_wordOp 21 = .ok (.iload_n 0, 1) := by decide +kernel
theorem dX5_wordOp_22 : decode cX5_wordOp 22 = .ok (.bipush 82, 2) := by decide +kernel
theorem dX5_wordOp_24 : decode cX5_wordOp 24 = .ok (.if_icmp .ne 9, 3) := by decide +kernel
theorem dX5_wordOp_27 : decode cX5_wordOp 27 = .ok (.sipush 171, 3) := by decide +kernel
theorem dX5_wordOp_30 : decode cX5_wordOp 30 = .ok (.goto 4, 3) := by decide +kernel
theorem dX5_wordOp_33 : decode cX5_wordOp 33 = .ok (.iconst (-1), 1) := by decide +kernel
theorem dX5_wordOp_34 : decode cX5_wordOp 34 = .ok (.ireturn, 1) := by decide +kernel
theorem dX6_madeString_0 : decode cX6_madeString 0 = .ok (.aload_n 0, 1) := by decide +kernel
theorem dX6_madeString_1 : decode cX6_madeString 1 = .ok (.getfield 15, 3) := by decide +kernel
theorem dX6_madeString_4 : decode cX6_madeString 4 = .ok (.aload_n 0, 1) := by decide +kernel
theorem dX6_madeString_5 : decode cX6_madeString 5 = .ok (.getfield 11, 3) := by decide +kernel
theorem dX6_madeString_8 : decode cX6_madeString 8 = .ok (.iconst 0, 1) := by decide +kernel
theorem dX6_madeString_9 : decode cX6_madeString 9 = .ok (.aload_n 0, 1) := by decide +kernel
theorem dX6_madeString_10 : decode cX6_madeString 10 = .ok (.getfield 23, 3) := by decide +kernel
theorem dX6_madeString_13 : decode cX6_madeString 13 = .ok (.invokevirtual 92, 3) := by decide +kernel
theorem dX6_madeString_16 : decode cX6_madeString 16 = .ok (.ireturn, 1) := by decide +kernel
theorem dX6_put_0 : decode cX6_put 0 = .ok (.aload_n 0, 1) := by decide +kernel
theorem dX6_put_1 : decode cX6_put 1 = .ok (.getfield 23, 3) := by decide +kernel
theorem dX6_put_4 : decode cX6_put 4 = .ok (.aload_n 0, 1) := by decide +kernel
theorem dX6_put_5 : decode cX6_put 5 = .ok (.getfield 11, 3) := by decide +kernel
theorem dX6_put_8 : decode cX6_put 8 = .ok (.arraylength, 1) := by decide +kernel
theorem dX6_put_9 : decode cX6_put 9 = .ok (.if_icmp .ge 24, 3) := by decide +kernel
theorem dX6_put_12 : decode cX6_put 12 = .ok (.aload_n 0, 1) := by decide +kernel
theorem dX6_put_13 : decode cX6_put 13 = .ok (.getfield 11, 3) := by decide +kernel
theorem dX6_put_16 : decode cX6_put 16 = .ok (.aload_n 0, 1) := by decide +kernel
theorem dX6_put_17 : decode cX6_put 17 = .ok (.getfield 23, 3) := by decide +kernel
theorem dX6_put_20 : decode cX6_put 20 = .ok (.iload_n 1, 1) := by decide +kernel
theorem dX6_put_21 : decode cX6_put 21 = .ok (.i2b, 1) := by decide +kernel
theorem dX6_put_22 : decode cX6_put 22 = .ok (.bastore, 1) := by decide +kernel
theorem dX6_put_23 : decode cX6_put 23 = .ok (.aload_n 0, 1) := by decide +kernel
theorem dX6_put_24 : decode cX6_put 24 = .ok (.dup, 1) := by decide +kernel
theorem dX6_put_25 : decode cX6_put 25 = .ok (.getfield 23, 3) := by decide +kernel
theorem dX6_put_28 : decode cX6_put 28 = .ok (.iconst 1, 1) := by decide +kernel
theorem dX6_put_29 : decode cX6_put 29 = .ok (.iadd, 1) := by decide +kernel
theorem dX6_put_30 : decode cX6_put 30 = .ok (.putfield 23, 3) := by decide +kernel
theorem dX6_put_33 : decode cX6_put 33 = .ok (.return_, 1) := by decide +kernel
theorem dX6_writeBytes_0 : decode cX6_writeBytes 0 = .ok (.aload_n 0, 1) := by decide +kernel
theorem dX6_writeBytes_1 : decode cX6_writeBytes 1 = .ok (.getfield 15, 3) := by decide +kernel
theorem dX6_writeBytes_4 : decode cX6_writeBytes 4 = .ok (.iload_n 1, 1) := by decide +kernel
theorem dX6_writeBytes_5 : decode cX6_writeBytes 5 = .ok (.invokevirtual 68, 3) := by decide +kernel
theorem dX6_writeBytes_8 : decode cX6_writeBytes 8 = .ok (.aload_n 0, 1) := by decide +kernel
theorem dX6_writeBytes_9 : decode cX6_writeBytes 9 = .ok (.getfield 11, 3) := by decide +kernel
theorem dX6_writeBytes_12 : decode cX6_writeBytes 12 = .ok (.arraylength, 1) := by decide +kernel
theorem dX6_writeBytes_13 : decode cX6_writeBytes 13 = .ok (.aload_n 0, 1) := by decide +kernel
theorem dX6_writeBytes_14 : decode cX6_writeBytes 14 = .ok (.getfield 23, 3) := by decide +kernel
theorem dX6_writeBytes_17 : decode cX6_writeBytes 17 = .ok (.isub, 1) := by decide +kernel
theorem dX6_writeBytes_18 : decode cX6_writeBytes 18 = .ok (.invokestatic 74, 3) := by decide +kernel
theorem dX6_writeBytes_21 : decode cX6_writeBytes 21 = .ok (.istore_n 2, 1) := by decide +kernel
theorem dX6_writeBytes_22 : decode cX6_writeBytes 22 = .ok (.aload_n 0, 1) := by decide +kernel
theorem dX6_writeBytes_23 : decode cX6_writeBytes 23 = .ok (.aload_n 0, 1) := by decide +kernel
theorem dX6_writeBytes_24 : decode cX6_writeBytes 24 = .ok (.getfield 15, 3) := by decide +kernel
theorem dX6_writeBytes_27 : decode cX6_writeBytes 27 = .ok (.iload_n 1, 1) := by decide +kernel
theorem dX6_writeBytes_28 : decode cX6_writeBytes 28 = .ok (.iconst 0, 1) := by decide +kernel
theorem dX6_writeBytes_29 : decode cX6_writeBytes 29 = .ok (.iload_n 2, 1) := by decide +kernel
theorem dX6_writeBytes_30 : decode cX6_writeBytes 30 = .ok (.aload_n 0, 1) := by decide +kernel
theorem dX6_writeBytes_31 : decode cX6_writeBytes 31 = .ok (.getfield 11, 3) := by decide +kernel
theorem dX6_writeBytes_34 : decode cX6_writeBytes 34 = .ok (.aload_n 0, 1) := by decide +kernel
theorem dX6_writeBytes_35 : decode cX6_writeBytes 35 = .ok (.getfield 23, 3) := by decide +kernel
theorem dX6_writeBytes_38 : decode cX6_writeBytes 38 = .ok (.invokevirtual 79, 3) := by decide +kernel
theorem dX6_writeBytes_41 : decode cX6_writeBytes 41 = .ok (.putfield 23, 3) := by decide +kernel
theorem dX6_writeBytes_44 : decode cX6_writeBytes 44 = .ok (.return_, 1) := by decide +kernel
theorem dX7_aim_0 : decode cX7_aim 0 = .ok (.aload_n 0, 1) := by decide +kernel
theorem dX7_aim_1 : decode cX7_aim 1 = .ok (.getfield 9, 3) := by decide +kernel
theorem dX7_aim_4 : decode cX7_aim 4 = .ok (.iload_n 1, 1) := by decide +kernel
theorem dX7_aim_5 : decode cX7_aim 5 = .ok (.aload_n 0, 1) := by decide +kernel
theorem dX7_aim_6 : decode cX7_aim 6 = .ok (.getfield 9, 3) := by decide +kernel
theorem dX7_aim_9 : decode cX7_aim 9 = .ok (.iload_n 1, 1) := by decide +kernel
theorem dX7_aim_10 : decode cX7_aim 10 = .ok (.iaload, 1) := by decide +kernel
theorem dX7_aim_11 : decode cX7_aim 11 = .ok (.sipush 255, 3) := by decide +kernel
theorem dX7_aim_14 : decode cX7_aim 14 = .ok (.iand, 1) := by decide +kernel
theorem dX7_aim_15 : decode cX7_aim 15 = .ok (.iload_n 2, 1) := by decide +kernel
theorem dX7_aim_16 : decode cX7_aim 16 = .ok (.iload_n 1, 1) := by decide +kernel
theorem dX7_aim_17 : decode cX7_aim 17 = .ok (.isub, 1) := by decide +kernel
theorem dX7_aim_18 : decode cX7_aim 18 = .ok (.bipush 8, 2) := by decide +kernel
theorem dX7_aim_20 : decode cX7_aim 20 = .ok (.ishl, 1) := by decide +kernel
theorem dX7_aim_21 : decode cX7_aim 21 = .ok (.ior, 1) := by decide +kernel
theorem dX7_aim_22 : decode cX7_aim 22 = .ok (.iastore, 1) := by decide +kernel
theorem dX7_aim_23 : decode cX7_aim 23 = .ok (.return_, 1) := by decide +kernel
theorem dX7_found_0 : decode cX7_found 0 = .ok (.aload_n 0, 1) := by decide +kernel
theorem dX7_found_1 : decode cX7_found 1 = .ok (.getfield 66, 3) := by decide +kernel
theorem dX7_found_4 : decode cX7_found 4 = .ok (.iconst 1, 1) := by decide +kernel
theorem dX7_found_5 : decode cX7_found 5 = .ok (.isub, 1) := by decide +kernel
theorem dX7_found_6 : decode cX7_found 6 = .ok (.istore 5, 2) := by decide +kernel
theorem dX7_found_8 : decode cX7_found 8 = .ok (.iload 5, 2) := by decide +kernel
theorem dX7_found_10 : decode cX7_found 10 = .ok (.ifCond .lt 46, 3) := by decide +kernel
theorem dX7_found_13 : decode cX7_found 13 = .ok (.aload_n 0, 1) := by decide +kernel
theorem dX7_found_14 : decode cX7_found 14 = .ok (.getfield 15, 3) := by decide +kernel
theorem dX7_found_17 : decode cX7_found 17 = .ok (.iload 5, 2) := by decide +kernel
theorem dX7_found_19 : decode cX7_found 19 = .ok (.laload, 1) := by decide +kernel
theorem dX7_found_20 : decode cX7_found 20 = .ok (.lload_n 1, 1) := by decide +kernel
theorem dX7_found_21 : decode cX7_found 21 = .ok (.lcmp, 1) := by decide +kernel
theorem dX7_found_22 : decode cX7_found 22 = .ok (.ifCond .ne 28, 3) := by decide +kernel
theorem dX7_found_25 : decode cX7_found 25 = .ok (.aload_n 0, 1) := by decide +kernel
theorem dX7_found_26 : decode cX7_found 26 = .ok (.getfield 19, 3) := by decide +kernel
theorem dX7_found_29 : decode cX7_found 29 = .ok (.iload 5, 2) := by decide +kernel
theorem dX7_found_31 : decode cX7_found 31 = .ok (.laload, 1) := by decide +kernel
theorem dX7_found_32 : decode cX7_found 32 = .ok (.lload_n 3, 1) := by decide +kernel
theorem dX7_found_33 : decode cX7_found 33 = .ok (.lcmp, 1) := by decide +kernel
theorem dX7_found_34 : decode cX7_found 34 = .ok (.ifCond .ne 16, 3) := by decide +kernel
theorem dX7_found_37 : decode cX7_found 37 = .ok (.aload_n 0, 1) := by decide +kernel
theorem dX7_found_38 : decode cX7_found 38 = .ok (.getfield 31, 3) := by decide +kernel
theorem dX7_found_41 : decode cX7_found 41 = .ok (.iload 5, 2) := by decide +kernel
theorem dX7_found_43 : decode cX7_found 43 = .ok (.baload, 1) := by decide +kernel
theorem dX7_found_44 : decode cX7_found 44 = .ok (.ifCond .ne 6, 3) := by decide +kernel
theorem dX7_found_47 : decode cX7_found 47 = .ok (.iload 5, 2) := by decide +kernel
theorem dX7_found_49 : decode cX7_found 49 = .ok (.ireturn, 1) := by decide +kernel
theorem dX7_found_50 : decode cX7_found 50 = .ok (.iinc 5 (-1), 3) := by decide +kernel
theorem dX7_found_53 : decode cX7_found 53 = .ok (.goto (-45), 3) := by decide +kernel
theorem dX7_found_56 : decode cX7_found 56 = .ok (.iconst (-1), 1) := by decide +kernel
theorem dX7_found_57 : decode cX7_found 57 = .ok (.ireturn, 1) := by decide +kernel
theorem dX7_isToldFrom_0 : decode cX7_isToldFrom 0 = .ok (.iload_n 1, 1) := by decide +kernel
theorem dX7_isToldFrom_1 : decode cX7_isToldFrom 1 = .ok (.istore 6, 2) := by decide +kernel
theorem dX7_isToldFrom_3 : decode cX7_isToldFrom 3 = .ok (.iload 6, 2) := by decide +kernel
theorem dX7_isToldFrom_5 : decode cX7_isToldFrom 5 = .ok (.aload_n 0, 1) := by decide +kernel
theorem dX7_isToldFrom_6 : decode cX7_isToldFrom 6 = .ok (.getfield 66, 3) := by decide +kernel
theorem dX7_isToldFrom_9 : decode cX7_isToldFrom 9 = .ok (.if_icmp .ge 36, 3) := by decide +kernel
theorem dX7_isToldFrom_12 : decode cX7_isToldFrom 12 = .ok (.aload_n 0, 1) := by decide +kernel
theorem dX7_isToldFrom_13 : decode cX7_isToldFrom 13 = .ok (.getfield 15, 3) := by decide +kernel
theorem dX7_isToldFrom_16 : decode cX7_isToldFrom 16 = .ok (.iload 6, 2) := by decide +kernel
theorem dX7_isToldFrom_18 : decode cX7_isToldFrom 18 = .ok (.laload, 1) := by decide +kernel
theorem dX7_isToldFrom_19 : decode cX7_isToldFrom 19 = .ok (.lload_n 2, 1) := by decide +kernel
theorem dX7_isToldFrom_20 : decode cX7_isToldFrom 20 = .ok (.lcmp, 1) := by decide +kernel
theorem dX7_isToldFrom_21 : decode cX7_isToldFrom 21 = .ok (.ifCond .ne 18, 3) := by decide +kernel
theorem dX7_isToldFrom_24 : decode cX7_isToldFrom 24 = .ok (.aload_n 0, 1) := by decide +kernel
theorem dX7_isToldFrom_25 : decode cX7_isToldFrom 25 = .ok (.getfield 19, 3) := by decide +kernel
theorem dX7_isToldFrom_28 : decode cX7_isToldFrom 28 = .ok (.iload 6, 2) := by decide +kernel
theorem dX7_isToldFrom_30 : decode cX7_isToldFrom 30 = .ok (.laload, 1) := by decide +kernel
theorem dX7_isToldFrom_31 : decode cX7_isToldFrom 31 = .ok (.lload 4, 2) := by decide +kernel
theorem dX7_isToldFrom_33 : decode cX7_isToldFrom 33 = .ok (.lcmp, 1) := by decide +kernel
theorem dX7_isToldFrom_34 : decode cX7_isToldFrom 34 = .ok (.ifCond .ne 5, 3) := by decide +kernel
theorem dX7_isToldFrom_37 : decode cX7_isToldFrom 37 = .ok (.iconst 1, 1) := by decide +kernel
theorem dX7_isToldFrom_38 : decode cX7_isToldFrom 38 = .ok (.ireturn, 1) := by decide +kernel
theorem dX7_isToldFrom_39 : decode cX7_isToldFrom 39 = .ok (.iinc 6 1, 3) := by decide +kernel
theorem dX7_isToldFrom_42 : decode cX7_isToldFrom 42 = .ok (.goto (-39), 3) := by decide +kernel
theorem dX7_isToldFrom_45 : decode cX7_isToldFrom 45 = .ok (.iconst 0, 1) := by decide +kernel
theorem dX7_isToldFrom_46 : decode cX7_isToldFrom 46 = .ok (.ireturn, 1) := by decide +kernel
theorem dX7_mode_0 : decode cX7_mode 0 = .ok (.aload_n 0, 1) := by decide +kernel
theorem dX7_mode_1 : decode cX7_mode 1 = .ok (.getfield 41, 3) := by decide +kernel
theorem dX7_mode_4 : decode cX7_mode 4 = .ok (.iload_n 1, 1) := by decide +kernel
theorem dX7_mode_5 : decode cX7_mode 5 = .ok (.iaload, 1) := by decide +kernel
theorem dX7_mode_6 : decode cX7_mode 6 = .ok (.iconst 2, 1) := by decide +kernel
theorem dX7_mode_7 : decode cX7_mode 7 = .ok (.iload_n 2, 1) := by decide +kernel
theorem dX7_mode_8 : decode cX7_mode 8 = .ok (.imul, 1) := by decide +kernel
theorem dX7_mode_9 : decode cX7_mode 9 = .ok (.ishr, 1) := by decide +kernel
theorem dX7_mode_10 : decode cX7_mode 10 = .ok (.iconst 3, 1) := by decide +kernel
theorem dX7_mode_11 : decode cX7_mode 11 = .ok (.iand, 1) := by decide +kernel
theorem dX7_mode_12 : decode cX7_mode 12 = .ok (.ireturn, 1) := by decide +kernel
theorem dX7_moveDown_0 : decode cX7_moveDown 0 = .ok (.aload_n 0, 1) := by decide +kernel
theorem dX7_moveDown_1 : decode cX7_moveDown 1 = .ok (.aload_n 0, 1) := by decide +kernel
theorem dX7_moveDown_2 : decode cX7_moveDown 2 = .ok (.getfield 53, 3) := by decide +kernel
theorem dX7_moveDown_5 : decode cX7_moveDown 5 = .ok (.iload_n 1, 1) := by decide +kernel
theorem dX7_moveDown_6 : decode cX7_moveDown 6 = .ok (.isub, 1) := by decide +kernel
theorem dX7_moveDown_7 : decode cX7_moveDown 7 = .ok (.putfield 53, 3) := by decide +kernel
theorem dX7_moveDown_10 : decode cX7_moveDown 10 = .ok (.aload_n 0, 1) := by decide +kernel
theorem dX7_moveDown_11 : decode cX7_moveDown 11 = .ok (.aload_n 0, 1) := by decide +kernel
theorem dX7_moveDown_12 : decode cX7_moveDown 12 = .ok (.getfield 57, 3) := by decide +kernel
theorem dX7_moveDown_15 : decode cX7_moveDown 15 = .ok (.iload_n 1, 1) := by decide +kernel
theorem dX7_moveDown_16 : decode cX7_moveDown 16 = .ok (.isub, 1) := by decide +kernel
theorem dX7_moveDown_17 : decode cX7_moveDown 17 = .ok (.putfield 57, 3) := by decide +kernel
theorem dX7_moveDown_20 : decode cX7_moveDown 20 = .ok (.aload_n 0, 1) := by decide +kernel
theorem dX7_moveDown_21 : decode cX7_moveDown 21 = .ok (.getfield 9, 3) := by decide +kernel
theorem dX7_moveDown_24 : decode cX7_moveDown 24 = .ok (.iload_n 1, 1) := by decide +kernel
theorem dX7_moveDown_25 : decode cX7_moveDown 25 = .ok (.aload_n 0, 1) := by decide +kernel
theorem dX7_moveDown_26 : decode cX7_moveDown 26 = .ok (.getfield 9, 3) := by decide +kernel
theorem dX7_moveDown_29 : decode cX7_moveDown 29 = .ok (.iconst 0, 1) := by decide +kernel
theorem dX7_moveDown_30 : decode cX7_moveDown 30 = .ok (.aload_n 0, 1) := by decide +kernel
theorem dX7_moveDown_31 : decode cX7_moveDown 31 = .ok (.getfield 53, 3) := by decide +kernel
theorem dX7_moveDown_34 : decode cX7_moveDown 34 = .ok (.invokestatic 76, 3) := by decide +kernel
theorem dX7_moveDown_37 : decode cX7_moveDown 37 = .ok (.iconst 0, 1) := by decide +kernel
theorem dX7_moveDown_38 : decode cX7_moveDown 38 = .ok (.istore_n 2, 1) := by decide +kernel
theorem dX7_moveDown_39 : decode cX7_moveDown 39 = .ok (.iload_n 2, 1) := by decide +kernel
theorem dX7_moveDown_40 : decode cX7_moveDown 40 = .ok (.aload_n 0, 1) := by decide +kernel
theorem dX7_moveDown_41 : decode cX7_moveDown 41 = .ok (.getfield 69, 3) := by decide +kernel
theorem dX7_moveDown_44 : decode cX7_moveDown 44 = .ok (.if_icmp .gt 23, 3) := by decide +kernel
theorem dX7_moveDown_47 : decode cX7_moveDown 47 = .ok (.aload_n 0, 1) := by decide +kernel
theorem dX7_moveDown_48 : decode cX7_moveDown 48 = .ok (.getfield 35, 3) := by decide +kernel
theorem dX7_moveDown_51 : decode cX7_moveDown 51 = .ok (.iload_n 2, 1) := by decide +kernel
theorem dX7_moveDown_52 : decode cX7_moveDown 52 = .ok (.aload_n 0, 1) := by decide +kernel
theorem dX7_moveDown_53 : decode cX7_moveDown 53 = .ok (.getfield 35, 3) := by decide +kernel
theorem dX7_moveDown_56 : decode cX7_moveDown 56 = .ok (.iload_n 2, 1) := by decide +kernel
theorem dX7_moveDown_57 : decode cX7_moveDown 57 = .ok (.iaload, 1) := by decide +kernel
theorem dX7_moveDown_58 : decode cX7_moveDown 58 = .ok (.iload_n 1, 1) := by decide +kernel
theorem dX7_moveDown_59 : decode cX7_moveDown 59 = .ok (.isub, 1) := by decide +kernel
theorem dX7_moveDown_60 : decode cX7_moveDown 60 = .ok (.iastore, 1) := by decide +kernel
theorem dX7_moveDown_61 : decode cX7_moveDown 61 = .ok (.iinc 2 1, 3) := by decide +kernel
theorem dX7_moveDown_64 : decode cX7_moveDown 64 = .ok (.goto (-25), 3) := by decide +kernel
theorem dX7_moveDown_67 : decode cX7_moveDown 67 = .ok (.return_, 1) := by decide +kernel
theorem dX7_newPassing_0 : decode cX7_newPassing 0 = .ok (.aload_n 0, 1) := by decide +kernel
theorem dX7_newPassing_1 : decode cX7_newPassing 1 = .ok (.aload_n 0, 1) := by decide +kernel
theorem dX7_newPassing_2 : decode cX7_newPassing 2 = .ok (.getfield 82, 3) := by decide +kernel
theorem dX7_newPassing_5 : decode cX7_newPassing 5 = .ok (.iload_n 1, 1) := by decide +kernel
theorem dX7_newPassing_6 : decode cX7_newPassing 6 = .ok (.iadd, 1) := by decide +kernel
theorem dX7_newPassing_7 : decode cX7_newPassing 7 = .ok (.putfield 82, 3) := by decide +kernel
theorem dX7_newPassing_10 : decode cX7_newPassing 10 = .ok (.aload_n 0, 1) := by decide +kernel
theorem dX7_newPassing_11 : decode cX7_newPassing 11 = .ok (.getfield 82, 3) := by decide +kernel
theorem dX7_newPassing_14 : decode cX7_newPassing 14 = .ok (.iload_n 1, 1) := by decide +kernel
theorem dX7_newPassing_15 : decode cX7_newPassing 15 = .ok (.isub, 1) := by decide +kernel
theorem dX7_newPassing_16 : decode cX7_newPassing 16 = .ok (.ireturn, 1) := by decide +kernel
theorem dX7_newSlots_0 : decode cX7_newSlots 0 = .ok (.aload_n 0, 1) := by decide +kernel
theorem dX7_newSlots_1 : decode cX7_newSlots 1 = .ok (.getfield 50, 3) := by decide +kernel
theorem dX7_newSlots_4 : decode cX7_newSlots 4 = .ok (.iload_n 1, 1) := by decide +kernel
theorem dX7_newSlots_5 : decode cX7_newSlots 5 = .ok (.aload_n 0, 1) := by decide +kernel
theorem dX7_newSlots_6 : decode cX7_newSlots 6 = .ok (.getfield 50, 3) := by decide +kernel
theorem dX7_newSlots_9 : decode cX7_newSlots 9 = .ok (.iload_n 1, 1) := by decide +kernel
theorem dX7_newSlots_10 : decode cX7_newSlots 10 = .ok (.iaload, 1) := by decide +kernel
theorem dX7_newSlots_11 : decode cX7_newSlots 11 = .ok (.iload_n 2, 1) := by decide +kernel
theorem dX7_newSlots_12 : decode cX7_newSlots 12 = .ok (.iadd, 1) := by decide +kernel
theorem dX7_newSlots_13 : decode cX7_newSlots 13 = .ok (.iastore, 1) := by decide +kernel
theorem dX7_newSlots_14 : decode cX7_newSlots 14 = .ok (.aload_n 0, 1) := by decide +kernel
theorem dX7_newSlots_15 : decode cX7_newSlots 15 = .ok (.getfield 50, 3) := by decide +kernel
theorem dX7_newSlots_18 : decode cX7_newSlots 18 = .ok (.iload_n 1, 1) := by decide +kernel
theorem dX7_newSlots_19 : decode cX7_newSlots 19 = .ok (.iaload, 1) := by decide +kernel
theorem dX7_newSlots_20 : decode cX7_newSlots 20 = .ok (.iload_n 2, 1) := by decide +kernel
theorem dX7_newSlots_21 : decode cX7_newSlots 21 = .ok (.isub, 1) := by decide +kernel
theorem dX7_newSlots_22 : decode cX7_newSlots 22 = .ok (.ireturn, 1) := by decide +kernel
theorem dX7_openUnit_0 : decode cX7_openUnit 0 = .ok (.aload_n 0, 1) := by decide +kernel
theorem dX7_openUnit_1 : decode cX7_openUnit 1 = .ok (.getfield 35, 3) := by decide +kernel
theorem dX7_openUnit_4 : decode cX7_openUnit 4 = .ok (.iload_n 1, 1) := by decide +kernel
theorem dX7_openUnit_5 : decode cX7_openUnit 5 = .ok (.aload_n 0, 1) := by decide +kernel
theorem dX7_openUnit_6 : decode cX7_openUnit 6 = .ok (.getfield 53, 3) := by decide +kernel
theorem dX7_openUnit_9 : decode cX7_openUnit 9 = .ok (.iastore, 1) := by decide +kernel
theorem dX7_openUnit_10 : decode cX7_openUnit 10 = .ok (.aload_n 0, 1) := by decide +kernel
theorem dX7_openUnit_11 : decode cX7_openUnit 11 = .ok (.getfield 38, 3) := by decide +kernel
theorem dX7_openUnit_14 : decode cX7_openUnit 14 = .ok (.iload_n 1, 1) := by decide +kernel
theorem dX7_openUnit_15 : decode cX7_openUnit 15 = .ok (.iconst 0, 1) := by decide +kernel
theorem dX7_openUnit_16 : decode cX7_openUnit 16 = .ok (.iastore, 1) := by decide +kernel
theorem dX7_openUnit_17 : decode cX7_openUnit 17 = .ok (.aload_n 0, 1) := by decide +kernel
theorem dX7_openUnit_18 : decode cX7_openUnit 18 = .ok (.getfield 41, 3) := by decide +kernel
theorem dX7_openUnit_21 : decode cX7_openUnit 21 = .ok (.iload_n 1, 1) := by decide +kernel
theorem dX7_openUnit_22 : decode cX7_openUnit 22 = .ok (.iconst 0, 1) := by decide +kernel
theorem dX7_openUnit_23 : decode cX7_openUnit 23 = .ok (.iastore, 1) := by decide +kernel
theorem dX7_openUnit_24 : decode cX7_openUnit 24 = .ok (.aload_n 0, 1) := by decide +kernel
theorem dX7_openUnit_25 : decode cX7_openUnit 25 = .ok (.getfield 44, 3) := by decide +kernel
theorem dX7_openUnit_28 : decode cX7_openUnit 28 = .ok (.iload_n 1, 1) := by decide +kernel
theorem dX7_openUnit_29 : decode cX7_openUnit 29 = .ok (.iconst 0, 1) := by decide +kernel
theorem dX7_openUnit_30 : decode cX7_openUnit 30 = .ok (.iastore, 1) := by decide +kernel
theorem dX7_openUnit_31 : decode cX7_openUnit 31 = .ok (.aload_n 0, 1) := by decide +kernel
theorem dX7_openUnit_32 : decode cX7_openUnit 32 = .ok (.getfield 47, 3) := by decide +kernel
theorem dX7_openUnit_35 : decode cX7_openUnit 35 = .ok (.iload_n 1, 1) := by decide +kernel
theorem dX7_openUnit_36 : decode cX7_openUnit 36 = .ok (.iconst 0, 1) := by decide +kernel
theorem dX7_openUnit_37 : decode cX7_openUnit 37 = .ok (.iastore, 1) := by decide +kernel
theorem dX7_openUnit_38 : decode cX7_openUnit 38 = .ok (.aload_n 0, 1) := by decide +kernel
theorem dX7_openUnit_39 : decode cX7_openUnit 39 = .ok (.getfield 50, 3) := by decide +kernel
theorem dX7_openUnit_42 : decode cX7_openUnit 42 = .ok (.iload_n 1, 1) := by decide +kernel
theorem dX7_openUnit_43 : decode cX7_openUnit 43 = .ok (.iconst 0, 1) := by decide +kernel
theorem dX7_openUnit_44 : decode cX7_openUnit 44 = .ok (.iastore, 1) := by decide +kernel
theorem dX7_openUnit_45 : decode cX7_openUnit 45 = .ok (.aload_n 0, 1) := by decide +kernel
theorem dX7_openUnit_46 : decode cX7_openUnit 46 = .ok (.iconst 0, 1) := by decide +kernel
theorem dX7_openUnit_47 : decode cX7_openUnit 47 = .ok (.putfield 82, 3) := by decide +kernel
theorem dX7_openUnit_50 : decode cX7_openUnit 50 = .ok (.return_, 1) := by decide +kernel
theorem dX7_tell_0 : decode cX7_tell 0 = .ok (.aload_n 0, 1) := by decide +kernel
theorem dX7_tell_1 : decode cX7_tell 1 = .ok (.getfield 66, 3) := by decide +kernel
theorem dX7_tell_4 : decode cX7_tell 4 = .ok (.sipush 256, 3) := by decide +kernel
theorem dX7_tell_7 : decode cX7_tell 7 = .ok (.if_icmp .ge 76, 3) := by decide +kernel
theorem dX7_tell_10 : decode cX7_tell 10 = .ok (.aload_n 0, 1) := by decide +kernel
theorem dX7_tell_11 : decode cX7_tell 11 = .ok (.getfield 15, 3) := by decide +kernel
theorem dX7_tell_14 : decode cX7_tell 14 = .ok (.aload_n 0, 1) := by decide +kernel
theorem dX7_tell_15 : decode cX7_tell 15 = .ok (.getfield 66, 3) := by decide +kernel
theorem dX7_tell_18 : decode cX7_tell 18 = .ok (.lload_n 1, 1) := by decide +kernel
theorem dX7_tell_19 : decode cX7_tell 19 = .ok (.lastore, 1) := by decide +kernel
theorem dX7_tell_20 : decode cX7_tell 20 = .ok (.aload_n 0, 1) := by decide +kernel
theorem dX7_tell_21 : decode cX7_tell 21 = .ok (.getfield 19, 3) := by decide +kernel
theorem dX7_tell_24 : decode cX7_tell 24 = .ok (.aload_n 0, 1) := by decide +kernel
theorem dX7_tell_25 : decode cX7_tell 25 = .ok (.getfield 66, 3) := by decide +kernel
theorem dX7_tell_28 : decode cX7_tell 28 = .ok (.lload_n 3, 1) := by decide +kernel
theorem dX7_tell_29 : decode cX7_tell 29 = .ok (.lastore, 1) := by decide +kernel
theorem dX7_tell_30 : decode cX7_tell 30 = .ok (.aload_n 0, 1) := by decide +kernel
theorem dX7_tell_31 : decode cX7_tell 31 = .ok (.getfield 22, 3) := by decide +kernel
theorem dX7_tell_34 : decode cX7_tell 34 = .ok (.aload_n 0, 1) := by decide +kernel
theorem dX7_tell_35 : decode cX7_tell 35 = .ok (.getfield 66, 3) := by decide +kernel
theorem dX7_tell_38 : decode cX7_tell 38 = .ok (.iload 5, 2) := by decide +kernel
theorem dX7_tell_40 : decode cX7_tell 40 = .ok (.iastore, 1) := by decide +kernel
theorem dX7_tell_41 : decode cX7_tell 41 = .ok (.aload_n 0, 1) := by decide +kernel
theorem dX7_tell_42 : decode cX7_tell 42 = .ok (.getfield 25, 3) := by decide +kernel
theorem dX7_tell_45 : decode cX7_tell 45 = .ok (.aload_n 0, 1) := by decide +kernel
theorem dX7_tell_46 : decode cX7_tell 46 = .ok (.getfield 66, 3) := by decide +kernel
theorem dX7_tell_49 : decode cX7_tell 49 = .ok (.iload 6, 2) := by decide +kernel
theorem dX7_tell_51 : decode cX7_tell 51 = .ok (.iastore, 1) := by decide +kernel
theorem dX7_tell_52 : decode cX7_tell 52 = .ok (.aload_n 0, 1) := by decide +kernel
theorem dX7_tell_53 : decode cX7_tell 53 = .ok (.getfield 28, 3) := by decide +kernel
theorem dX7_tell_56 : decode cX7_tell 56 = .ok (.aload_n 0, 1) := by decide +kernel
theorem dX7_tell_57 : decode cX7_tell 57 = .ok (.getfield 66, 3) := by decide +kernel
theorem dX7_tell_60 : decode cX7_tell 60 = .ok (.iload 7, 2) := by decide +kernel
theorem dX7_tell_62 : decode cX7_tell 62 = .ok (.iastore, 1) := by decide +kernel
theorem dX7_tell_63 : decode cX7_tell 63 = .ok (.aload_n 0, 1) := by decide +kernel
theorem dX7_tell_64 : decode cX7_tell 64 = .ok (.getfield 31, 3) := by decide +kernel
theorem dX7_tell_67 : decode cX7_tell 67 = .ok (.aload_n 0, 1) := by decide +kernel
theorem dX7_tell_68 : decode cX7_tell 68 = .ok (.getfield 66, 3) := by decide +kernel
theorem dX7_tell_71 : decode cX7_tell 71 = .ok (.iconst 0, 1) := by decide +kernel
theorem dX7_tell_72 : decode cX7_tell 72 = .ok (.bastore, 1) := by decide +kernel
theorem dX7_tell_73 : decode cX7_tell 73 = .ok (.aload_n 0, 1) := by decide +kernel
theorem dX7_tell_74 : decode cX7_tell 74 = .ok (.dup, 1) := by decide +kernel
theorem dX7_tell_75 : decode cX7_tell 75 = .ok (.getfield 66, 3) := by decide +kernel
theorem dX7_tell_78 : decode cX7_tell 78 = .ok (.iconst 1, 1) := by decide +kernel
theorem dX7_tell_79 : decode cX7_tell 79 = .ok (.iadd, 1) := by decide +kernel
theorem dX7_tell_80 : decode cX7_tell 80 = .ok (.putfield 66, 3) := by decide +kernel
theorem dX7_tell_83 : decode cX7_tell 83 = .ok (.return_, 1) := by decide +kernel
theorem dX9_drop_0 : decode cX9_drop 0 = .ok (.aload_n 0, 1) := by decide +kernel
theorem dX9_drop_1 : decode cX9_drop 1 = .ok (.iconst 0, 1) := by decide +kernel
theorem dX9_drop_2 : decode cX9_drop 2 = .ok (.putfield 38, 3) := by decide +kernel
theorem dX9_drop_5 : decode cX9_drop 5 = .ok (.aload_n 0, 1) := by decide +kernel
theorem dX9_drop_6 : decode cX9_drop 6 = .ok (.iconst 0, 1) := by decide +kernel
theorem dX9_drop_7 : decode cX9_drop 7 = .ok (.putfield 41, 3) := by decide +kernel
theorem dX9_drop_10 : decode cX9_drop 10 = .ok (.aload_n 0, 1) := by decide +kernel
theorem dX9_drop_11 : decode cX9_drop 11 = .ok (.iconst 0, 1) := by decide +kernel
theorem dX9_drop_12 : decode cX9_drop 12 = .ok (.putfield 44, 3) := by decide +kernel
theorem dX9_drop_15 : decode cX9_drop 15 = .ok (.return_, 1) := by decide +kernel
theorem dX9_empty_0 : decode cX9_empty 0 = .ok (.aload_n 0, 1) := by decide +kernel
theorem dX9_empty_1 : decode cX9_empty 1 = .ok (.invokevirtual 29, 3) := by decide +kernel
theorem dX9_empty_4 : decode cX9_empty 4 = .ok (.aload_n 0, 1) := by decide +kernel
theorem dX9_empty_5 : decode cX9_empty 5 = .ok (.sipush 256, 3) := by decide +kernel
theorem dX9_empty_8 : decode cX9_empty 8 = .ok (.putfield 24, 3) := by decide +kernel
theorem dX9_empty_11 : decode cX9_empty 11 = .ok (.aload_n 0, 1) := by decide +kernel
theorem dX9_empty_12 : decode cX9_empty 12 = .ok (.aload_n 0, 1) := by decide +kernel
theorem dX9_empty_13 : decode cX9_empty 13 = .ok (.getfield 24, 3) := by decide +kernel
theorem dX9_empty_16 : decode cX9_empty 16 = .ok (.putfield 32, 3) := by decide +kernel
theorem dX9_empty_19 : decode cX9_empty 19 = .ok (.aload_n 0, 1) := by decide +kernel
theorem dX9_empty_20 : decode cX9_empty 20 = .ok (.iconst (-1), 1) := by decide +kernel
theorem dX9_empty_21 : decode cX9_empty 21 = .ok (.putfield 35, 3) := by decide +kernel
theorem dX9_empty_24 : decode cX9_empty 24 = .ok (.return_, 1) := by decide +kernel
theorem dX9_expect_0 : decode cX9_expect 0 = .ok (.aload_n 0, 1) := by decide +kernel
theorem dX9_expect_1 : decode cX9_expect 1 = .ok (.iload_n 2, 1) := by decide +kernel
theorem dX9_expect_2 : decode cX9_expect 2 = .ok (.bipush 64, 2) := by decide +kernel
theorem dX9_expect_4 : decode cX9_expect 4 = .ok (.if_icmp .le 12, 3) := by decide +kernel
theorem dX9_expect_7 : decode cX9_expect 7 = .ok (.iload_n 1, 1) := by decide +kernel
theorem dX9_expect_8 : decode cX9_expect 8 = .ok (.iload_n 2, 1) := by decide +kernel
theorem dX9_expect_9 : decode cX9_expect 9 = .ok (.iadd, 1) := by decide +kernel
theorem dX9_expect_10 : decode cX9_expect 10 = .ok (.bipush 32, 2) := by decide +kernel
theorem dX9_expect_12 : decode cX9_expect 12 = .ok (.isub, 1) := by decide +kernel
theorem dX9_expect_13 : decode cX9_expect 13 = .ok (.goto 4, 3) := by decide +kernel
theorem dX9_expect_16 : decode cX9_expect 16 = .ok (.iconst (-1), 1) := by decide +kernel
theorem dX9_expect_17 : decode cX9_expect 17 = .ok (.putfield 35, 3) := by decide +kernel
theorem dX9_expect_20 : decode cX9_expect 20 = .ok (.return_, 1) := by decide +kernel
theorem dX9_newest_0 : decode cX9_newest 0 = .ok (.aload_n 0, 1) := by decide +kernel
theorem dX9_newest_1 : decode cX9_newest 1 = .ok (.getfield 44, 3) := by decide +kernel
theorem dX9_newest_4 : decode cX9_newest 4 = .ok (.ifCond .eq 22, 3) := by decide +kernel
theorem dX9_newest_7 : decode cX9_newest 7 = .ok (.aload_n 0, 1) := by decide +kernel
theorem dX9_newest_8 : decode cX9_newest 8 = .ok (.getfield 13, 3) := by decide +kernel
theorem dX9_newest_11 : decode cX9_newest 11 = .ok (.bipush 8, 2) := by decide +kernel
theorem dX9_newest_13 : decode cX9_newest 13 = .ok (.aaload, 1) := by decide +kernel
theorem dX9_newest_14 : decode cX9_newest 14 = .ok (.getfield 48, 3) := by decide +kernel
theorem dX9_newest_17 : decode cX9_newest 17 = .ok (.iload_n 1, 1) := by decide +kernel
theorem dX9_newest_18 : decode cX9_newest 18 = .ok (.if_icmp .gt 8, 3) := by decide +kernel
theorem dX9_newest_21 : decode cX9_newest 21 = .ok (.bipush 8, 2) := by decide +kernel
theorem dX9_newest_23 : decode cX9_newest 23 = .ok (.goto 4, 3) := by decide +kernel
theorem dX9_newest_26 : decode cX9_newest 26 = .ok (.iconst (-1), 1) := by decide +kernel
theorem dX9_newest_27 : decode cX9_newest 27 = .ok (.istore_n 2, 1) := by decide +kernel
theorem dX9_newest_28 : decode cX9_newest 28 = .ok (.iconst 0, 1) := by decide +kernel
theorem dX9_newest_29 : decode cX9_newest 29 = .ok (.istore_n 3, 1) := by decide +kernel
theorem dX9_newest_30 : decode cX9_newest 30 = .ok (.iload_n 3, 1) := by decide +kernel
theorem dX9_newest_31 : decode cX9_newest 31 = .ok (.aload_n 0, 1) := by decide +kernel
theorem dX9_newest_32 : decode cX9_newest 32 = .ok (.getfield 41, 3) := by decide +kernel
theorem dX9_newest_35 : decode cX9_newest 35 = .ok (.if_icmp .ge 50, 3) := by decide +kernel
theorem dX9_newest_38 : decode cX9_newest 38 = .ok (.aload_n 0, 1) := by decide +kernel
theorem dX9_newest_39 : decode cX9_newest 39 = .ok (.getfield 13, 3) := by decide +kernel
theorem dX9_newest_42 : decode cX9_newest 42 = .ok (.iload_n 3, 1) := by decide +kernel
theorem dX9_newest_43 : decode cX9_newest 43 = .ok (.aaload, 1) := by decide +kernel
theorem dX9_newest_44 : decode cX9_newest 44 = .ok (.getfield 48, 3) := by decide +kernel
theorem dX9_newest_47 : decode cX9_newest 47 = .ok (.iload_n 1, 1) := by decide +kernel
theorem dX9_newest_48 : decode cX9_newest 48 = .ok (.if_icmp .gt 31, 3) := by decide +kernel
theorem dX9_newest_51 : decode cX9_newest 51 = .ok (.iload_n 2, 1) := by decide +kernel
theorem dX9_newest_52 : decode cX9_newest 52 = .ok (.iconst (-1), 1) := by decide +kernel
theorem dX9_newest_53 : decode cX9_newest 53 = .ok (.if_icmp .eq 24, 3) := by decide +kernel
theorem dX9_newest_56 : decode cX9_newest 56 = .ok (.aload_n 0, 1) := by decide +kernel
theorem dX9_newest_57 : decode cX9_newest 57 = .ok (.getfield 13, 3) := by decide +kernel
theorem dX9_newest_60 : decode cX9_newest 60 = .ok (.iload_n 3, 1) := by decide +kernel
theorem dX9_newest_61 : decode cX9_newest 61 = .ok (.aaload, 1) := by decide +kernel
theorem dX9_newest_62 : decode cX9_newest 62 = .ok (.getfield 48, 3) := by decide +kernel
theorem dX9_newest_65 : decode cX9_newest 65 = .ok (.aload_n 0, 1) := by decide +kernel
theorem dX9_newest_66 : decode cX9_newest 66 = .ok (.getfield 13, 3) := by decide +kernel
theorem dX9_newest_69 : decode cX9_newest 69 = .ok (.iload_n 2, 1) := by decide +kernel
theorem dX9_newest_70 : decode cX9_newest 70 = .ok (.aaload, 1) := by decide +kernel
theorem dX9_newest_71 : decode cX9_newest 71 = .ok (.getfield 48, 3) := by decide +kernel
theorem dX9_newest_74 : decode cX9_newest 74 = .ok (.if_icmp .le 5, 3) := by decide +kernel
theorem dX9_newest_77 : decode cX9_newest 77 = .ok (.iload_n 3, 1) := by decide +kernel
theorem dX9_newest_78 : decode cX9_newest 78 = .ok (.istore_n 2, 1) := by decide +kernel
theorem dX9_newest_79 : decode cX9_newest 79 = .ok (.iinc 3 1, 3) := by decide +kernel
theorem dX9_newest_82 : decode cX9_newest 82 = .ok (.goto (-52), 3) := by decide +kernel
theorem dX9_newest_85 : decode cX9_newest 85 = .ok (.iload_n 2, 1) := by decide +kernel
theorem dX9_newest_86 : decode cX9_newest 86 = .ok (.ireturn, 1) := by decide +kernel
theorem dX9_used_0 : decode cX9_used 0 = .ok (.aload_n 0, 1) := by decide +kernel
theorem dX9_used_1 : decode cX9_used 1 = .ok (.getfield 44, 3) := by decide +kernel
theorem dX9_used_4 : decode cX9_used 4 = .ok (.ifCond .eq 32, 3) := by decide +kernel
theorem dX9_used_7 : decode cX9_used 7 = .ok (.aload_n 0, 1) := by decide +kernel
theorem dX9_used_8 : decode cX9_used 8 = .ok (.getfield 38, 3) := by decide +kernel
theorem dX9_used_11 : decode cX9_used 11 = .ok (.aload_n 0, 1) := by decide +kernel
theorem dX9_used_12 : decode cX9_used 12 = .ok (.getfield 13, 3) := by decide +kernel
theorem dX9_used_15 : decode cX9_used 15 = .ok (.bipush 8, 2) := by decide +kernel
theorem dX9_used_17 : decode cX9_used 17 = .ok (.aaload, 1) := by decide +kernel
theorem dX9_used_18 : decode cX9_used 18 = .ok (.getfield 57, 3) := by decide +kernel
theorem dX9_used_21 : decode cX9_used 21 = .ok (.iadd, 1) := by decide +kernel
theorem dX9_used_22 : decode cX9_used 22 = .ok (.aload_n 0, 1) := by decide +kernel
theorem dX9_used_23 : decode cX9_used 23 = .ok (.getfield 13, 3) := by decide +kernel
theorem dX9_used_26 : decode cX9_used 26 = .ok (.bipush 8, 2) := by decide +kernel
theorem dX9_used_28 : decode cX9_used 28 = .ok (.aaload, 1) := by decide +kernel
theorem dX9_used_29 : decode cX9_used 29 = .ok (.getfield 60, 3) := by decide +kernel
theorem dX9_used_32 : decode cX9_used 32 = .ok (.iadd, 1) := by decide +kernel
theorem dX9_used_33 : decode cX9_used 33 = .ok (.goto 7, 3) := by decide +kernel
theorem dX9_used_36 : decode cX9_used 36 = .ok (.aload_n 0, 1) := by decide +kernel
theorem dX9_used_37 : decode cX9_used 37 = .ok (.getfield 38, 3) := by decide +kernel
theorem dX9_used_40 : decode cX9_used 40 = .ok (.ireturn, 1) := by decide +kernel
