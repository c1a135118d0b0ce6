set_option maxHeartbeats 4000000 in
set_option maxRecDepth 20000 in
theorem t_mc_0_66 {p : Program} {l : Launch} {e : Env} {R : Room} {s : State} {m : MethodId} {args : Array Value} {below : List Frame} {meth : Method} {c : Code} {cells slots : Nat} {Q : State → Prop} {D : va_G} {cy : Nat → ClassId} {A : Nat → Prop} {a q0 : Nat} {ws : va_W} {H0 : Heap} {ls : Array Slot} {rest : List Value} (hx : p.tables.exec = Jvm.exec) (hb : c.code = cX12_init) (hK : va_K D nCl (nTy cy) s) (hl : q0 < ws.length) (kk : ∀ (H : Heap) (locs : List Loc), va_P D nCl (ws.set q0 (a, .inl (cy 1, 264, .inl (mT mWords 66)))) H → va_D A (ws.set q0 (a, .inl (cy 1, 264, .inl (mT mWords 66)))) → va_S A H0 H locs → W p l e R s m args below meth c H locs cells slots Q (F0 m 400 ls (.ref a :: rest))) : ∀ (H : Heap) (locs : List Loc), va_P D nCl (ws.set q0 (a, .inl (cy 1, 264, .inl (mT mWords 0)))) H → va_D A (ws.set q0 (a, .inl (cy 1, 264, .inl (mT mWords 0)))) → va_S A H0 H locs → W p l e R s m args below meth c H locs cells slots Q (F0 m 10 ls (.ref a :: rest)) := by
  intro H locs hP hD hS
  refine lv_dup hx hb dX12_init_10 rfl ?_
  refine lv_iconst (v := 0) hx hb dX12_init_11 (by decide) ?_
  refine lv_bipush (v := 118) hx hb dX12_init_12 (by decide) ?_
  refine nb_it hx hb hK q0 1 hl hP hD hS rfl (by decide) (nb_in (by decide)) rfl dX12_init_14 (fun H locs hP hD hS => ?_)
  refine lv_dup hx hb dX12_init_15 rfl ?_
  refine lv_iconst (v := 1) hx hb dX12_init_16 (by decide) ?_
  refine lv_bipush (v := 97) hx hb dX12_init_17 (by decide) ?_
  refine nb_it hx hb hK q0 1 hl hP hD hS rfl (by decide) (nb_in (by decide)) rfl dX12_init_19 (fun H locs hP hD hS => ?_)
  refine lv_dup hx hb dX12_init_20 rfl ?_
  refine lv_iconst (v := 2) hx hb dX12_init_21 (by decide) ?_
  refine lv_bipush (v := 114) hx hb dX12_init_22 (by decide) ?_
  refine nb_it hx hb hK q0 1 hl hP hD hS rfl (by decide) (nb_in (by decide)) rfl dX12_init_24 (fun H locs hP hD hS => ?_)
  refine lv_dup hx hb dX12_init_25 rfl ?_
  refine lv_iconst (v := 3) hx hb dX12_init_26 (by decide) ?_
  refine lv_bipush (v := 32) hx hb dX12_init_27 (by decide) ?_
  refine nb_it hx hb hK q0 1 hl hP hD hS rfl (by decide) (nb_in (by decide)) rfl dX12_init_29 (fun H locs hP hD hS => ?_)
  refine lv_dup hx hb dX12_init_30 rfl ?_
  refine lv_iconst (v := 4) hx hb dX12_init_31 (by decide) ?_
  refine lv_bipush (v := 112) hx hb dX12_init_32 (by decide) ?_
  refine nb_it hx hb hK q0 1 hl hP hD hS rfl (by decide) (nb_in (by decide)) rfl dX12_init_34 (fun H locs hP hD hS => ?_)
  refine lv_dup hx hb dX12_init_35 rfl ?_
  refine lv_iconst (v := 5) hx hb dX12_init_36 (by decide) ?_
  refine lv_bipush (v := 114) hx hb dX12_init_37 (by decide) ?_
  refine nb_it hx hb hK q0 1 hl hP hD hS rfl (by decide) (nb_in (by decide)) rfl dX12_init_39 (fun H locs hP hD hS => ?_)
  refine lv_dup hx hb dX12_init_40 rfl ?_
  refine lv_bipush (v := 6) hx hb dX12_init_41 (by decide) ?_
  refine lv_bipush (v := 111) hx hb dX12_init_43 (by decide) ?_
  refine nb_it hx hb hK q0 1 hl hP hD hS rfl (by decide) (nb_in (by decide)) rfl dX12_init_45 (fun H locs hP hD hS => ?_)
  refine lv_dup hx hb dX12_init_46 rfl ?_
  refine lv_bipush (v := 7) hx hb dX12_init_47 (by decide) ?_
  refine lv_bipush (v := 99) hx hb dX12_init_49 (by decide) ?_
  refine nb_it hx hb hK q0 1 hl hP hD hS rfl (by decide) (nb_in (by decide)) rfl dX12_init_51 (fun H locs hP hD hS => ?_)
  refine lv_dup hx hb dX12_init_52 rfl ?_
  refine lv_bipush (v := 8) hx hb dX12_init_53 (by decide) ?_
  refine lv_bipush (v := 32) hx hb dX12_init_55 (by decide) ?_
  refine nb_it hx hb hK q0 1 hl hP hD hS rfl (by decide) (nb_in (by decide)) rfl dX12_init_57 (fun H locs hP hD hS => ?_)
  refine lv_dup hx hb dX12_init_58 rfl ?_
  refine lv_bipush (v := 9) hx hb dX12_init_59 (by decide) ?_
  refine lv_bipush (v := 102) hx hb dX12_init_61 (by decide) ?_
  refine nb_it hx hb hK q0 1 hl hP hD hS rfl (by decide) (nb_in (by decide)) rfl dX12_init_63 (fun H locs hP hD hS => ?_)
  refine lv_dup hx hb dX12_init_64 rfl ?_
  refine lv_bipush (v := 10) hx hb dX12_init_65 (by decide) ?_
  refine lv_bipush (v := 117) hx hb dX12_init_67 (by decide) ?_
  refine nb_it hx hb hK q0 1 hl hP hD hS rfl (by decide) (nb_in (by decide)) rfl dX12_init_69 (fun H locs hP hD hS => ?_)
  refine lv_dup hx hb dX12_init_70 rfl ?_
  refine lv_bipush (v := 11) hx hb dX12_init_71 (by decide) ?_
  refine lv_bipush (v := 110) hx hb dX12_init_73 (by decide) ?_
  refine nb_it hx hb hK q0 1 hl hP hD hS rfl (by decide) (nb_in (by decide)) rfl dX12_init_75 (fun H locs hP hD hS => ?_)
  refine lv_dup hx hb dX12_init_76 rfl ?_
  refine lv_bipush (v := 12) hx hb dX12_init_77 (by decide) ?_
  refine lv_bipush (v := 99) hx hb dX12_init_79 (by decide) ?_
  refine nb_it hx hb hK q0 1 hl hP hD hS rfl (by decide) (nb_in (by decide)) rfl dX12_init_81 (fun H locs hP hD hS => ?_)
  refine lv_dup hx hb dX12_init_82 rfl ?_
  refine lv_bipush (v := 13) hx hb dX12_init_83 (by decide) ?_
  refine lv_bipush (v := 32) hx hb dX12_init_85 (by decide) ?_
  refine nb_it hx hb hK q0 1 hl hP hD hS rfl (by decide) (nb_in (by decide)) rfl dX12_init_87 (fun H locs hP hD hS => ?_)
  refine lv_dup hx hb dX12_init_88 rfl ?_
  refine lv_bipush (v := 14) hx hb dX12_init_89 (by decide) ?_
  refine lv_bipush (v := 114) hx hb dX12_init_91 (by decide) ?_
  refine nb_it hx hb hK q0 1 hl hP hD hS rfl (by decide) (nb_in (by decide)) rfl dX12_init_93 (fun H locs hP hD hS => ?_)
  refine lv_dup hx hb dX12_init_94 rfl ?_
  refine lv_bipush (v := 15) hx hb dX12_init_95 (by decide) ?_
  refine lv_bipush (v := 100) hx hb dX12_init_97 (by decide) ?_
  refine nb_it hx hb hK q0 1 hl hP hD hS rfl (by decide) (nb_in (by decide)) rfl dX12_init_99 (fun H locs hP hD hS => ?_)
  refine lv_dup hx hb dX12_init_100 rfl ?_
  refine lv_bipush (v := 16) hx hb dX12_init_101 (by decide) ?_
  refine lv_bipush (v := 32) hx hb dX12_init_103 (by decide) ?_
  refine nb_it hx hb hK q0 1 hl hP hD hS rfl (by decide) (nb_in (by decide)) rfl dX12_init_105 (fun H locs hP hD hS => ?_)
  refine lv_dup hx hb dX12_init_106 rfl ?_
  refine lv_bipush (v := 17) hx hb dX12_init_107 (by decide) ?_
  refine lv_bipush (v := 119) hx hb dX12_init_109 (by decide) ?_
  refine nb_it hx hb hK q0 1 hl hP hD hS rfl (by decide) (nb_in (by decide)) rfl dX12_init_111 (fun H locs hP hD hS => ?_)
  refine lv_dup hx hb dX12_init_112 rfl ?_
  refine lv_bipush (v := 18) hx hb dX12_init_113 (by decide) ?_
  refine lv_bipush (v := 114) hx hb dX12_init_115 (by decide) ?_
  refine nb_it hx hb hK q0 1 hl hP hD hS rfl (by decide) (nb_in (by decide)) rfl dX12_init_117 (fun H locs hP hD hS => ?_)
  refine lv_dup hx hb dX12_init_118 rfl ?_
  refine lv_bipush (v := 19) hx hb dX12_init_119 (by decide) ?_
  refine lv_bipush (v := 32) hx hb dX12_init_121 (by decide) ?_
  refine nb_it hx hb hK q0 1 hl hP hD hS rfl (by decide) (nb_in (by decide)) rfl dX12_init_123 (fun H locs hP hD hS => ?_)
  refine lv_dup hx hb dX12_init_124 rfl ?_
  refine lv_bipush (v := 20) hx hb dX12_init_125 (by decide) ?_
  refine lv_bipush (v := 114) hx hb dX12_init_127 (by decide) ?_
  refine nb_it hx hb hK q0 1 hl hP hD hS rfl (by decide) (nb_in (by decide)) rfl dX12_init_129 (fun H locs hP hD hS => ?_)
  refine lv_dup hx hb dX12_init_130 rfl ?_
  refine lv_bipush (v := 21) hx hb dX12_init_131 (by decide) ?_
  refine lv_bipush (v := 119) hx hb dX12_init_133 (by decide) ?_
  refine nb_it hx hb hK q0 1 hl hP hD hS rfl (by decide) (nb_in (by decide)) rfl dX12_init_135 (fun H locs hP hD hS => ?_)
  refine lv_dup hx hb dX12_init_136 rfl ?_
  refine lv_bipush (v := 22) hx hb dX12_init_137 (by decide) ?_
  refine lv_bipush (v := 32) hx hb dX12_init_139 (by decide) ?_
  refine nb_it hx hb hK q0 1 hl hP hD hS rfl (by decide) (nb_in (by decide)) rfl dX12_init_141 (fun H locs hP hD hS => ?_)
  refine lv_dup hx hb dX12_init_142 rfl ?_
  refine lv_bipush (v := 23) hx hb dX12_init_143 (by decide) ?_
  refine lv_bipush (v := 101) hx hb dX12_init_145 (by decide) ?_
  refine nb_it hx hb hK q0 1 hl hP hD hS rfl (by decide) (nb_in (by decide)) rfl dX12_init_147 (fun H locs hP hD hS => ?_)
  refine lv_dup hx hb dX12_init_148 rfl ?_
  refine lv_bipush (v := 24) hx hb dX12_init_149 (by decide) ?_
  refine lv_bipush (v := 110) hx hb dX12_init_151 (by decide) ?_
  refine nb_it hx hb hK q0 1 hl hP hD hS rfl (by decide) (nb_in (by decide)) rfl dX12_init_153 (fun H locs hP hD hS => ?_)
  refine lv_dup hx hb dX12_init_154 rfl ?_
  refine lv_bipush (v := 25) hx hb dX12_init_155 (by decide) ?_
  refine lv_bipush (v := 100) hx hb dX12_init_157 (by decide) ?_
  refine nb_it hx hb hK q0 1 hl hP hD hS rfl (by decide) (nb_in (by decide)) rfl dX12_init_159 (fun H locs hP hD hS => ?_)
  refine lv_dup hx hb dX12_init_160 rfl ?_
  refine lv_bipush (v := 26) hx hb dX12_init_161 (by decide) ?_
  refine lv_bipush (v := 32) hx hb dX12_init_163 (by decide) ?_
  refine nb_it hx hb hK q0 1 hl hP hD hS rfl (by decide) (nb_in (by decide)) rfl dX12_init_165 (fun H locs hP hD hS => ?_)
  refine lv_dup hx hb dX12_init_166 rfl ?_
  refine lv_bipush (v := 27) hx hb dX12_init_167 (by decide) ?_
  refine lv_bipush (v := 105) hx hb dX12_init_169 (by decide) ?_
  refine nb_it hx hb hK q0 1 hl hP hD hS rfl (by decide) (nb_in (by decide)) rfl dX12_init_171 (fun H locs hP hD hS => ?_)
  refine lv_dup hx hb dX12_init_172 rfl ?_
  refine lv_bipush (v := 28) hx hb dX12_init_173 (by decide) ?_
  refine lv_bipush (v := 102) hx hb dX12_init_175 (by decide) ?_
  refine nb_it hx hb hK q0 1 hl hP hD hS rfl (by decide) (nb_in (by decide)) rfl dX12_init_177 (fun H locs hP hD hS => ?_)
  refine lv_dup hx hb dX12_init_178 rfl ?_
  refine lv_bipush (v := 29) hx hb dX12_init_179 (by decide) ?_
  refine lv_bipush (v := 32) hx hb dX12_init_181 (by decide) ?_
  refine nb_it hx hb hK q0 1 hl hP hD hS rfl (by decide) (nb_in (by decide)) rfl dX12_init_183 (fun H locs hP hD hS => ?_)
  refine lv_dup hx hb dX12_init_184 rfl ?_
  refine lv_bipush (v := 30) hx hb dX12_init_185 (by decide) ?_
  refine lv_bipush (v := 116) hx hb dX12_init_187 (by decide) ?_
  refine nb_it hx hb hK q0 1 hl hP hD hS rfl (by decide) (nb_in (by decide)) rfl dX12_init_189 (fun H locs hP hD hS => ?_)
  refine lv_dup hx hb dX12_init_190 rfl ?_
  refine lv_bipush (v := 31) hx hb dX12_init_191 (by decide) ?_
  refine lv_bipush (v := 104) hx hb dX12_init_193 (by decide) ?_
  refine nb_it hx hb hK q0 1 hl hP hD hS rfl (by decide) (nb_in (by decide)) rfl dX12_init_195 (fun H locs hP hD hS => ?_)
  refine lv_dup hx hb dX12_init_196 rfl ?_
  refine lv_bipush (v := 32) hx hb dX12_init_197 (by decide) ?_
  refine lv_bipush (v := 101) hx hb dX12_init_199 (by decide) ?_
  refine nb_it hx hb hK q0 1 hl hP hD hS rfl (by decide) (nb_in (by decide)) rfl dX12_init_201 (fun H locs hP hD hS => ?_)
  refine lv_dup hx hb dX12_init_202 rfl ?_
  refine lv_bipush (v := 33) hx hb dX12_init_203 (by decide) ?_
  refine lv_bipush (v := 110) hx hb dX12_init_205 (by decide) ?_
  refine nb_it hx hb hK q0 1 hl hP hD hS rfl (by decide) (nb_in (by decide)) rfl dX12_init_207 (fun H locs hP hD hS => ?_)
  refine lv_dup hx hb dX12_init_208 rfl ?_
  refine lv_bipush (v := 34) hx hb dX12_init_209 (by decide) ?_
  refine lv_bipush (v := 32) hx hb dX12_init_211 (by decide) ?_
  refine nb_it hx hb hK q0 1 hl hP hD hS rfl (by decide) (nb_in (by decide)) rfl dX12_init_213 (fun H locs hP hD hS => ?_)
  refine lv_dup hx hb dX12_init_214 rfl ?_
  refine lv_bipush (v := 35) hx hb dX12_init_215 (by decide) ?_
  refine lv_bipush (v := 101) hx hb dX12_init_217 (by decide) ?_
  refine nb_it hx hb hK q0 1 hl hP hD hS rfl (by decide) (nb_in (by decide)) rfl dX12_init_219 (fun H locs hP hD hS => ?_)
  refine lv_dup hx hb dX12_init_220 rfl ?_
  refine lv_bipush (v := 36) hx hb dX12_init_221 (by decide) ?_
  refine lv_bipush (v := 108) hx hb dX12_init_223 (by decide) ?_
  refine nb_it hx hb hK q0 1 hl hP hD hS rfl (by decide) (nb_in (by decide)) rfl dX12_init_225 (fun H locs hP hD hS => ?_)
  refine lv_dup hx hb dX12_init_226 rfl ?_
  refine lv_bipush (v := 37) hx hb dX12_init_227 (by decide) ?_
  refine lv_bipush (v := 115) hx hb dX12_init_229 (by decide) ?_
  refine nb_it hx hb hK q0 1 hl hP hD hS rfl (by decide) (nb_in (by decide)) rfl dX12_init_231 (fun H locs hP hD hS => ?_)
  refine lv_dup hx hb dX12_init_232 rfl ?_
  refine lv_bipush (v := 38) hx hb dX12_init_233 (by decide) ?_
  refine lv_bipush (v := 101) hx hb dX12_init_235 (by decide) ?_
  refine nb_it hx hb hK q0 1 hl hP hD hS rfl (by decide) (nb_in (by decide)) rfl dX12_init_237 (fun H locs hP hD hS => ?_)
  refine lv_dup hx hb dX12_init_238 rfl ?_
  refine lv_bipush (v := 39) hx hb dX12_init_239 (by decide) ?_
  refine lv_bipush (v := 105) hx hb dX12_init_241 (by decide) ?_
  refine nb_it hx hb hK q0 1 hl hP hD hS rfl (by decide) (nb_in (by decide)) rfl dX12_init_243 (fun H locs hP hD hS => ?_)
  refine lv_dup hx hb dX12_init_244 rfl ?_
  refine lv_bipush (v := 40) hx hb dX12_init_245 (by decide) ?_
  refine lv_bipush (v := 102) hx hb dX12_init_247 (by decide) ?_
  refine nb_it hx hb hK q0 1 hl hP hD hS rfl (by decide) (nb_in (by decide)) rfl dX12_init_249 (fun H locs hP hD hS => ?_)
  refine lv_dup hx hb dX12_init_250 rfl ?_
  refine lv_bipush (v := 41) hx hb dX12_init_251 (by decide) ?_
  refine lv_bipush (v := 32) hx hb dX12_init_253 (by decide) ?_
  refine nb_it hx hb hK q0 1 hl hP hD hS rfl (by decide) (nb_in (by decide)) rfl dX12_init_255 (fun H locs hP hD hS => ?_)
  refine lv_dup hx hb dX12_init_256 rfl ?_
  refine lv_bipush (v := 42) hx hb dX12_init_257 (by decide) ?_
  refine lv_bipush (v := 101) hx hb dX12_init_259 (by decide) ?_
  refine nb_it hx hb hK q0 1 hl hP hD hS rfl (by decide) (nb_in (by decide)) rfl dX12_init_261 (fun H locs hP hD hS => ?_)
  refine lv_dup hx hb dX12_init_262 rfl ?_
  refine lv_bipush (v := 43) hx hb dX12_init_263 (by decide) ?_
  refine lv_bipush (v := 108) hx hb dX12_init_265 (by decide) ?_
  refine nb_it hx hb hK q0 1 hl hP hD hS rfl (by decide) (nb_in (by decide)) rfl dX12_init_267 (fun H locs hP hD hS => ?_)
  refine lv_dup hx hb dX12_init_268 rfl ?_
  refine lv_bipush (v := 44) hx hb dX12_init_269 (by decide) ?_
  refine lv_bipush (v := 115) hx hb dX12_init_271 (by decide) ?_
  refine nb_it hx hb hK q0 1 hl hP hD hS rfl (by decide) (nb_in (by decide)) rfl dX12_init_273 (fun H locs hP hD hS => ?_)
  refine lv_dup hx hb dX12_init_274 rfl ?_
  refine lv_bipush (v := 45) hx hb dX12_init_275 (by decide) ?_
  refine lv_bipush (v := 101) hx hb dX12_init_277 (by decide) ?_
  refine nb_it hx hb hK q0 1 hl hP hD hS rfl (by decide) (nb_in (by decide)) rfl dX12_init_279 (fun H locs hP hD hS => ?_)
  refine lv_dup hx hb dX12_init_280 rfl ?_
  refine lv_bipush (v := 46) hx hb dX12_init_281 (by decide) ?_
  refine lv_bipush (v := 32) hx hb dX12_init_283 (by decide) ?_
  refine nb_it hx hb hK q0 1 hl hP hD hS rfl (by decide) (nb_in (by decide)) rfl dX12_init_285 (fun H locs hP hD hS => ?_)
  refine lv_dup hx hb dX12_init_286 rfl ?_
  refine lv_bipush (v := 47) hx hb dX12_init_287 (by decide) ?_
  refine lv_bipush (v := 119) hx hb dX12_init_289 (by decide) ?_
  refine nb_it hx hb hK q0 1 hl hP hD hS rfl (by decide) (nb_in (by decide)) rfl dX12_init_291 (fun H locs hP hD hS => ?_)
  refine lv_dup hx hb dX12_init_292 rfl ?_
  refine lv_bipush (v := 48) hx hb dX12_init_293 (by decide) ?_
  refine lv_bipush (v := 104) hx hb dX12_init_295 (by decide) ?_
  refine nb_it hx hb hK q0 1 hl hP hD hS rfl (by decide) (nb_in (by decide)) rfl dX12_init_297 (fun H locs hP hD hS => ?_)
  refine lv_dup hx hb dX12_init_298 rfl ?_
  refine lv_bipush (v := 49) hx hb dX12_init_299 (by decide) ?_
  refine lv_bipush (v := 105) hx hb dX12_init_301 (by decide) ?_
  refine nb_it hx hb hK q0 1 hl hP hD hS rfl (by decide) (nb_in (by decide)) rfl dX12_init_303 (fun H locs hP hD hS => ?_)
  refine lv_dup hx hb dX12_init_304 rfl ?_
  refine lv_bipush (v := 50) hx hb dX12_init_305 (by decide) ?_
  refine lv_bipush (v := 108) hx hb dX12_init_307 (by decide) ?_
  refine nb_it hx hb hK q0 1 hl hP hD hS rfl (by decide) (nb_in (by decide)) rfl dX12_init_309 (fun H locs hP hD hS => ?_)
  refine lv_dup hx hb dX12_init_310 rfl ?_
  refine lv_bipush (v := 51) hx hb dX12_init_311 (by decide) ?_
  refine lv_bipush (v := 101) hx hb dX12_init_313 (by decide) ?_
  refine nb_it hx hb hK q0 1 hl hP hD hS rfl (by decide) (nb_in (by decide)) rfl dX12_init_315 (fun H locs hP hD hS => ?_)
  refine lv_dup hx hb dX12_init_316 rfl ?_
  refine lv_bipush (v := 52) hx hb dX12_init_317 (by decide) ?_
  refine lv_bipush (v := 32) hx hb dX12_init_319 (by decide) ?_
  refine nb_it hx hb hK q0 1 hl hP hD hS rfl (by decide) (nb_in (by decide)) rfl dX12_init_321 (fun H locs hP hD hS => ?_)
  refine lv_dup hx hb dX12_init_322 rfl ?_
  refine lv_bipush (v := 53) hx hb dX12_init_323 (by decide) ?_
  refine lv_bipush (v := 100) hx hb dX12_init_325 (by decide) ?_
  refine nb_it hx hb hK q0 1 hl hP hD hS rfl (by decide) (nb_in (by decide)) rfl dX12_init_327 (fun H locs hP hD hS => ?_)
  refine lv_dup hx hb dX12_init_328 rfl ?_
  refine lv_bipush (v := 54) hx hb dX12_init_329 (by decide) ?_
  refine lv_bipush (v := 111) hx hb dX12_init_331 (by decide) ?_
  refine nb_it hx hb hK q0 1 hl hP hD hS rfl (by decide) (nb_in (by decide)) rfl dX12_init_333 (fun H locs hP hD hS => ?_)
  refine lv_dup hx hb dX12_init_334 rfl ?_
  refine lv_bipush (v := 55) hx hb dX12_init_335 (by decide) ?_
  refine lv_bipush (v := 32) hx hb dX12_init_337 (by decide) ?_
  refine nb_it hx hb hK q0 1 hl hP hD hS rfl (by decide) (nb_in (by decide)) rfl dX12_init_339 (fun H locs hP hD hS => ?_)
  refine lv_dup hx hb dX12_init_340 rfl ?_
  refine lv_bipush (v := 56) hx hb dX12_init_341 (by decide) ?_
  refine lv_bipush (v := 102) hx hb dX12_init_343 (by decide) ?_
  refine nb_it hx hb hK q0 1 hl hP hD hS rfl (by decide) (nb_in (by decide)) rfl dX12_init_345 (fun H locs hP hD hS => ?_)
  refine lv_dup hx hb dX12_init_346 rfl ?_
  refine lv_bipush (v := 57) hx hb dX12_init_347 (by decide) ?_
  refine lv_bipush (v := 111) hx hb dX12_init_349 (by decide) ?_
  refine nb_it hx hb hK q0 1 hl hP hD hS rfl (by decide) (nb_in (by decide)) rfl dX12_init_351 (fun H locs hP hD hS => ?_)
  refine lv_dup hx hb dX12_init_352 rfl ?_
  refine lv_bipush (v := 58) hx hb dX12_init_353 (by decide) ?_
  refine lv_bipush (v := 114) hx hb dX12_init_355 (by decide) ?_
  refine nb_it hx hb hK q0 1 hl hP hD hS rfl (by decide) (nb_in (by decide)) rfl dX12_init_357 (fun H locs hP hD hS => ?_)
  refine lv_dup hx hb dX12_init_358 rfl ?_
  refine lv_bipush (v := 59) hx hb dX12_init_359 (by decide) ?_
  refine lv_bipush (v := 32) hx hb dX12_init_361 (by decide) ?_
  refine nb_it hx hb hK q0 1 hl hP hD hS rfl (by decide) (nb_in (by decide)) rfl dX12_init_363 (fun H locs hP hD hS => ?_)
  refine lv_dup hx hb dX12_init_364 rfl ?_
  refine lv_bipush (v := 60) hx hb dX12_init_365 (by decide) ?_
  refine lv_bipush (v := 105) hx hb dX12_init_367 (by decide) ?_
  refine nb_it hx hb hK q0 1 hl hP hD hS rfl (by decide) (nb_in (by decide)) rfl dX12_init_369 (fun H locs hP hD hS => ?_)
  refine lv_dup hx hb dX12_init_370 rfl ?_
  refine lv_bipush (v := 61) hx hb dX12_init_371 (by decide) ?_
  refine lv_bipush (v := 110) hx hb dX12_init_373 (by decide) ?_
  refine nb_it hx hb hK q0 1 hl hP hD hS rfl (by decide) (nb_in (by decide)) rfl dX12_init_375 (fun H locs hP hD hS => ?_)
  refine lv_dup hx hb dX12_init_376 rfl ?_
  refine lv_bipush (v := 62) hx hb dX12_init_377 (by decide) ?_
  refine lv_bipush (v := 32) hx hb dX12_init_379 (by decide) ?_
  refine nb_it hx hb hK q0 1 hl hP hD hS rfl (by decide) (nb_in (by decide)) rfl dX12_init_381 (fun H locs hP hD hS => ?_)
  refine lv_dup hx hb dX12_init_382 rfl ?_
  refine lv_bipush (v := 63) hx hb dX12_init_383 (by decide) ?_
  refine lv_bipush (v := 110) hx hb dX12_init_385 (by decide) ?_
  refine nb_it hx hb hK q0 1 hl hP hD hS rfl (by decide) (nb_in (by decide)) rfl dX12_init_387 (fun H locs hP hD hS => ?_)
  refine lv_dup hx hb dX12_init_388 rfl ?_
  refine lv_bipush (v := 64) hx hb dX12_init_389 (by decide) ?_
  refine lv_bipush (v := 111) hx hb dX12_init_391 (by decide) ?_
  refine nb_it hx hb hK q0 1 hl hP hD hS rfl (by decide) (nb_in (by decide)) rfl dX12_init_393 (fun H locs hP hD hS => ?_)
  refine lv_dup hx hb dX12_init_394 rfl ?_
  refine lv_bipush (v := 65) hx hb dX12_init_395 (by decide) ?_
  refine lv_bipush (v := 116) hx hb dX12_init_397 (by decide) ?_
  refine nb_it hx hb hK q0 1 hl hP hD hS rfl (by decide) (nb_in (by decide)) rfl dX12_init_399 (fun H locs hP hD hS => ?_)
  exact kk H locs hP hD hS
set_option maxHeartbeats 4000000 in
set_option maxRecDepth 20000 in
theorem t_mc_0_132 {p : Program} {l : Launch} {e : Env} {R : Room} {s : State} {m : MethodId} {args : Array Value} {below : List Frame} {meth : Method} {c : Code} {cells slots : Nat} {Q : State → Prop} {D : va_G} {cy : Nat → ClassId} {A : Nat → Prop} {a q0 : Nat} {ws : va_W} {H0 : Heap} {ls : Array Slot} {rest : List Value} (hx : p.tables.exec = Jvm.exec) (hb : c.code = cX12_init) (hK : va_K D nCl (nTy cy) s) (hl : q0 < ws.length) (kk : ∀ (H : Heap) (locs : List Loc), va_P D nCl (ws.set q0 (a, .inl (cy 1, 264, .inl (mT mWords 132)))) H → va_D A (ws.set q0 (a, .inl (cy 1, 264, .inl (mT mWords 132)))) → va_S A H0 H locs → W p l e R s m args below meth c H locs cells slots Q (F0 m 800 ls (.ref a :: rest))) : ∀ (H : Heap) (locs : List Loc), va_P D nCl (ws.set q0 (a, .inl (cy 1, 264, .inl (mT mWords 66)))) H → va_D A (ws.set q0 (a, .inl (cy 1, 264, .inl (mT mWords 66)))) → va_S A H0 H locs → W p l e R s m args below meth c H locs cells slots Q (F0 m 400 ls (.ref a :: rest)) := by
  intro H locs hP hD hS
  refine lv_dup hx hb dX12_init_400 rfl ?_
  refine lv_bipush (v := 66) hx hb dX12_init_401 (by decide) ?_
  refine lv_bipush (v := 105) hx hb dX12_init_403 (by decide) ?_
  refine nb_it hx hb hK q0 1 hl hP hD hS rfl (by decide) (nb_in (by decide)) rfl dX12_init_405 (fun H locs hP hD hS => ?_)
  refine lv_dup hx hb dX12_init_406 rfl ?_
  refine lv_bipush (v := 67) hx hb dX12_init_407 (by decide) ?_
  refine lv_bipush (v := 110) hx hb dX12_init_409 (by decide) ?_
  refine nb_it hx hb hK q0 1 hl hP hD hS rfl (by decide) (nb_in (by decide)) rfl dX12_init_411 (fun H locs hP hD hS => ?_)
  refine lv_dup hx hb dX12_init_412 rfl ?_
  refine lv_bipush (v := 68) hx hb dX12_init_413 (by decide) ?_
  refine lv_bipush (v := 32) hx hb dX12_init_415 (by decide) ?_
  refine nb_it hx hb hK q0 1 hl hP hD hS rfl (by decide) (nb_in (by decide)) rfl dX12_init_417 (fun H locs hP hD hS => ?_)
  refine lv_dup hx hb dX12_init_418 rfl ?_
  refine lv_bipush (v := 69) hx hb dX12_init_419 (by decide) ?_
  refine lv_bipush (v := 115) hx hb dX12_init_421 (by decide) ?_
  refine nb_it hx hb hK q0 1 hl hP hD hS rfl (by decide) (nb_in (by decide)) rfl dX12_init_423 (fun H locs hP hD hS => ?_)
  refine lv_dup hx hb dX12_init_424 rfl ?_
  refine lv_bipush (v := 70) hx hb dX12_init_425 (by decide) ?_
  refine lv_bipush (v := 117) hx hb dX12_init_427 (by decide) ?_
  refine nb_it hx hb hK q0 1 hl hP hD hS rfl (by decide) (nb_in (by decide)) rfl dX12_init_429 (fun H locs hP hD hS => ?_)
  refine lv_dup hx hb dX12_init_430 rfl ?_
  refine lv_bipush (v := 71) hx hb dX12_init_431 (by decide) ?_
  refine lv_bipush (v := 98) hx hb dX12_init_433 (by decide) ?_
  refine nb_it hx hb hK q0 1 hl hP hD hS rfl (by decide) (nb_in (by decide)) rfl dX12_init_435 (fun H locs hP hD hS => ?_)
  refine lv_dup hx hb dX12_init_436 rfl ?_
  refine lv_bipush (v := 72) hx hb dX12_init_437 (by decide) ?_
  refine lv_bipush (v := 115) hx hb dX12_init_439 (by decide) ?_
  refine nb_it hx hb hK q0 1 hl hP hD hS rfl (by decide) (nb_in (by decide)) rfl dX12_init_441 (fun H locs hP hD hS => ?_)
  refine lv_dup hx hb dX12_init_442 rfl ?_
  refine lv_bipush (v := 73) hx hb dX12_init_443 (by decide) ?_
  refine lv_bipush (v := 101) hx hb dX12_init_445 (by decide) ?_
  refine nb_it hx hb hK q0 1 hl hP hD hS rfl (by decide) (nb_in (by decide)) rfl dX12_init_447 (fun H locs hP hD hS => ?_)
  refine lv_dup hx hb dX12_init_448 rfl ?_
  refine lv_bipush (v := 74) hx hb dX12_init_449 (by decide) ?_
  refine lv_bipush (v := 116) hx hb dX12_init_451 (by decide) ?_
  refine nb_it hx hb hK q0 1 hl hP hD hS rfl (by decide) (nb_in (by decide)) rfl dX12_init_453 (fun H locs hP hD hS => ?_)
  refine lv_dup hx hb dX12_init_454 rfl ?_
  refine lv_bipush (v := 75) hx hb dX12_init_455 (by decide) ?_
  refine lv_bipush (v := 32) hx hb dX12_init_457 (by decide) ?_
  refine nb_it hx hb hK q0 1 hl hP hD hS rfl (by decide) (nb_in (by decide)) rfl dX12_init_459 (fun H locs hP hD hS => ?_)
  refine lv_dup hx hb dX12_init_460 rfl ?_
  refine lv_bipush (v := 76) hx hb dX12_init_461 (by decide) ?_
  refine lv_bipush (v := 113) hx hb dX12_init_463 (by decide) ?_
  refine nb_it hx hb hK q0 1 hl hP hD hS rfl (by decide) (nb_in (by decide)) rfl dX12_init_465 (fun H locs hP hD hS => ?_)
  refine lv_dup hx hb dX12_init_466 rfl ?_
  refine lv_bipush (v := 77) hx hb dX12_init_467 (by decide) ?_
  refine lv_bipush (v := 117) hx hb dX12_init_469 (by decide) ?_
  refine nb_it hx hb hK q0 1 hl hP hD hS rfl (by decide) (nb_in (by decide)) rfl dX12_init_471 (fun H locs hP hD hS => ?_)
  refine lv_dup hx hb dX12_init_472 rfl ?_
  refine lv_bipush (v := 78) hx hb dX12_init_473 (by decide) ?_
  refine lv_bipush (v := 105) hx hb dX12_init_475 (by decide) ?_
  refine nb_it hx hb hK q0 1 hl hP hD hS rfl (by decide) (nb_in (by decide)) rfl dX12_init_477 (fun H locs hP hD hS => ?_)
  refine lv_dup hx hb dX12_init_478 rfl ?_
  refine lv_bipush (v := 79) hx hb dX12_init_479 (by decide) ?_
  refine lv_bipush (v := 116) hx hb dX12_init_481 (by decide) ?_
  refine nb_it hx hb hK q0 1 hl hP hD hS rfl (by decide) (nb_in (by decide)) rfl dX12_init_483 (fun H locs hP hD hS => ?_)
  refine lv_dup hx hb dX12_init_484 rfl ?_
  refine lv_bipush (v := 80) hx hb dX12_init_485 (by decide) ?_
  refine lv_bipush (v := 32) hx hb dX12_init_487 (by decide) ?_
  refine nb_it hx hb hK q0 1 hl hP hD hS rfl (by decide) (nb_in (by decide)) rfl dX12_init_489 (fun H locs hP hD hS => ?_)
  refine lv_dup hx hb dX12_init_490 rfl ?_
  refine lv_bipush (v := 81) hx hb dX12_init_491 (by decide) ?_
  refine lv_bipush (v := 99) hx hb dX12_init_493 (by decide) ?_
  refine nb_it hx hb hK q0 1 hl hP hD hS rfl (by decide) (nb_in (by decide)) rfl dX12_init_495 (fun H locs hP hD hS => ?_)
  refine lv_dup hx hb dX12_init_496 rfl ?_
  refine lv_bipush (v := 82) hx hb dX12_init_497 (by decide) ?_
  refine lv_bipush (v := 111) hx hb dX12_init_499 (by decide) ?_
  refine nb_it hx hb hK q0 1 hl hP hD hS rfl (by decide) (nb_in (by decide)) rfl dX12_init_501 (fun H locs hP hD hS => ?_)
  refine lv_dup hx hb dX12_init_502 rfl ?_
  refine lv_bipush (v := 83) hx hb dX12_init_503 (by decide) ?_
  refine lv_bipush (v := 110) hx hb dX12_init_505 (by decide) ?_
  refine nb_it hx hb hK q0 1 hl hP hD hS rfl (by decide) (nb_in (by decide)) rfl dX12_init_507 (fun H locs hP hD hS => ?_)
  refine lv_dup hx hb dX12_init_508 rfl ?_
  refine lv_bipush (v := 84) hx hb dX12_init_509 (by decide) ?_
  refine lv_bipush (v := 116) hx hb dX12_init_511 (by decide) ?_
  refine nb_it hx hb hK q0 1 hl hP hD hS rfl (by decide) (nb_in (by decide)) rfl dX12_init_513 (fun H locs hP hD hS => ?_)
  refine lv_dup hx hb dX12_init_514 rfl ?_
  refine lv_bipush (v := 85) hx hb dX12_init_515 (by decide) ?_
  refine lv_bipush (v := 105) hx hb dX12_init_517 (by decide) ?_
  refine nb_it hx hb hK q0 1 hl hP hD hS rfl (by decide) (nb_in (by decide)) rfl dX12_init_519 (fun H locs hP hD hS => ?_)
  refine lv_dup hx hb dX12_init_520 rfl ?_
  refine lv_bipush (v := 86) hx hb dX12_init_521 (by decide) ?_
  refine lv_bipush (v := 110) hx hb dX12_init_523 (by decide) ?_
  refine nb_it hx hb hK q0 1 hl hP hD hS rfl (by decide) (nb_in (by decide)) rfl dX12_init_525 (fun H locs hP hD hS => ?_)
  refine lv_dup hx hb dX12_init_526 rfl ?_
  refine lv_bipush (v := 87) hx hb dX12_init_527 (by decide) ?_
  refine lv_bipush (v := 117) hx hb dX12_init_529 (by decide) ?_
  refine nb_it hx hb hK q0 1 hl hP hD hS rfl (by decide) (nb_in (by decide)) rfl dX12_init_531 (fun H locs hP hD hS => ?_)
  refine lv_dup hx hb dX12_init_532 rfl ?_
  refine lv_bipush (v := 88) hx hb dX12_init_533 (by decide) ?_
  refine lv_bipush (v := 101) hx hb dX12_init_535 (by decide) ?_
  refine nb_it hx hb hK q0 1 hl hP hD hS rfl (by decide) (nb_in (by decide)) rfl dX12_init_537 (fun H locs hP hD hS => ?_)
  refine lv_dup hx hb dX12_init_538 rfl ?_
  refine lv_bipush (v := 89) hx hb dX12_init_539 (by decide) ?_
  refine lv_bipush (v := 32) hx hb dX12_init_541 (by decide) ?_
  refine nb_it hx hb hK q0 1 hl hP hD hS rfl (by decide) (nb_in (by decide)) rfl dX12_init_543 (fun H locs hP hD hS => ?_)
  refine lv_dup hx hb dX12_init_544 rfl ?_
  refine lv_bipush (v := 90) hx hb dX12_init_545 (by decide) ?_
  refine lv_bipush (v := 114) hx hb dX12_init_547 (by decide) ?_
  refine nb_it hx hb hK q0 1 hl hP hD hS rfl (by decide) (nb_in (by decide)) rfl dX12_init_549 (fun H locs hP hD hS => ?_)
  refine lv_dup hx hb dX12_init_550 rfl ?_
  refine lv_bipush (v := 91) hx hb dX12_init_551 (by decide) ?_
  refine lv_bipush (v := 101) hx hb dX12_init_553 (by decide) ?_
  refine nb_it hx hb hK q0 1 hl hP hD hS rfl (by decide) (nb_in (by decide)) rfl dX12_init_555 (fun H locs hP hD hS => ?_)
  refine lv_dup hx hb dX12_init_556 rfl ?_
  refine lv_bipush (v := 92) hx hb dX12_init_557 (by decide) ?_
  refine lv_bipush (v := 116) hx hb dX12_init_559 (by decide) ?_
  refine nb_it hx hb hK q0 1 hl hP hD hS rfl (by decide) (nb_in (by decide)) rfl dX12_init_561 (fun H locs hP hD hS => ?_)
  refine lv_dup hx hb dX12_init_562 rfl ?_
  refine lv_bipush (v := 93) hx hb dX12_init_563 (by decide) ?_
  refine lv_bipush (v := 117) hx hb dX12_init_565 (by decide) ?_
  refine nb_it hx hb hK q0 1 hl hP hD hS rfl (by decide) (nb_in (by decide)) rfl dX12_init_567 (fun H locs hP hD hS => ?_)
  refine lv_dup hx hb dX12_init_568 rfl ?_
  refine lv_bipush (v := 94) hx hb dX12_init_569 (by decide) ?_
  refine lv_bipush (v := 114) hx hb dX12_init_571 (by decide) ?_
  refine nb_it hx hb hK q0 1 hl hP hD hS rfl (by decide) (nb_in (by decide)) rfl dX12_init_573 (fun H locs hP hD hS => ?_)
  refine lv_dup hx hb dX12_init_574 rfl ?_
  refine lv_bipush (v := 95) hx hb dX12_init_575 (by decide) ?_
  refine lv_bipush (v := 110) hx hb dX12_init_577 (by decide) ?_
  refine nb_it hx hb hK q0 1 hl hP hD hS rfl (by decide) (nb_in (by decide)) rfl dX12_init_579 (fun H locs hP hD hS => ?_)
  refine lv_dup hx hb dX12_init_580 rfl ?_
  refine lv_bipush (v := 96) hx hb dX12_init_581 (by decide) ?_
  refine lv_bipush (v := 32) hx hb dX12_init_583 (by decide) ?_
  refine nb_it hx hb hK q0 1 hl hP hD hS rfl (by decide) (nb_in (by decide)) rfl dX12_init_585 (fun H locs hP hD hS => ?_)
  refine lv_dup hx hb dX12_init_586 rfl ?_
  refine lv_bipush (v := 97) hx hb dX12_init_587 (by decide) ?_
  refine lv_bipush (v := 112) hx hb dX12_init_589 (by decide) ?_
  refine nb_it hx hb hK q0 1 hl hP hD hS rfl (by decide) (nb_in (by decide)) rfl dX12_init_591 (fun H locs hP hD hS => ?_)
  refine lv_dup hx hb dX12_init_592 rfl ?_
  refine lv_bipush (v := 98) hx hb dX12_init_593 (by decide) ?_
  refine lv_bipush (v := 114) hx hb dX12_init_595 (by decide) ?_
  refine nb_it hx hb hK q0 1 hl hP hD hS rfl (by decide) (nb_in (by decide)) rfl dX12_init_597 (fun H locs hP hD hS => ?_)
  refine lv_dup hx hb dX12_init_598 rfl ?_
  refine lv_bipush (v := 99) hx hb dX12_init_599 (by decide) ?_
  refine lv_bipush (v := 105) hx hb dX12_init_601 (by decide) ?_
  refine nb_it hx hb hK q0 1 hl hP hD hS rfl (by decide) (nb_in (by decide)) rfl dX12_init_603 (fun H locs hP hD hS => ?_)
  refine lv_dup hx hb dX12_init_604 rfl ?_
  refine lv_bipush (v := 100) hx hb dX12_init_605 (by decide) ?_
  refine lv_bipush (v := 110) hx hb dX12_init_607 (by decide) ?_
  refine nb_it hx hb hK q0 1 hl hP hD hS rfl (by decide) (nb_in (by decide)) rfl dX12_init_609 (fun H locs hP hD hS => ?_)
  refine lv_dup hx hb dX12_init_610 rfl ?_
  refine lv_bipush (v := 101) hx hb dX12_init_611 (by decide) ?_
  refine lv_bipush (v := 116) hx hb dX12_init_613 (by decide) ?_
  refine nb_it hx hb hK q0 1 hl hP hD hS rfl (by decide) (nb_in (by decide)) rfl dX12_init_615 (fun H locs hP hD hS => ?_)
  refine lv_dup hx hb dX12_init_616 rfl ?_
  refine lv_bipush (v := 102) hx hb dX12_init_617 (by decide) ?_
  refine lv_bipush (v := 32) hx hb dX12_init_619 (by decide) ?_
  refine nb_it hx hb hK q0 1 hl hP hD hS rfl (by decide) (nb_in (by decide)) rfl dX12_init_621 (fun H locs hP hD hS => ?_)
  refine lv_dup hx hb dX12_init_622 rfl ?_
  refine lv_bipush (v := 103) hx hb dX12_init_623 (by decide) ?_
  refine lv_bipush (v := 97) hx hb dX12_init_625 (by decide) ?_
  refine nb_it hx hb hK q0 1 hl hP hD hS rfl (by decide) (nb_in (by decide)) rfl dX12_init_627 (fun H locs hP hD hS => ?_)
  refine lv_dup hx hb dX12_init_628 rfl ?_
  refine lv_bipush (v := 104) hx hb dX12_init_629 (by decide) ?_
  refine lv_bipush (v := 115) hx hb dX12_init_631 (by decide) ?_
  refine nb_it hx hb hK q0 1 hl hP hD hS rfl (by decide) (nb_in (by decide)) rfl dX12_init_633 (fun H locs hP hD hS => ?_)
  refine lv_dup hx hb dX12_init_634 rfl ?_
  refine lv_bipush (v := 105) hx hb dX12_init_635 (by decide) ?_
  refine lv_bipush (v := 115) hx hb dX12_init_637 (by decide) ?_
  refine nb_it hx hb hK q0 1 hl hP hD hS rfl (by decide) (nb_in (by decide)) rfl dX12_init_639 (fun H locs hP hD hS => ?_)
  refine lv_dup hx hb dX12_init_640 rfl ?_
  refine lv_bipush (v := 106) hx hb dX12_init_641 (by decide) ?_
  refine lv_bipush (v := 101) hx hb dX12_init_643 (by decide) ?_
  refine nb_it hx hb hK q0 1 hl hP hD hS rfl (by decide) (nb_in (by decide)) rfl dX12_init_645 (fun H locs hP hD hS => ?_)
  refine lv_dup hx hb dX12_init_646 rfl ?_
  refine lv_bipush (v := 107) hx hb dX12_init_647 (by decide) ?_
  refine lv_bipush (v := 114) hx hb dX12_init_649 (by decide) ?_
  refine nb_it hx hb hK q0 1 hl hP hD hS rfl (by decide) (nb_in (by decide)) rfl dX12_init_651 (fun H locs hP hD hS => ?_)
  refine lv_dup hx hb dX12_init_652 rfl ?_
  refine lv_bipush (v := 108) hx hb dX12_init_653 (by decide) ?_
  refine lv_bipush (v := 116) hx hb dX12_init_655 (by decide) ?_
  refine nb_it hx hb hK q0 1 hl hP hD hS rfl (by decide) (nb_in (by decide)) rfl dX12_init_657 (fun H locs hP hD hS => ?_)
  refine lv_dup hx hb dX12_init_658 rfl ?_
  refine lv_bipush (v := 109) hx hb dX12_init_659 (by decide) ?_
  refine lv_bipush (v := 32) hx hb dX12_init_661 (by decide) ?_
  refine nb_it hx hb hK q0 1 hl hP hD hS rfl (by decide) (nb_in (by decide)) rfl dX12_init_663 (fun H locs hP hD hS => ?_)
  refine lv_dup hx hb dX12_init_664 rfl ?_
  refine lv_bipush (v := 110) hx hb dX12_init_665 (by decide) ?_
  refine lv_bipush (v := 115) hx hb dX12_init_667 (by decide) ?_
  refine nb_it hx hb hK q0 1 hl hP hD hS rfl (by decide) (nb_in (by decide)) rfl dX12_init_669 (fun H locs hP hD hS => ?_)
  refine lv_dup hx hb dX12_init_670 rfl ?_
  refine lv_bipush (v := 111) hx hb dX12_init_671 (by decide) ?_
  refine lv_bipush (v := 116) hx hb dX12_init_673 (by decide) ?_
  refine nb_it hx hb hK q0 1 hl hP hD hS rfl (by decide) (nb_in (by decide)) rfl dX12_init_675 (fun H locs hP hD hS => ?_)
  refine lv_dup hx hb dX12_init_676 rfl ?_
  refine lv_bipush (v := 112) hx hb dX12_init_677 (by decide) ?_
  refine lv_bipush (v := 111) hx hb dX12_init_679 (by decide) ?_
  refine nb_it hx hb hK q0 1 hl hP hD hS rfl (by decide) (nb_in (by decide)) rfl dX12_init_681 (fun H locs hP hD hS => ?_)
  refine lv_dup hx hb dX12_init_682 rfl ?_
  refine lv_bipush (v := 113) hx hb dX12_init_683 (by decide) ?_
  refine lv_bipush (v := 112) hx hb dX12_init_685 (by decide) ?_
  refine nb_it hx hb hK q0 1 hl hP hD hS rfl (by decide) (nb_in (by decide)) rfl dX12_init_687 (fun H locs hP hD hS => ?_)
  refine lv_dup hx hb dX12_init_688 rfl ?_
  refine lv_bipush (v := 114) hx hb dX12_init_689 (by decide) ?_
  refine lv_bipush (v := 32) hx hb dX12_init_691 (by decide) ?_
  refine nb_it hx hb hK q0 1 hl hP hD hS rfl (by decide) (nb_in (by decide)) rfl dX12_init_693 (fun H locs hP hD hS => ?_)
  refine lv_dup hx hb dX12_init_694 rfl ?_
  refine lv_bipush (v := 115) hx hb dX12_init_695 (by decide) ?_
  refine lv_bipush (v := 115) hx hb dX12_init_697 (by decide) ?_
  refine nb_it hx hb hK q0 1 hl hP hD hS rfl (by decide) (nb_in (by decide)) rfl dX12_init_699 (fun H locs hP hD hS => ?_)
  refine lv_dup hx hb dX12_init_700 rfl ?_
  refine lv_bipush (v := 116) hx hb dX12_init_701 (by decide) ?_
  refine lv_bipush (v := 117) hx hb dX12_init_703 (by decide) ?_
  refine nb_it hx hb hK q0 1 hl hP hD hS rfl (by decide) (nb_in (by decide)) rfl dX12_init_705 (fun H locs hP hD hS => ?_)
  refine lv_dup hx hb dX12_init_706 rfl ?_
  refine lv_bipush (v := 117) hx hb dX12_init_707 (by decide) ?_
  refine lv_bipush (v := 99) hx hb dX12_init_709 (by decide) ?_
  refine nb_it hx hb hK q0 1 hl hP hD hS rfl (by decide) (nb_in (by decide)) rfl dX12_init_711 (fun H locs hP hD hS => ?_)
  refine lv_dup hx hb dX12_init_712 rfl ?_
  refine lv_bipush (v := 118) hx hb dX12_init_713 (by decide) ?_
  refine lv_bipush (v := 99) hx hb dX12_init_715 (by decide) ?_
  refine nb_it hx hb hK q0 1 hl hP hD hS rfl (by decide) (nb_in (by decide)) rfl dX12_init_717 (fun H locs hP hD hS => ?_)
  refine lv_dup hx hb dX12_init_718 rfl ?_
  refine lv_bipush (v := 119) hx hb dX12_init_719 (by decide) ?_
  refine lv_bipush (v := 101) hx hb dX12_init_721 (by decide) ?_
  refine nb_it hx hb hK q0 1 hl hP hD hS rfl (by decide) (nb_in (by decide)) rfl dX12_init_723 (fun H locs hP hD hS => ?_)
  refine lv_dup hx hb dX12_init_724 rfl ?_
  refine lv_bipush (v := 120) hx hb dX12_init_725 (by decide) ?_
  refine lv_bipush (v := 101) hx hb dX12_init_727 (by decide) ?_
  refine nb_it hx hb hK q0 1 hl hP hD hS rfl (by decide) (nb_in (by decide)) rfl dX12_init_729 (fun H locs hP hD hS => ?_)
  refine lv_dup hx hb dX12_init_730 rfl ?_
  refine lv_bipush (v := 121) hx hb dX12_init_731 (by decide) ?_
  refine lv_bipush (v := 100) hx hb dX12_init_733 (by decide) ?_
  refine nb_it hx hb hK q0 1 hl hP hD hS rfl (by decide) (nb_in (by decide)) rfl dX12_init_735 (fun H locs hP hD hS => ?_)
  refine lv_dup hx hb dX12_init_736 rfl ?_
  refine lv_bipush (v := 122) hx hb dX12_init_737 (by decide) ?_
  refine lv_bipush (v := 32) hx hb dX12_init_739 (by decide) ?_
  refine nb_it hx hb hK q0 1 hl hP hD hS rfl (by decide) (nb_in (by decide)) rfl dX12_init_741 (fun H locs hP hD hS => ?_)
  refine lv_dup hx hb dX12_init_742 rfl ?_
  refine lv_bipush (v := 123) hx hb dX12_init_743 (by decide) ?_
  refine lv_bipush (v := 102) hx hb dX12_init_745 (by decide) ?_
  refine nb_it hx hb hK q0 1 hl hP hD hS rfl (by decide) (nb_in (by decide)) rfl dX12_init_747 (fun H locs hP hD hS => ?_)
  refine lv_dup hx hb dX12_init_748 rfl ?_
  refine lv_bipush (v := 124) hx hb dX12_init_749 (by decide) ?_
  refine lv_bipush (v := 97) hx hb dX12_init_751 (by decide) ?_
  refine nb_it hx hb hK q0 1 hl hP hD hS rfl (by decide) (nb_in (by decide)) rfl dX12_init_753 (fun H locs hP hD hS => ?_)
  refine lv_dup hx hb dX12_init_754 rfl ?_
  refine lv_bipush (v := 125) hx hb dX12_init_755 (by decide) ?_
  refine lv_bipush (v := 105) hx hb dX12_init_757 (by decide) ?_
  refine nb_it hx hb hK q0 1 hl hP hD hS rfl (by decide) (nb_in (by decide)) rfl dX12_init_759 (fun H locs hP hD hS => ?_)
  refine lv_dup hx hb dX12_init_760 rfl ?_
  refine lv_bipush (v := 126) hx hb dX12_init_761 (by decide) ?_
  refine lv_bipush (v := 108) hx hb dX12_init_763 (by decide) ?_
  refine nb_it hx hb hK q0 1 hl hP hD hS rfl (by decide) (nb_in (by decide)) rfl dX12_init_765 (fun H locs hP hD hS => ?_)
  refine lv_dup hx hb dX12_init_766 rfl ?_
  refine lv_bipush (v := 127) hx hb dX12_init_767 (by decide) ?_
  refine lv_bipush (v := 32) hx hb dX12_init_769 (by decide) ?_
  refine nb_it hx hb hK q0 1 hl hP hD hS rfl (by decide) (nb_in (by decide)) rfl dX12_init_771 (fun H locs hP hD hS => ?_)
  refine lv_dup hx hb dX12_init_772 rfl ?_
  refine lv_sipush (v := 128) hx hb dX12_init_773 (by decide) ?_
  refine lv_bipush (v := 102) hx hb dX12_init_776 (by decide) ?_
  refine nb_it hx hb hK q0 1 hl hP hD hS rfl (by decide) (nb_in (by decide)) rfl dX12_init_778 (fun H locs hP hD hS => ?_)
  refine lv_dup hx hb dX12_init_779 rfl ?_
  refine lv_sipush (v := 129) hx hb dX12_init_780 (by decide) ?_
  refine lv_bipush (v := 114) hx hb dX12_init_783 (by decide) ?_
  refine nb_it hx hb hK q0 1 hl hP hD hS rfl (by decide) (nb_in (by decide)) rfl dX12_init_785 (fun H locs hP hD hS => ?_)
  refine lv_dup hx hb dX12_init_786 rfl ?_
  refine lv_sipush (v := 130) hx hb dX12_init_787 (by decide) ?_
  refine lv_bipush (v := 111) hx hb dX12_init_790 (by decide) ?_
  refine nb_it hx hb hK q0 1 hl hP hD hS rfl (by decide) (nb_in (by decide)) rfl dX12_init_792 (fun H locs hP hD hS => ?_)
  refine lv_dup hx hb dX12_init_793 rfl ?_
  refine lv_sipush (v := 131) hx hb dX12_init_794 (by decide) ?_
  refine lv_bipush (v := 109) hx hb dX12_init_797 (by decide) ?_
  refine nb_it hx hb hK q0 1 hl hP hD hS rfl (by decide) (nb_in (by decide)) rfl dX12_init_799 (fun H locs hP hD hS => ?_)
  exact kk H locs hP hD hS
set_option maxHeartbeats 4000000 in
set_option maxRecDepth 20000 in
theorem t_mc_0_198 {p : Program} {l : Launch} {e : Env} {R : Room} {s : State} {m : MethodId} {args : Array Value} {below : List Frame} {meth : Method} {c : Code} {cells slots : Nat} {Q : State → Prop} {D : va_G} {cy : Nat → ClassId} {A : Nat → Prop} {a q0 : Nat} {ws : va_W} {H0 : Heap} {ls : Array Slot} {rest : List Value} (hx : p.tables.exec = Jvm.exec) (hb : c.code = cX12_init) (hK : va_K D nCl (nTy cy) s) (hl : q0 < ws.length) (kk : ∀ (H : Heap) (locs : List Loc), va_P D nCl (ws.set q0 (a, .inl (cy 1, 264, .inl (mT mWords 198)))) H → va_D A (ws.set q0 (a, .inl (cy 1, 264, .inl (mT mWords 198)))) → va_S A H0 H locs → W p l e R s m args below meth c H locs cells slots Q (F0 m 1262 ls (.ref a :: rest))) : ∀ (H : Heap) (locs : List Loc), va_P D nCl (ws.set q0 (a, .inl (cy 1, 264, .inl (mT mWords 132)))) H → va_D A (ws.set q0 (a, .inl (cy 1, 264, .inl (mT mWords 132)))) → va_S A H0 H locs → W p l e R s m args below meth c H locs cells slots Q (F0 m 800 ls (.ref a :: rest)) := by
  intro H locs hP hD hS
  refine lv_dup hx hb dX12_init_800 rfl ?_
  refine lv_sipush (v := 132) hx hb dX12_init_801 (by decide) ?_
  refine lv_bipush (v := 32) hx hb dX12_init_804 (by decide) ?_
  refine nb_it hx hb hK q0 1 hl hP hD hS rfl (by decide) (nb_in (by decide)) rfl dX12_init_806 (fun H locs hP hD hS => ?_)
  refine lv_dup hx hb dX12_init_807 rfl ?_
  refine lv_sipush (v := 133) hx hb dX12_init_808 (by decide) ?_
  refine lv_bipush (v := 102) hx hb dX12_init_811 (by decide) ?_
  refine nb_it hx hb hK q0 1 hl hP hD hS rfl (by decide) (nb_in (by decide)) rfl dX12_init_813 (fun H locs hP hD hS => ?_)
  refine lv_dup hx hb dX12_init_814 rfl ?_
  refine lv_sipush (v := 134) hx hb dX12_init_815 (by decide) ?_
  refine lv_bipush (v := 114) hx hb dX12_init_818 (by decide) ?_
  refine nb_it hx hb hK q0 1 hl hP hD hS rfl (by decide) (nb_in (by decide)) rfl dX12_init_820 (fun H locs hP hD hS => ?_)
  refine lv_dup hx hb dX12_init_821 rfl ?_
  refine lv_sipush (v := 135) hx hb dX12_init_822 (by decide) ?_
  refine lv_bipush (v := 111) hx hb dX12_init_825 (by decide) ?_
  refine nb_it hx hb hK q0 1 hl hP hD hS rfl (by decide) (nb_in (by decide)) rfl dX12_init_827 (fun H locs hP hD hS => ?_)
  refine lv_dup hx hb dX12_init_828 rfl ?_
  refine lv_sipush (v := 136) hx hb dX12_init_829 (by decide) ?_
  refine lv_bipush (v := 109) hx hb dX12_init_832 (by decide) ?_
  refine nb_it hx hb hK q0 1 hl hP hD hS rfl (by decide) (nb_in (by decide)) rfl dX12_init_834 (fun H locs hP hD hS => ?_)
  refine lv_dup hx hb dX12_init_835 rfl ?_
  refine lv_sipush (v := 137) hx hb dX12_init_836 (by decide) ?_
  refine lv_bipush (v := 98) hx hb dX12_init_839 (by decide) ?_
  refine nb_it hx hb hK q0 1 hl hP hD hS rfl (by decide) (nb_in (by decide)) rfl dX12_init_841 (fun H locs hP hD hS => ?_)
  refine lv_dup hx hb dX12_init_842 rfl ?_
  refine lv_sipush (v := 138) hx hb dX12_init_843 (by decide) ?_
  refine lv_bipush (v := 32) hx hb dX12_init_846 (by decide) ?_
  refine nb_it hx hb hK q0 1 hl hP hD hS rfl (by decide) (nb_in (by decide)) rfl dX12_init_848 (fun H locs hP hD hS => ?_)
  refine lv_dup hx hb dX12_init_849 rfl ?_
  refine lv_sipush (v := 139) hx hb dX12_init_850 (by decide) ?_
  refine lv_bipush (v := 102) hx hb dX12_init_853 (by decide) ?_
  refine nb_it hx hb hK q0 1 hl hP hD hS rfl (by decide) (nb_in (by decide)) rfl dX12_init_855 (fun H locs hP hD hS => ?_)
  refine lv_dup hx hb dX12_init_856 rfl ?_
  refine lv_sipush (v := 140) hx hb dX12_init_857 (by decide) ?_
  refine lv_bipush (v := 114) hx hb dX12_init_860 (by decide) ?_
  refine nb_it hx hb hK q0 1 hl hP hD hS rfl (by decide) (nb_in (by decide)) rfl dX12_init_862 (fun H locs hP hD hS => ?_)
  refine lv_dup hx hb dX12_init_863 rfl ?_
  refine lv_sipush (v := 141) hx hb dX12_init_864 (by decide) ?_
  refine lv_bipush (v := 111) hx hb dX12_init_867 (by decide) ?_
  refine nb_it hx hb hK q0 1 hl hP hD hS rfl (by decide) (nb_in (by decide)) rfl dX12_init_869 (fun H locs hP hD hS => ?_)
  refine lv_dup hx hb dX12_init_870 rfl ?_
  refine lv_sipush (v := 142) hx hb dX12_init_871 (by decide) ?_
  refine lv_bipush (v := 109) hx hb dX12_init_874 (by decide) ?_
  refine nb_it hx hb hK q0 1 hl hP hD hS rfl (by decide) (nb_in (by decide)) rfl dX12_init_876 (fun H locs hP hD hS => ?_)
  refine lv_dup hx hb dX12_init_877 rfl ?_
  refine lv_sipush (v := 143) hx hb dX12_init_878 (by decide) ?_
  refine lv_bipush (v := 101) hx hb dX12_init_881 (by decide) ?_
  refine nb_it hx hb hK q0 1 hl hP hD hS rfl (by decide) (nb_in (by decide)) rfl dX12_init_883 (fun H locs hP hD hS => ?_)
  refine lv_dup hx hb dX12_init_884 rfl ?_
  refine lv_sipush (v := 144) hx hb dX12_init_885 (by decide) ?_
  refine lv_bipush (v := 32) hx hb dX12_init_888 (by decide) ?_
  refine nb_it hx hb hK q0 1 hl hP hD hS rfl (by decide) (nb_in (by decide)) rfl dX12_init_890 (fun H locs hP hD hS => ?_)
  refine lv_dup hx hb dX12_init_891 rfl ?_
  refine lv_sipush (v := 145) hx hb dX12_init_892 (by decide) ?_
  refine lv_bipush (v := 111) hx hb dX12_init_895 (by decide) ?_
  refine nb_it hx hb hK q0 1 hl hP hD hS rfl (by decide) (nb_in (by decide)) rfl dX12_init_897 (fun H locs hP hD hS => ?_)
  refine lv_dup hx hb dX12_init_898 rfl ?_
  refine lv_sipush (v := 146) hx hb dX12_init_899 (by decide) ?_
  refine lv_bipush (v := 109) hx hb dX12_init_902 (by decide) ?_
  refine nb_it hx hb hK q0 1 hl hP hD hS rfl (by decide) (nb_in (by decide)) rfl dX12_init_904 (fun H locs hP hD hS => ?_)
  refine lv_dup hx hb dX12_init_905 rfl ?_
  refine lv_sipush (v := 147) hx hb dX12_init_906 (by decide) ?_
  refine lv_bipush (v := 32) hx hb dX12_init_909 (by decide) ?_
  refine nb_it hx hb hK q0 1 hl hP hD hS rfl (by decide) (nb_in (by decide)) rfl dX12_init_911 (fun H locs hP hD hS => ?_)
  refine lv_dup hx hb dX12_init_912 rfl ?_
  refine lv_sipush (v := 148) hx hb dX12_init_913 (by decide) ?_
  refine lv_bipush (v := 116) hx hb dX12_init_916 (by decide) ?_
  refine nb_it hx hb hK q0 1 hl hP hD hS rfl (by decide) (nb_in (by decide)) rfl dX12_init_918 (fun H locs hP hD hS => ?_)
  refine lv_dup hx hb dX12_init_919 rfl ?_
  refine lv_sipush (v := 149) hx hb dX12_init_920 (by decide) ?_
  refine lv_bipush (v := 114) hx hb dX12_init_923 (by decide) ?_
  refine nb_it hx hb hK q0 1 hl hP hD hS rfl (by decide) (nb_in (by decide)) rfl dX12_init_925 (fun H locs hP hD hS => ?_)
  refine lv_dup hx hb dX12_init_926 rfl ?_
  refine lv_sipush (v := 150) hx hb dX12_init_927 (by decide) ?_
  refine lv_bipush (v := 117) hx hb dX12_init_930 (by decide) ?_
  refine nb_it hx hb hK q0 1 hl hP hD hS rfl (by decide) (nb_in (by decide)) rfl dX12_init_932 (fun H locs hP hD hS => ?_)
  refine lv_dup hx hb dX12_init_933 rfl ?_
  refine lv_sipush (v := 151) hx hb dX12_init_934 (by decide) ?_
  refine lv_bipush (v := 101) hx hb dX12_init_937 (by decide) ?_
  refine nb_it hx hb hK q0 1 hl hP hD hS rfl (by decide) (nb_in (by decide)) rfl dX12_init_939 (fun H locs hP hD hS => ?_)
  refine lv_dup hx hb dX12_init_940 rfl ?_
  refine lv_sipush (v := 152) hx hb dX12_init_941 (by decide) ?_
  refine lv_bipush (v := 32) hx hb dX12_init_944 (by decide) ?_
  refine nb_it hx hb hK q0 1 hl hP hD hS rfl (by decide) (nb_in (by decide)) rfl dX12_init_946 (fun H locs hP hD hS => ?_)
  refine lv_dup hx hb dX12_init_947 rfl ?_
  refine lv_sipush (v := 153) hx hb dX12_init_948 (by decide) ?_
  refine lv_bipush (v := 102) hx hb dX12_init_951 (by decide) ?_
  refine nb_it hx hb hK q0 1 hl hP hD hS rfl (by decide) (nb_in (by decide)) rfl dX12_init_953 (fun H locs hP hD hS => ?_)
  refine lv_dup hx hb dX12_init_954 rfl ?_
  refine lv_sipush (v := 154) hx hb dX12_init_955 (by decide) ?_
  refine lv_bipush (v := 97) hx hb dX12_init_958 (by decide) ?_
  refine nb_it hx hb hK q0 1 hl hP hD hS rfl (by decide) (nb_in (by decide)) rfl dX12_init_960 (fun H locs hP hD hS => ?_)
  refine lv_dup hx hb dX12_init_961 rfl ?_
  refine lv_sipush (v := 155) hx hb dX12_init_962 (by decide) ?_
  refine lv_bipush (v := 108) hx hb dX12_init_965 (by decide) ?_
  refine nb_it hx hb hK q0 1 hl hP hD hS rfl (by decide) (nb_in (by decide)) rfl dX12_init_967 (fun H locs hP hD hS => ?_)
  refine lv_dup hx hb dX12_init_968 rfl ?_
  refine lv_sipush (v := 156) hx hb dX12_init_969 (by decide) ?_
  refine lv_bipush (v := 115) hx hb dX12_init_972 (by decide) ?_
  refine nb_it hx hb hK q0 1 hl hP hD hS rfl (by decide) (nb_in (by decide)) rfl dX12_init_974 (fun H locs hP hD hS => ?_)
  refine lv_dup hx hb dX12_init_975 rfl ?_
  refine lv_sipush (v := 157) hx hb dX12_init_976 (by decide) ?_
  refine lv_bipush (v := 101) hx hb dX12_init_979 (by decide) ?_
  refine nb_it hx hb hK q0 1 hl hP hD hS rfl (by decide) (nb_in (by decide)) rfl dX12_init_981 (fun H locs hP hD hS => ?_)
  refine lv_dup hx hb dX12_init_982 rfl ?_
  refine lv_sipush (v := 158) hx hb dX12_init_983 (by decide) ?_
  refine lv_bipush (v := 32) hx hb dX12_init_986 (by decide) ?_
  refine nb_it hx hb hK q0 1 hl hP hD hS rfl (by decide) (nb_in (by decide)) rfl dX12_init_988 (fun H locs hP hD hS => ?_)
  refine lv_dup hx hb dX12_init_989 rfl ?_
  refine lv_sipush (v := 159) hx hb dX12_init_990 (by decide) ?_
  refine lv_bipush (v := 111) hx hb dX12_init_993 (by decide) ?_
  refine nb_it hx hb hK q0 1 hl hP hD hS rfl (by decide) (nb_in (by decide)) rfl dX12_init_995 (fun H locs hP hD hS => ?_)
  refine lv_dup hx hb dX12_init_996 rfl ?_
  refine lv_sipush (v := 160) hx hb dX12_init_997 (by decide) ?_
  refine lv_bipush (v := 107) hx hb dX12_init_1000 (by decide) ?_
  refine nb_it hx hb hK q0 1 hl hP hD hS rfl (by decide) (nb_in (by decide)) rfl dX12_init_1002 (fun H locs hP hD hS => ?_)
  refine lv_dup hx hb dX12_init_1003 rfl ?_
  refine lv_sipush (v := 161) hx hb dX12_init_1004 (by decide) ?_
  refine lv_bipush (v := 32) hx hb dX12_init_1007 (by decide) ?_
  refine nb_it hx hb hK q0 1 hl hP hD hS rfl (by decide) (nb_in (by decide)) rfl dX12_init_1009 (fun H locs hP hD hS => ?_)
  refine lv_dup hx hb dX12_init_1010 rfl ?_
  refine lv_sipush (v := 162) hx hb dX12_init_1011 (by decide) ?_
  refine lv_bipush (v := 97) hx hb dX12_init_1014 (by decide) ?_
  refine nb_it hx hb hK q0 1 hl hP hD hS rfl (by decide) (nb_in (by decide)) rfl dX12_init_1016 (fun H locs hP hD hS => ?_)
  refine lv_dup hx hb dX12_init_1017 rfl ?_
  refine lv_sipush (v := 163) hx hb dX12_init_1018 (by decide) ?_
  refine lv_bipush (v := 110) hx hb dX12_init_1021 (by decide) ?_
  refine nb_it hx hb hK q0 1 hl hP hD hS rfl (by decide) (nb_in (by decide)) rfl dX12_init_1023 (fun H locs hP hD hS => ?_)
  refine lv_dup hx hb dX12_init_1024 rfl ?_
  refine lv_sipush (v := 164) hx hb dX12_init_1025 (by decide) ?_
  refine lv_bipush (v := 100) hx hb dX12_init_1028 (by decide) ?_
  refine nb_it hx hb hK q0 1 hl hP hD hS rfl (by decide) (nb_in (by decide)) rfl dX12_init_1030 (fun H locs hP hD hS => ?_)
  refine lv_dup hx hb dX12_init_1031 rfl ?_
  refine lv_sipush (v := 165) hx hb dX12_init_1032 (by decide) ?_
  refine lv_bipush (v := 32) hx hb dX12_init_1035 (by decide) ?_
  refine nb_it hx hb hK q0 1 hl hP hD hS rfl (by decide) (nb_in (by decide)) rfl dX12_init_1037 (fun H locs hP hD hS => ?_)
  refine lv_dup hx hb dX12_init_1038 rfl ?_
  refine lv_sipush (v := 166) hx hb dX12_init_1039 (by decide) ?_
  refine lv_bipush (v := 111) hx hb dX12_init_1042 (by decide) ?_
  refine nb_it hx hb hK q0 1 hl hP hD hS rfl (by decide) (nb_in (by decide)) rfl dX12_init_1044 (fun H locs hP hD hS => ?_)
  refine lv_dup hx hb dX12_init_1045 rfl ?_
  refine lv_sipush (v := 167) hx hb dX12_init_1046 (by decide) ?_
  refine lv_bipush (v := 114) hx hb dX12_init_1049 (by decide) ?_
  refine nb_it hx hb hK q0 1 hl hP hD hS rfl (by decide) (nb_in (by decide)) rfl dX12_init_1051 (fun H locs hP hD hS => ?_)
  refine lv_dup hx hb dX12_init_1052 rfl ?_
  refine lv_sipush (v := 168) hx hb dX12_init_1053 (by decide) ?_
  refine lv_bipush (v := 32) hx hb dX12_init_1056 (by decide) ?_
  refine nb_it hx hb hK q0 1 hl hP hD hS rfl (by decide) (nb_in (by decide)) rfl dX12_init_1058 (fun H locs hP hD hS => ?_)
  refine lv_dup hx hb dX12_init_1059 rfl ?_
  refine lv_sipush (v := 169) hx hb dX12_init_1060 (by decide) ?_
  refine lv_bipush (v := 110) hx hb dX12_init_1063 (by decide) ?_
  refine nb_it hx hb hK q0 1 hl hP hD hS rfl (by decide) (nb_in (by decide)) rfl dX12_init_1065 (fun H locs hP hD hS => ?_)
  refine lv_dup hx hb dX12_init_1066 rfl ?_
  refine lv_sipush (v := 170) hx hb dX12_init_1067 (by decide) ?_
  refine lv_bipush (v := 111) hx hb dX12_init_1070 (by decide) ?_
  refine nb_it hx hb hK q0 1 hl hP hD hS rfl (by decide) (nb_in (by decide)) rfl dX12_init_1072 (fun H locs hP hD hS => ?_)
  refine lv_dup hx hb dX12_init_1073 rfl ?_
  refine lv_sipush (v := 171) hx hb dX12_init_1074 (by decide) ?_
  refine lv_bipush (v := 116) hx hb dX12_init_1077 (by decide) ?_
  refine nb_it hx hb hK q0 1 hl hP hD hS rfl (by decide) (nb_in (by decide)) rfl dX12_init_1079 (fun H locs hP hD hS => ?_)
  refine lv_dup hx hb dX12_init_1080 rfl ?_
  refine lv_sipush (v := 172) hx hb dX12_init_1081 (by decide) ?_
  refine lv_bipush (v := 32) hx hb dX12_init_1084 (by decide) ?_
  refine nb_it hx hb hK q0 1 hl hP hD hS rfl (by decide) (nb_in (by decide)) rfl dX12_init_1086 (fun H locs hP hD hS => ?_)
  refine lv_dup hx hb dX12_init_1087 rfl ?_
  refine lv_sipush (v := 173) hx hb dX12_init_1088 (by decide) ?_
  refine lv_bipush (v := 100) hx hb dX12_init_1091 (by decide) ?_
  refine nb_it hx hb hK q0 1 hl hP hD hS rfl (by decide) (nb_in (by decide)) rfl dX12_init_1093 (fun H locs hP hD hS => ?_)
  refine lv_dup hx hb dX12_init_1094 rfl ?_
  refine lv_sipush (v := 174) hx hb dX12_init_1095 (by decide) ?_
  refine lv_bipush (v := 105) hx hb dX12_init_1098 (by decide) ?_
  refine nb_it hx hb hK q0 1 hl hP hD hS rfl (by decide) (nb_in (by decide)) rfl dX12_init_1100 (fun H locs hP hD hS => ?_)
  refine lv_dup hx hb dX12_init_1101 rfl ?_
  refine lv_sipush (v := 175) hx hb dX12_init_1102 (by decide) ?_
  refine lv_bipush (v := 118) hx hb dX12_init_1105 (by decide) ?_
  refine nb_it hx hb hK q0 1 hl hP hD hS rfl (by decide) (nb_in (by decide)) rfl dX12_init_1107 (fun H locs hP hD hS => ?_)
  refine lv_dup hx hb dX12_init_1108 rfl ?_
  refine lv_sipush (v := 176) hx hb dX12_init_1109 (by decide) ?_
  refine lv_bipush (v := 32) hx hb dX12_init_1112 (by decide) ?_
  refine nb_it hx hb hK q0 1 hl hP hD hS rfl (by decide) (nb_in (by decide)) rfl dX12_init_1114 (fun H locs hP hD hS => ?_)
  refine lv_dup hx hb dX12_init_1115 rfl ?_
  refine lv_sipush (v := 177) hx hb dX12_init_1116 (by decide) ?_
  refine lv_bipush (v := 109) hx hb dX12_init_1119 (by decide) ?_
  refine nb_it hx hb hK q0 1 hl hP hD hS rfl (by decide) (nb_in (by decide)) rfl dX12_init_1121 (fun H locs hP hD hS => ?_)
  refine lv_dup hx hb dX12_init_1122 rfl ?_
  refine lv_sipush (v := 178) hx hb dX12_init_1123 (by decide) ?_
  refine lv_bipush (v := 111) hx hb dX12_init_1126 (by decide) ?_
  refine nb_it hx hb hK q0 1 hl hP hD hS rfl (by decide) (nb_in (by decide)) rfl dX12_init_1128 (fun H locs hP hD hS => ?_)
  refine lv_dup hx hb dX12_init_1129 rfl ?_
  refine lv_sipush (v := 179) hx hb dX12_init_1130 (by decide) ?_
  refine lv_bipush (v := 100) hx hb dX12_init_1133 (by decide) ?_
  refine nb_it hx hb hK q0 1 hl hP hD hS rfl (by decide) (nb_in (by decide)) rfl dX12_init_1135 (fun H locs hP hD hS => ?_)
  refine lv_dup hx hb dX12_init_1136 rfl ?_
  refine lv_sipush (v := 180) hx hb dX12_init_1137 (by decide) ?_
  refine lv_bipush (v := 32) hx hb dX12_init_1140 (by decide) ?_
  refine nb_it hx hb hK q0 1 hl hP hD hS rfl (by decide) (nb_in (by decide)) rfl dX12_init_1142 (fun H locs hP hD hS => ?_)
  refine lv_dup hx hb dX12_init_1143 rfl ?_
  refine lv_sipush (v := 181) hx hb dX12_init_1144 (by decide) ?_
  refine lv_bipush (v := 101) hx hb dX12_init_1147 (by decide) ?_
  refine nb_it hx hb hK q0 1 hl hP hD hS rfl (by decide) (nb_in (by decide)) rfl dX12_init_1149 (fun H locs hP hD hS => ?_)
  refine lv_dup hx hb dX12_init_1150 rfl ?_
  refine lv_sipush (v := 182) hx hb dX12_init_1151 (by decide) ?_
  refine lv_bipush (v := 120) hx hb dX12_init_1154 (by decide) ?_
  refine nb_it hx hb hK q0 1 hl hP hD hS rfl (by decide) (nb_in (by decide)) rfl dX12_init_1156 (fun H locs hP hD hS => ?_)
  refine lv_dup hx hb dX12_init_1157 rfl ?_
  refine lv_sipush (v := 183) hx hb dX12_init_1158 (by decide) ?_
  refine lv_bipush (v := 105) hx hb dX12_init_1161 (by decide) ?_
  refine nb_it hx hb hK q0 1 hl hP hD hS rfl (by decide) (nb_in (by decide)) rfl dX12_init_1163 (fun H locs hP hD hS => ?_)
  refine lv_dup hx hb dX12_init_1164 rfl ?_
  refine lv_sipush (v := 184) hx hb dX12_init_1165 (by decide) ?_
  refine lv_bipush (v := 115) hx hb dX12_init_1168 (by decide) ?_
  refine nb_it hx hb hK q0 1 hl hP hD hS rfl (by decide) (nb_in (by decide)) rfl dX12_init_1170 (fun H locs hP hD hS => ?_)
  refine lv_dup hx hb dX12_init_1171 rfl ?_
  refine lv_sipush (v := 185) hx hb dX12_init_1172 (by decide) ?_
  refine lv_bipush (v := 116) hx hb dX12_init_1175 (by decide) ?_
  refine nb_it hx hb hK q0 1 hl hP hD hS rfl (by decide) (nb_in (by decide)) rfl dX12_init_1177 (fun H locs hP hD hS => ?_)
  refine lv_dup hx hb dX12_init_1178 rfl ?_
  refine lv_sipush (v := 186) hx hb dX12_init_1179 (by decide) ?_
  refine lv_bipush (v := 115) hx hb dX12_init_1182 (by decide) ?_
  refine nb_it hx hb hK q0 1 hl hP hD hS rfl (by decide) (nb_in (by decide)) rfl dX12_init_1184 (fun H locs hP hD hS => ?_)
  refine lv_dup hx hb dX12_init_1185 rfl ?_
  refine lv_sipush (v := 187) hx hb dX12_init_1186 (by decide) ?_
  refine lv_bipush (v := 32) hx hb dX12_init_1189 (by decide) ?_
  refine nb_it hx hb hK q0 1 hl hP hD hS rfl (by decide) (nb_in (by decide)) rfl dX12_init_1191 (fun H locs hP hD hS => ?_)
  refine lv_dup hx hb dX12_init_1192 rfl ?_
  refine lv_sipush (v := 188) hx hb dX12_init_1193 (by decide) ?_
  refine lv_bipush (v := 102) hx hb dX12_init_1196 (by decide) ?_
  refine nb_it hx hb hK q0 1 hl hP hD hS rfl (by decide) (nb_in (by decide)) rfl dX12_init_1198 (fun H locs hP hD hS => ?_)
  refine lv_dup hx hb dX12_init_1199 rfl ?_
  refine lv_sipush (v := 189) hx hb dX12_init_1200 (by decide) ?_
  refine lv_bipush (v := 111) hx hb dX12_init_1203 (by decide) ?_
  refine nb_it hx hb hK q0 1 hl hP hD hS rfl (by decide) (nb_in (by decide)) rfl dX12_init_1205 (fun H locs hP hD hS => ?_)
  refine lv_dup hx hb dX12_init_1206 rfl ?_
  refine lv_sipush (v := 190) hx hb dX12_init_1207 (by decide) ?_
  refine lv_bipush (v := 114) hx hb dX12_init_1210 (by decide) ?_
  refine nb_it hx hb hK q0 1 hl hP hD hS rfl (by decide) (nb_in (by decide)) rfl dX12_init_1212 (fun H locs hP hD hS => ?_)
  refine lv_dup hx hb dX12_init_1213 rfl ?_
  refine lv_sipush (v := 191) hx hb dX12_init_1214 (by decide) ?_
  refine lv_bipush (v := 97) hx hb dX12_init_1217 (by decide) ?_
  refine nb_it hx hb hK q0 1 hl hP hD hS rfl (by decide) (nb_in (by decide)) rfl dX12_init_1219 (fun H locs hP hD hS => ?_)
  refine lv_dup hx hb dX12_init_1220 rfl ?_
  refine lv_sipush (v := 192) hx hb dX12_init_1221 (by decide) ?_
  refine lv_bipush (v := 108) hx hb dX12_init_1224 (by decide) ?_
  refine nb_it hx hb hK q0 1 hl hP hD hS rfl (by decide) (nb_in (by decide)) rfl dX12_init_1226 (fun H locs hP hD hS => ?_)
  refine lv_dup hx hb dX12_init_1227 rfl ?_
  refine lv_sipush (v := 193) hx hb dX12_init_1228 (by decide) ?_
  refine lv_bipush (v := 108) hx hb dX12_init_1231 (by decide) ?_
  refine nb_it hx hb hK q0 1 hl hP hD hS rfl (by decide) (nb_in (by decide)) rfl dX12_init_1233 (fun H locs hP hD hS => ?_)
  refine lv_dup hx hb dX12_init_1234 rfl ?_
  refine lv_sipush (v := 194) hx hb dX12_init_1235 (by decide) ?_
  refine lv_bipush (v := 32) hx hb dX12_init_1238 (by decide) ?_
  refine nb_it hx hb hK q0 1 hl hP hD hS rfl (by decide) (nb_in (by decide)) rfl dX12_init_1240 (fun H locs hP hD hS => ?_)
  refine lv_dup hx hb dX12_init_1241 rfl ?_
  refine lv_sipush (v := 195) hx hb dX12_init_1242 (by decide) ?_
  refine lv_bipush (v := 97) hx hb dX12_init_1245 (by decide) ?_
  refine nb_it hx hb hK q0 1 hl hP hD hS rfl (by decide) (nb_in (by decide)) rfl dX12_init_1247 (fun H locs hP hD hS => ?_)
  refine lv_dup hx hb dX12_init_1248 rfl ?_
  refine lv_sipush (v := 196) hx hb dX12_init_1249 (by decide) ?_
  refine lv_bipush (v := 98) hx hb dX12_init_1252 (by decide) ?_
  refine nb_it hx hb hK q0 1 hl hP hD hS rfl (by decide) (nb_in (by decide)) rfl dX12_init_1254 (fun H locs hP hD hS => ?_)
  refine lv_dup hx hb dX12_init_1255 rfl ?_
  refine lv_sipush (v := 197) hx hb dX12_init_1256 (by decide) ?_
  refine lv_bipush (v := 115) hx hb dX12_init_1259 (by decide) ?_
  refine nb_it hx hb hK q0 1 hl hP hD hS rfl (by decide) (nb_in (by decide)) rfl dX12_init_1261 (fun H locs hP hD hS => ?_)
  exact kk H locs hP hD hS
set_option maxHeartbeats 4000000 in
set_option maxRecDepth 20000 in
theorem t_mc_0_264 {p : Program} {l : Launch} {e : Env} {R : Room} {s : State} {m : MethodId} {args : Array Value} {below : List Frame} {meth : Method} {c : Code} {cells slots : Nat} {Q : State → Prop} {D : va_G} {cy : Nat → ClassId} {A : Nat → Prop} {a q0 : Nat} {ws : va_W} {H0 : Heap} {ls : Array Slot} {rest : List Value} (hx : p.tables.exec = Jvm.exec) (hb : c.code = cX12_init) (hK : va_K D nCl (nTy cy) s) (hl : q0 < ws.length) (kk : ∀ (H : Heap) (locs : List Loc), va_P D nCl (ws.set q0 (a, .inl (cy 1, 264, .inl (mT mWords 264)))) H → va_D A (ws.set q0 (a, .inl (cy 1, 264, .inl (mT mWords 264)))) → va_S A H0 H locs → W p l e R s m args below meth c H locs cells slots Q (F0 m 1724 ls (.ref a :: rest))) : ∀ (H : Heap) (locs : List Loc), va_P D nCl (ws.set q0 (a, .inl (cy 1, 264, .inl (mT mWords 198)))) H → va_D A (ws.set q0 (a, .inl (cy 1, 264, .inl (mT mWords 198)))) → va_S A H0 H locs → W p l e R s m args below meth c H locs cells slots Q (F0 m 1262 ls (.ref a :: rest)) := by
  intro H locs hP hD hS
  refine lv_dup hx hb dX12_init_1262 rfl ?_
  refine lv_sipush (v := 198) hx hb dX12_init_1263 (by decide) ?_
  refine lv_bipush (v := 32) hx hb dX12_init_1266 (by decide) ?_
  refine nb_it hx hb hK q0 1 hl hP hD hS rfl (by decide) (nb_in (by decide)) rfl dX12_init_1268 (fun H locs hP hD hS => ?_)
  refine lv_dup hx hb dX12_init_1269 rfl ?_
  refine lv_sipush (v := 199) hx hb dX12_init_1270 (by decide) ?_
  refine lv_bipush (v := 97) hx hb dX12_init_1273 (by decide) ?_
  refine nb_it hx hb hK q0 1 hl hP hD hS rfl (by decide) (nb_in (by decide)) rfl dX12_init_1275 (fun H locs hP hD hS => ?_)
  refine lv_dup hx hb dX12_init_1276 rfl ?_
  refine lv_sipush (v := 200) hx hb dX12_init_1277 (by decide) ?_
  refine lv_bipush (v := 114) hx hb dX12_init_1280 (by decide) ?_
  refine nb_it hx hb hK q0 1 hl hP hD hS rfl (by decide) (nb_in (by decide)) rfl dX12_init_1282 (fun H locs hP hD hS => ?_)
  refine lv_dup hx hb dX12_init_1283 rfl ?_
  refine lv_sipush (v := 201) hx hb dX12_init_1284 (by decide) ?_
  refine lv_bipush (v := 98) hx hb dX12_init_1287 (by decide) ?_
  refine nb_it hx hb hK q0 1 hl hP hD hS rfl (by decide) (nb_in (by decide)) rfl dX12_init_1289 (fun H locs hP hD hS => ?_)
  refine lv_dup hx hb dX12_init_1290 rfl ?_
  refine lv_sipush (v := 202) hx hb dX12_init_1291 (by decide) ?_
  refine lv_bipush (v := 32) hx hb dX12_init_1294 (by decide) ?_
  refine nb_it hx hb hK q0 1 hl hP hD hS rfl (by decide) (nb_in (by decide)) rfl dX12_init_1296 (fun H locs hP hD hS => ?_)
  refine lv_dup hx hb dX12_init_1297 rfl ?_
  refine lv_sipush (v := 203) hx hb dX12_init_1298 (by decide) ?_
  refine lv_bipush (v := 100) hx hb dX12_init_1301 (by decide) ?_
  refine nb_it hx hb hK q0 1 hl hP hD hS rfl (by decide) (nb_in (by decide)) rfl dX12_init_1303 (fun H locs hP hD hS => ?_)
  refine lv_dup hx hb dX12_init_1304 rfl ?_
  refine lv_sipush (v := 204) hx hb dX12_init_1305 (by decide) ?_
  refine lv_bipush (v := 111) hx hb dX12_init_1308 (by decide) ?_
  refine nb_it hx hb hK q0 1 hl hP hD hS rfl (by decide) (nb_in (by decide)) rfl dX12_init_1310 (fun H locs hP hD hS => ?_)
  refine lv_dup hx hb dX12_init_1311 rfl ?_
  refine lv_sipush (v := 205) hx hb dX12_init_1312 (by decide) ?_
  refine lv_bipush (v := 109) hx hb dX12_init_1315 (by decide) ?_
  refine nb_it hx hb hK q0 1 hl hP hD hS rfl (by decide) (nb_in (by decide)) rfl dX12_init_1317 (fun H locs hP hD hS => ?_)
  refine lv_dup hx hb dX12_init_1318 rfl ?_
  refine lv_sipush (v := 206) hx hb dX12_init_1319 (by decide) ?_
  refine lv_bipush (v := 97) hx hb dX12_init_1322 (by decide) ?_
  refine nb_it hx hb hK q0 1 hl hP hD hS rfl (by decide) (nb_in (by decide)) rfl dX12_init_1324 (fun H locs hP hD hS => ?_)
  refine lv_dup hx hb dX12_init_1325 rfl ?_
  refine lv_sipush (v := 207) hx hb dX12_init_1326 (by decide) ?_
  refine lv_bipush (v := 105) hx hb dX12_init_1329 (by decide) ?_
  refine nb_it hx hb hK q0 1 hl hP hD hS rfl (by decide) (nb_in (by decide)) rfl dX12_init_1331 (fun H locs hP hD hS => ?_)
  refine lv_dup hx hb dX12_init_1332 rfl ?_
  refine lv_sipush (v := 208) hx hb dX12_init_1333 (by decide) ?_
  refine lv_bipush (v := 110) hx hb dX12_init_1336 (by decide) ?_
  refine nb_it hx hb hK q0 1 hl hP hD hS rfl (by decide) (nb_in (by decide)) rfl dX12_init_1338 (fun H locs hP hD hS => ?_)
  refine lv_dup hx hb dX12_init_1339 rfl ?_
  refine lv_sipush (v := 209) hx hb dX12_init_1340 (by decide) ?_
  refine lv_bipush (v := 32) hx hb dX12_init_1343 (by decide) ?_
  refine nb_it hx hb hK q0 1 hl hP hD hS rfl (by decide) (nb_in (by decide)) rfl dX12_init_1345 (fun H locs hP hD hS => ?_)
  refine lv_dup hx hb dX12_init_1346 rfl ?_
  refine lv_sipush (v := 210) hx hb dX12_init_1347 (by decide) ?_
  refine lv_bipush (v := 114) hx hb dX12_init_1350 (by decide) ?_
  refine nb_it hx hb hK q0 1 hl hP hD hS rfl (by decide) (nb_in (by decide)) rfl dX12_init_1352 (fun H locs hP hD hS => ?_)
  refine lv_dup hx hb dX12_init_1353 rfl ?_
  refine lv_sipush (v := 211) hx hb dX12_init_1354 (by decide) ?_
  refine lv_bipush (v := 97) hx hb dX12_init_1357 (by decide) ?_
  refine nb_it hx hb hK q0 1 hl hP hD hS rfl (by decide) (nb_in (by decide)) rfl dX12_init_1359 (fun H locs hP hD hS => ?_)
  refine lv_dup hx hb dX12_init_1360 rfl ?_
  refine lv_sipush (v := 212) hx hb dX12_init_1361 (by decide) ?_
  refine lv_bipush (v := 110) hx hb dX12_init_1364 (by decide) ?_
  refine nb_it hx hb hK q0 1 hl hP hD hS rfl (by decide) (nb_in (by decide)) rfl dX12_init_1366 (fun H locs hP hD hS => ?_)
  refine lv_dup hx hb dX12_init_1367 rfl ?_
  refine lv_sipush (v := 213) hx hb dX12_init_1368 (by decide) ?_
  refine lv_bipush (v := 103) hx hb dX12_init_1371 (by decide) ?_
  refine nb_it hx hb hK q0 1 hl hP hD hS rfl (by decide) (nb_in (by decide)) rfl dX12_init_1373 (fun H locs hP hD hS => ?_)
  refine lv_dup hx hb dX12_init_1374 rfl ?_
  refine lv_sipush (v := 214) hx hb dX12_init_1375 (by decide) ?_
  refine lv_bipush (v := 101) hx hb dX12_init_1378 (by decide) ?_
  refine nb_it hx hb hK q0 1 hl hP hD hS rfl (by decide) (nb_in (by decide)) rfl dX12_init_1380 (fun H locs hP hD hS => ?_)
  refine lv_dup hx hb dX12_init_1381 rfl ?_
  refine lv_sipush (v := 215) hx hb dX12_init_1382 (by decide) ?_
  refine lv_bipush (v := 32) hx hb dX12_init_1385 (by decide) ?_
  refine nb_it hx hb hK q0 1 hl hP hD hS rfl (by decide) (nb_in (by decide)) rfl dX12_init_1387 (fun H locs hP hD hS => ?_)
  refine lv_dup hx hb dX12_init_1388 rfl ?_
  refine lv_sipush (v := 216) hx hb dX12_init_1389 (by decide) ?_
  refine lv_bipush (v := 112) hx hb dX12_init_1392 (by decide) ?_
  refine nb_it hx hb hK q0 1 hl hP hD hS rfl (by decide) (nb_in (by decide)) rfl dX12_init_1394 (fun H locs hP hD hS => ?_)
  refine lv_dup hx hb dX12_init_1395 rfl ?_
  refine lv_sipush (v := 217) hx hb dX12_init_1396 (by decide) ?_
  refine lv_bipush (v := 111) hx hb dX12_init_1399 (by decide) ?_
  refine nb_it hx hb hK q0 1 hl hP hD hS rfl (by decide) (nb_in (by decide)) rfl dX12_init_1401 (fun H locs hP hD hS => ?_)
  refine lv_dup hx hb dX12_init_1402 rfl ?_
  refine lv_sipush (v := 218) hx hb dX12_init_1403 (by decide) ?_
  refine lv_bipush (v := 119) hx hb dX12_init_1406 (by decide) ?_
  refine nb_it hx hb hK q0 1 hl hP hD hS rfl (by decide) (nb_in (by decide)) rfl dX12_init_1408 (fun H locs hP hD hS => ?_)
  refine lv_dup hx hb dX12_init_1409 rfl ?_
  refine lv_sipush (v := 219) hx hb dX12_init_1410 (by decide) ?_
  refine lv_bipush (v := 32) hx hb dX12_init_1413 (by decide) ?_
  refine nb_it hx hb hK q0 1 hl hP hD hS rfl (by decide) (nb_in (by decide)) rfl dX12_init_1415 (fun H locs hP hD hS => ?_)
  refine lv_dup hx hb dX12_init_1416 rfl ?_
  refine lv_sipush (v := 220) hx hb dX12_init_1417 (by decide) ?_
  refine lv_bipush (v := 116) hx hb dX12_init_1420 (by decide) ?_
  refine nb_it hx hb hK q0 1 hl hP hD hS rfl (by decide) (nb_in (by decide)) rfl dX12_init_1422 (fun H locs hP hD hS => ?_)
  refine lv_dup hx hb dX12_init_1423 rfl ?_
  refine lv_sipush (v := 221) hx hb dX12_init_1424 (by decide) ?_
  refine lv_bipush (v := 121) hx hb dX12_init_1427 (by decide) ?_
  refine nb_it hx hb hK q0 1 hl hP hD hS rfl (by decide) (nb_in (by decide)) rfl dX12_init_1429 (fun H locs hP hD hS => ?_)
  refine lv_dup hx hb dX12_init_1430 rfl ?_
  refine lv_sipush (v := 222) hx hb dX12_init_1431 (by decide) ?_
  refine lv_bipush (v := 112) hx hb dX12_init_1434 (by decide) ?_
  refine nb_it hx hb hK q0 1 hl hP hD hS rfl (by decide) (nb_in (by decide)) rfl dX12_init_1436 (fun H locs hP hD hS => ?_)
  refine lv_dup hx hb dX12_init_1437 rfl ?_
  refine lv_sipush (v := 223) hx hb dX12_init_1438 (by decide) ?_
  refine lv_bipush (v := 101) hx hb dX12_init_1441 (by decide) ?_
  refine nb_it hx hb hK q0 1 hl hP hD hS rfl (by decide) (nb_in (by decide)) rfl dX12_init_1443 (fun H locs hP hD hS => ?_)
  refine lv_dup hx hb dX12_init_1444 rfl ?_
  refine lv_sipush (v := 224) hx hb dX12_init_1445 (by decide) ?_
  refine lv_bipush (v := 32) hx hb dX12_init_1448 (by decide) ?_
  refine nb_it hx hb hK q0 1 hl hP hD hS rfl (by decide) (nb_in (by decide)) rfl dX12_init_1450 (fun H locs hP hD hS => ?_)
  refine lv_dup hx hb dX12_init_1451 rfl ?_
  refine lv_sipush (v := 225) hx hb dX12_init_1452 (by decide) ?_
  refine lv_bipush (v := 115) hx hb dX12_init_1455 (by decide) ?_
  refine nb_it hx hb hK q0 1 hl hP hD hS rfl (by decide) (nb_in (by decide)) rfl dX12_init_1457 (fun H locs hP hD hS => ?_)
  refine lv_dup hx hb dX12_init_1458 rfl ?_
  refine lv_sipush (v := 226) hx hb dX12_init_1459 (by decide) ?_
  refine lv_bipush (v := 116) hx hb dX12_init_1462 (by decide) ?_
  refine nb_it hx hb hK q0 1 hl hP hD hS rfl (by decide) (nb_in (by decide)) rfl dX12_init_1464 (fun H locs hP hD hS => ?_)
  refine lv_dup hx hb dX12_init_1465 rfl ?_
  refine lv_sipush (v := 227) hx hb dX12_init_1466 (by decide) ?_
  refine lv_bipush (v := 114) hx hb dX12_init_1469 (by decide) ?_
  refine nb_it hx hb hK q0 1 hl hP hD hS rfl (by decide) (nb_in (by decide)) rfl dX12_init_1471 (fun H locs hP hD hS => ?_)
  refine lv_dup hx hb dX12_init_1472 rfl ?_
  refine lv_sipush (v := 228) hx hb dX12_init_1473 (by decide) ?_
  refine lv_bipush (v := 32) hx hb dX12_init_1476 (by decide) ?_
  refine nb_it hx hb hK q0 1 hl hP hD hS rfl (by decide) (nb_in (by decide)) rfl dX12_init_1478 (fun H locs hP hD hS => ?_)
  refine lv_dup hx hb dX12_init_1479 rfl ?_
  refine lv_sipush (v := 229) hx hb dX12_init_1480 (by decide) ?_
  refine lv_bipush (v := 99) hx hb dX12_init_1483 (by decide) ?_
  refine nb_it hx hb hK q0 1 hl hP hD hS rfl (by decide) (nb_in (by decide)) rfl dX12_init_1485 (fun H locs hP hD hS => ?_)
  refine lv_dup hx hb dX12_init_1486 rfl ?_
  refine lv_sipush (v := 230) hx hb dX12_init_1487 (by decide) ?_
  refine lv_bipush (v := 104) hx hb dX12_init_1490 (by decide) ?_
  refine nb_it hx hb hK q0 1 hl hP hD hS rfl (by decide) (nb_in (by decide)) rfl dX12_init_1492 (fun H locs hP hD hS => ?_)
  refine lv_dup hx hb dX12_init_1493 rfl ?_
  refine lv_sipush (v := 231) hx hb dX12_init_1494 (by decide) ?_
  refine lv_bipush (v := 97) hx hb dX12_init_1497 (by decide) ?_
  refine nb_it hx hb hK q0 1 hl hP hD hS rfl (by decide) (nb_in (by decide)) rfl dX12_init_1499 (fun H locs hP hD hS => ?_)
  refine lv_dup hx hb dX12_init_1500 rfl ?_
  refine lv_sipush (v := 232) hx hb dX12_init_1501 (by decide) ?_
  refine lv_bipush (v := 114) hx hb dX12_init_1504 (by decide) ?_
  refine nb_it hx hb hK q0 1 hl hP hD hS rfl (by decide) (nb_in (by decide)) rfl dX12_init_1506 (fun H locs hP hD hS => ?_)
  refine lv_dup hx hb dX12_init_1507 rfl ?_
  refine lv_sipush (v := 233) hx hb dX12_init_1508 (by decide) ?_
  refine lv_bipush (v := 32) hx hb dX12_init_1511 (by decide) ?_
  refine nb_it hx hb hK q0 1 hl hP hD hS rfl (by decide) (nb_in (by decide)) rfl dX12_init_1513 (fun H locs hP hD hS => ?_)
  refine lv_dup hx hb dX12_init_1514 rfl ?_
  refine lv_sipush (v := 234) hx hb dX12_init_1515 (by decide) ?_
  refine lv_bipush (v := 99) hx hb dX12_init_1518 (by decide) ?_
  refine nb_it hx hb hK q0 1 hl hP hD hS rfl (by decide) (nb_in (by decide)) rfl dX12_init_1520 (fun H locs hP hD hS => ?_)
  refine lv_dup hx hb dX12_init_1521 rfl ?_
  refine lv_sipush (v := 235) hx hb dX12_init_1522 (by decide) ?_
  refine lv_bipush (v := 111) hx hb dX12_init_1525 (by decide) ?_
  refine nb_it hx hb hK q0 1 hl hP hD hS rfl (by decide) (nb_in (by decide)) rfl dX12_init_1527 (fun H locs hP hD hS => ?_)
  refine lv_dup hx hb dX12_init_1528 rfl ?_
  refine lv_sipush (v := 236) hx hb dX12_init_1529 (by decide) ?_
  refine lv_bipush (v := 100) hx hb dX12_init_1532 (by decide) ?_
  refine nb_it hx hb hK q0 1 hl hP hD hS rfl (by decide) (nb_in (by decide)) rfl dX12_init_1534 (fun H locs hP hD hS => ?_)
  refine lv_dup hx hb dX12_init_1535 rfl ?_
  refine lv_sipush (v := 237) hx hb dX12_init_1536 (by decide) ?_
  refine lv_bipush (v := 101) hx hb dX12_init_1539 (by decide) ?_
  refine nb_it hx hb hK q0 1 hl hP hD hS rfl (by decide) (nb_in (by decide)) rfl dX12_init_1541 (fun H locs hP hD hS => ?_)
  refine lv_dup hx hb dX12_init_1542 rfl ?_
  refine lv_sipush (v := 238) hx hb dX12_init_1543 (by decide) ?_
  refine lv_bipush (v := 32) hx hb dX12_init_1546 (by decide) ?_
  refine nb_it hx hb hK q0 1 hl hP hD hS rfl (by decide) (nb_in (by decide)) rfl dX12_init_1548 (fun H locs hP hD hS => ?_)
  refine lv_dup hx hb dX12_init_1549 rfl ?_
  refine lv_sipush (v := 239) hx hb dX12_init_1550 (by decide) ?_
  refine lv_bipush (v := 109) hx hb dX12_init_1553 (by decide) ?_
  refine nb_it hx hb hK q0 1 hl hP hD hS rfl (by decide) (nb_in (by decide)) rfl dX12_init_1555 (fun H locs hP hD hS => ?_)
  refine lv_dup hx hb dX12_init_1556 rfl ?_
  refine lv_sipush (v := 240) hx hb dX12_init_1557 (by decide) ?_
  refine lv_bipush (v := 105) hx hb dX12_init_1560 (by decide) ?_
  refine nb_it hx hb hK q0 1 hl hP hD hS rfl (by decide) (nb_in (by decide)) rfl dX12_init_1562 (fun H locs hP hD hS => ?_)
  refine lv_dup hx hb dX12_init_1563 rfl ?_
  refine lv_sipush (v := 241) hx hb dX12_init_1564 (by decide) ?_
  refine lv_bipush (v := 110) hx hb dX12_init_1567 (by decide) ?_
  refine nb_it hx hb hK q0 1 hl hP hD hS rfl (by decide) (nb_in (by decide)) rfl dX12_init_1569 (fun H locs hP hD hS => ?_)
  refine lv_dup hx hb dX12_init_1570 rfl ?_
  refine lv_sipush (v := 242) hx hb dX12_init_1571 (by decide) ?_
  refine lv_bipush (v := 32) hx hb dX12_init_1574 (by decide) ?_
  refine nb_it hx hb hK q0 1 hl hP hD hS rfl (by decide) (nb_in (by decide)) rfl dX12_init_1576 (fun H locs hP hD hS => ?_)
  refine lv_dup hx hb dX12_init_1577 rfl ?_
  refine lv_sipush (v := 243) hx hb dX12_init_1578 (by decide) ?_
  refine lv_bipush (v := 109) hx hb dX12_init_1581 (by decide) ?_
  refine nb_it hx hb hK q0 1 hl hP hD hS rfl (by decide) (nb_in (by decide)) rfl dX12_init_1583 (fun H locs hP hD hS => ?_)
  refine lv_dup hx hb dX12_init_1584 rfl ?_
  refine lv_sipush (v := 244) hx hb dX12_init_1585 (by decide) ?_
  refine lv_bipush (v := 97) hx hb dX12_init_1588 (by decide) ?_
  refine nb_it hx hb hK q0 1 hl hP hD hS rfl (by decide) (nb_in (by decide)) rfl dX12_init_1590 (fun H locs hP hD hS => ?_)
  refine lv_dup hx hb dX12_init_1591 rfl ?_
  refine lv_sipush (v := 245) hx hb dX12_init_1592 (by decide) ?_
  refine lv_bipush (v := 120) hx hb dX12_init_1595 (by decide) ?_
  refine nb_it hx hb hK q0 1 hl hP hD hS rfl (by decide) (nb_in (by decide)) rfl dX12_init_1597 (fun H locs hP hD hS => ?_)
  refine lv_dup hx hb dX12_init_1598 rfl ?_
  refine lv_sipush (v := 246) hx hb dX12_init_1599 (by decide) ?_
  refine lv_bipush (v := 32) hx hb dX12_init_1602 (by decide) ?_
  refine nb_it hx hb hK q0 1 hl hP hD hS rfl (by decide) (nb_in (by decide)) rfl dX12_init_1604 (fun H locs hP hD hS => ?_)
  refine lv_dup hx hb dX12_init_1605 rfl ?_
  refine lv_sipush (v := 247) hx hb dX12_init_1606 (by decide) ?_
  refine lv_bipush (v := 114) hx hb dX12_init_1609 (by decide) ?_
  refine nb_it hx hb hK q0 1 hl hP hD hS rfl (by decide) (nb_in (by decide)) rfl dX12_init_1611 (fun H locs hP hD hS => ?_)
  refine lv_dup hx hb dX12_init_1612 rfl ?_
  refine lv_sipush (v := 248) hx hb dX12_init_1613 (by decide) ?_
  refine lv_bipush (v := 101) hx hb dX12_init_1616 (by decide) ?_
  refine nb_it hx hb hK q0 1 hl hP hD hS rfl (by decide) (nb_in (by decide)) rfl dX12_init_1618 (fun H locs hP hD hS => ?_)
  refine lv_dup hx hb dX12_init_1619 rfl ?_
  refine lv_sipush (v := 249) hx hb dX12_init_1620 (by decide) ?_
  refine lv_bipush (v := 118) hx hb dX12_init_1623 (by decide) ?_
  refine nb_it hx hb hK q0 1 hl hP hD hS rfl (by decide) (nb_in (by decide)) rfl dX12_init_1625 (fun H locs hP hD hS => ?_)
  refine lv_dup hx hb dX12_init_1626 rfl ?_
  refine lv_sipush (v := 250) hx hb dX12_init_1627 (by decide) ?_
  refine lv_bipush (v := 32) hx hb dX12_init_1630 (by decide) ?_
  refine nb_it hx hb hK q0 1 hl hP hD hS rfl (by decide) (nb_in (by decide)) rfl dX12_init_1632 (fun H locs hP hD hS => ?_)
  refine lv_dup hx hb dX12_init_1633 rfl ?_
  refine lv_sipush (v := 251) hx hb dX12_init_1634 (by decide) ?_
  refine lv_bipush (v := 110) hx hb dX12_init_1637 (by decide) ?_
  refine nb_it hx hb hK q0 1 hl hP hD hS rfl (by decide) (nb_in (by decide)) rfl dX12_init_1639 (fun H locs hP hD hS => ?_)
  refine lv_dup hx hb dX12_init_1640 rfl ?_
  refine lv_sipush (v := 252) hx hb dX12_init_1641 (by decide) ?_
  refine lv_bipush (v := 101) hx hb dX12_init_1644 (by decide) ?_
  refine nb_it hx hb hK q0 1 hl hP hD hS rfl (by decide) (nb_in (by decide)) rfl dX12_init_1646 (fun H locs hP hD hS => ?_)
  refine lv_dup hx hb dX12_init_1647 rfl ?_
  refine lv_sipush (v := 253) hx hb dX12_init_1648 (by decide) ?_
  refine lv_bipush (v := 119) hx hb dX12_init_1651 (by decide) ?_
  refine nb_it hx hb hK q0 1 hl hP hD hS rfl (by decide) (nb_in (by decide)) rfl dX12_init_1653 (fun H locs hP hD hS => ?_)
  refine lv_dup hx hb dX12_init_1654 rfl ?_
  refine lv_sipush (v := 254) hx hb dX12_init_1655 (by decide) ?_
  refine lv_bipush (v := 97) hx hb dX12_init_1658 (by decide) ?_
  refine nb_it hx hb hK q0 1 hl hP hD hS rfl (by decide) (nb_in (by decide)) rfl dX12_init_1660 (fun H locs hP hD hS => ?_)
  refine lv_dup hx hb dX12_init_1661 rfl ?_
  refine lv_sipush (v := 255) hx hb dX12_init_1662 (by decide) ?_
  refine lv_bipush (v := 116) hx hb dX12_init_1665 (by decide) ?_
  refine nb_it hx hb hK q0 1 hl hP hD hS rfl (by decide) (nb_in (by decide)) rfl dX12_init_1667 (fun H locs hP hD hS => ?_)
  refine lv_dup hx hb dX12_init_1668 rfl ?_
  refine lv_sipush (v := 256) hx hb dX12_init_1669 (by decide) ?_
  refine lv_bipush (v := 32) hx hb dX12_init_1672 (by decide) ?_
  refine nb_it hx hb hK q0 1 hl hP hD hS rfl (by decide) (nb_in (by decide)) rfl dX12_init_1674 (fun H locs hP hD hS => ?_)
  refine lv_dup hx hb dX12_init_1675 rfl ?_
  refine lv_sipush (v := 257) hx hb dX12_init_1676 (by decide) ?_
  refine lv_bipush (v := 114) hx hb dX12_init_1679 (by decide) ?_
  refine nb_it hx hb hK q0 1 hl hP hD hS rfl (by decide) (nb_in (by decide)) rfl dX12_init_1681 (fun H locs hP hD hS => ?_)
  refine lv_dup hx hb dX12_init_1682 rfl ?_
  refine lv_sipush (v := 258) hx hb dX12_init_1683 (by decide) ?_
  refine lv_bipush (v := 97) hx hb dX12_init_1686 (by decide) ?_
  refine nb_it hx hb hK q0 1 hl hP hD hS rfl (by decide) (nb_in (by decide)) rfl dX12_init_1688 (fun H locs hP hD hS => ?_)
  refine lv_dup hx hb dX12_init_1689 rfl ?_
  refine lv_sipush (v := 259) hx hb dX12_init_1690 (by decide) ?_
  refine lv_bipush (v := 110) hx hb dX12_init_1693 (by decide) ?_
  refine nb_it hx hb hK q0 1 hl hP hD hS rfl (by decide) (nb_in (by decide)) rfl dX12_init_1695 (fun H locs hP hD hS => ?_)
  refine lv_dup hx hb dX12_init_1696 rfl ?_
  refine lv_sipush (v := 260) hx hb dX12_init_1697 (by decide) ?_
  refine lv_bipush (v := 100) hx hb dX12_init_1700 (by decide) ?_
  refine nb_it hx hb hK q0 1 hl hP hD hS rfl (by decide) (nb_in (by decide)) rfl dX12_init_1702 (fun H locs hP hD hS => ?_)
  refine lv_dup hx hb dX12_init_1703 rfl ?_
  refine lv_sipush (v := 261) hx hb dX12_init_1704 (by decide) ?_
  refine lv_bipush (v := 111) hx hb dX12_init_1707 (by decide) ?_
  refine nb_it hx hb hK q0 1 hl hP hD hS rfl (by decide) (nb_in (by decide)) rfl dX12_init_1709 (fun H locs hP hD hS => ?_)
  refine lv_dup hx hb dX12_init_1710 rfl ?_
  refine lv_sipush (v := 262) hx hb dX12_init_1711 (by decide) ?_
  refine lv_bipush (v := 109) hx hb dX12_init_1714 (by decide) ?_
  refine nb_it hx hb hK q0 1 hl hP hD hS rfl (by decide) (nb_in (by decide)) rfl dX12_init_1716 (fun H locs hP hD hS => ?_)
  refine lv_dup hx hb dX12_init_1717 rfl ?_
  refine lv_sipush (v := 263) hx hb dX12_init_1718 (by decide) ?_
  refine lv_bipush (v := 32) hx hb dX12_init_1721 (by decide) ?_
  refine nb_it hx hb hK q0 1 hl hP hD hS rfl (by decide) (nb_in (by decide)) rfl dX12_init_1723 (fun H locs hP hD hS => ?_)
  exact kk H locs hP hD hS
