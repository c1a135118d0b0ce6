set_option maxRecDepth 20000 in
theorem tw_2206 : (.instanceMethod yX5_iterStore : Cond) ∈ lw_tbl := (List.mem_append_right _ (List.mem_append_right _ (List.mem_append_right _ (List.mem_append_right _ (List.mem_append_right _ (List.mem_append_left _ (List.mem_of_getElem? (i := 27) rfl)))))))
set_option maxRecDepth 20000 in
theorem tw_2207 : (.selects RX5 yX5_iterStore yX5_iterStore : Cond) ∈ lw_tbl := (List.mem_append_left _ (List.mem_of_getElem? (i := 33) (by decide +kernel)))
set_option maxRecDepth 20000 in
theorem tw_2208 : (.methodLink RX5 303 yX5_mark : Cond) ∈ lw_tbl := (List.mem_append_right _ (List.mem_append_right _ (List.mem_append_right _ (List.mem_append_right _ (List.mem_append_right _ (List.mem_append_left _ (List.mem_of_getElem? (i := 29) rfl)))))))
set_option maxRecDepth 20000 in
theorem tw_2209 : (.instanceMethod yX5_mark : Cond) ∈ lw_tbl := (List.mem_append_right _ (List.mem_append_right _ (List.mem_append_right _ (List.mem_append_right _ (List.mem_append_right _ (List.mem_append_left _ (List.mem_of_getElem? (i := 31) rfl)))))))
set_option maxRecDepth 20000 in
theorem tw_2210 : (.selects RX5 yX5_mark yX5_mark : Cond) ∈ lw_tbl := (List.mem_append_left _ (List.mem_of_getElem? (i := 34) (by decide +kernel)))
set_option maxRecDepth 20000 in
theorem tw_2211 : (.methodLink RX5 268 yX5_takenName : Cond) ∈ lw_tbl := (List.mem_append_right _ (List.mem_append_right _ (List.mem_append_right _ (List.mem_append_right _ (List.mem_append_left _ (List.mem_of_getElem? (i := 177) rfl))))))
set_option maxRecDepth 20000 in
theorem tw_2212 : (.instanceMethod yX5_takenName : Cond) ∈ lw_tbl := (List.mem_append_right _ (List.mem_append_right _ (List.mem_append_right _ (List.mem_append_right _ (List.mem_append_left _ (List.mem_of_getElem? (i := 179) rfl))))))
set_option maxRecDepth 20000 in
theorem tw_2213 : (.selects RX5 yX5_takenName yX5_takenName : Cond) ∈ lw_tbl := (List.mem_append_left _ (List.mem_of_getElem? (i := 22) (by decide +kernel)))
set_option maxRecDepth 20000 in
theorem tw_2214 : (.methodLink RX5 405 yX5_functionCall : Cond) ∈ lw_tbl := (List.mem_append_right _ (List.mem_append_right _ (List.mem_append_right _ (List.mem_append_right _ (List.mem_append_left _ (List.mem_of_getElem? (i := 185) rfl))))))
set_option maxRecDepth 20000 in
theorem tw_2215 : (.instanceMethod yX5_functionCall : Cond) ∈ lw_tbl := (List.mem_append_right _ (List.mem_append_right _ (List.mem_append_right _ (List.mem_append_right _ (List.mem_append_left _ (List.mem_of_getElem? (i := 187) rfl))))))
set_option maxRecDepth 20000 in
theorem tw_2216 : (.selects RX5 yX5_functionCall yX5_functionCall : Cond) ∈ lw_tbl := (List.mem_append_left _ (List.mem_of_getElem? (i := 23) (by decide +kernel)))
set_option maxRecDepth 20000 in
theorem tw_2217 : (.methodLink RX5 378 yX5_primary : Cond) ∈ lw_tbl := (List.mem_append_right _ (List.mem_append_right _ (List.mem_append_right _ (List.mem_append_right _ (List.mem_append_left _ (List.mem_of_getElem? (i := 169) rfl))))))
set_option maxRecDepth 20000 in
theorem tw_2218 : (.instanceMethod yX5_primary : Cond) ∈ lw_tbl := (List.mem_append_right _ (List.mem_append_right _ (List.mem_append_right _ (List.mem_append_right _ (List.mem_append_left _ (List.mem_of_getElem? (i := 171) rfl))))))
set_option maxRecDepth 20000 in
theorem tw_2219 : (.selects RX5 yX5_primary yX5_primary : Cond) ∈ lw_tbl := (List.mem_append_left _ (List.mem_of_getElem? (i := 20) (by decide +kernel)))
set_option maxRecDepth 20000 in
theorem tw_2220 : (.methodLink RX5 309 yX5_part : Cond) ∈ lw_tbl := (List.mem_append_right _ (List.mem_append_right _ (List.mem_append_right _ (List.mem_append_right _ (List.mem_append_right _ (List.mem_append_left _ (List.mem_of_getElem? (i := 64) rfl)))))))
set_option maxRecDepth 20000 in
theorem tw_2221 : (.instanceMethod yX5_part : Cond) ∈ lw_tbl := (List.mem_append_right _ (List.mem_append_right _ (List.mem_append_right _ (List.mem_append_right _ (List.mem_append_right _ (List.mem_append_left _ (List.mem_of_getElem? (i := 66) rfl)))))))
set_option maxRecDepth 20000 in
theorem tw_2222 : (.selects RX5 yX5_part yX5_part : Cond) ∈ lw_tbl := (List.mem_append_left _ (List.mem_of_getElem? (i := 41) (by decide +kernel)))
set_option maxRecDepth 20000 in
theorem tw_2223 : (.fieldLink RX5 118 "SetHouse$Parser" "targetPlace" "I" : Cond) ∈ lw_tbl := (List.mem_append_right _ (List.mem_append_right _ (List.mem_append_left _ (List.mem_of_getElem? (i := 228) rfl))))
set_option maxRecDepth 20000 in
theorem tw_2224 : (.fieldLink RX5 341 "SetHouse$Parser" "targetEnd" "I" : Cond) ∈ lw_tbl := (List.mem_append_right _ (List.mem_append_right _ (List.mem_append_left _ (List.mem_of_getElem? (i := 229) rfl))))
set_option maxRecDepth 20000 in
theorem tw_2225 : (.fieldLink RX5 350 "SetHouse$Parser" "targetMarks" "I" : Cond) ∈ lw_tbl := (List.mem_append_right _ (List.mem_append_right _ (List.mem_append_left _ (List.mem_of_getElem? (i := 230) rfl))))
set_option maxRecDepth 20000 in
theorem tw_2226 : (.fieldLink RX5 347 "SetHouse$Parser" "targetCount" "I" : Cond) ∈ lw_tbl := (List.mem_append_right _ (List.mem_append_right _ (List.mem_append_left _ (List.mem_of_getElem? (i := 231) rfl))))
set_option maxRecDepth 20000 in
theorem tw_2227 : (.fieldLink RX5 353 "SetHouse$Parser" "targetName" "I" : Cond) ∈ lw_tbl := (List.mem_append_right _ (List.mem_append_right _ (List.mem_append_left _ (List.mem_of_getElem? (i := 232) rfl))))
set_option maxRecDepth 20000 in
theorem tw_2228 : (.methodLink RX5 381 yX5_named : Cond) ∈ lw_tbl := (List.mem_append_right _ (List.mem_append_right _ (List.mem_append_right _ (List.mem_append_right _ (List.mem_append_left _ (List.mem_of_getElem? (i := 173) rfl))))))
set_option maxRecDepth 20000 in
theorem tw_2229 : (.instanceMethod yX5_named : Cond) ∈ lw_tbl := (List.mem_append_right _ (List.mem_append_right _ (List.mem_append_right _ (List.mem_append_right _ (List.mem_append_left _ (List.mem_of_getElem? (i := 175) rfl))))))
set_option maxRecDepth 20000 in
theorem tw_2230 : (.selects RX5 yX5_named yX5_named : Cond) ∈ lw_tbl := (List.mem_append_left _ (List.mem_of_getElem? (i := 21) (by decide +kernel)))
set_option maxRecDepth 20000 in
theorem tw_2231 : (.methodLink RX5 384 yX5_number : Cond) ∈ lw_tbl := (List.mem_append_right _ (List.mem_append_right _ (List.mem_append_right _ (List.mem_append_right _ (List.mem_append_left _ (List.mem_of_getElem? (i := 209) rfl))))))
set_option maxRecDepth 20000 in
theorem tw_2232 : (.instanceMethod yX5_number : Cond) ∈ lw_tbl := (List.mem_append_right _ (List.mem_append_right _ (List.mem_append_right _ (List.mem_append_right _ (List.mem_append_left _ (List.mem_of_getElem? (i := 211) rfl))))))
set_option maxRecDepth 20000 in
theorem tw_2233 : (.selects RX5 yX5_number yX5_number : Cond) ∈ lw_tbl := (List.mem_append_left _ (List.mem_of_getElem? (i := 26) (by decide +kernel)))
set_option maxRecDepth 20000 in
theorem tw_2234 : (.methodLink RX5 387 yX5_string : Cond) ∈ lw_tbl := (List.mem_append_right _ (List.mem_append_right _ (List.mem_append_right _ (List.mem_append_right _ (List.mem_append_left _ (List.mem_of_getElem? (i := 230) rfl))))))
set_option maxRecDepth 20000 in
theorem tw_2235 : (.instanceMethod yX5_string : Cond) ∈ lw_tbl := (List.mem_append_right _ (List.mem_append_right _ (List.mem_append_right _ (List.mem_append_right _ (List.mem_append_left _ (List.mem_of_getElem? (i := 232) rfl))))))
set_option maxRecDepth 20000 in
theorem tw_2236 : (.selects RX5 yX5_string yX5_string : Cond) ∈ lw_tbl := (List.mem_append_left _ (List.mem_of_getElem? (i := 27) (by decide +kernel)))
set_option maxRecDepth 20000 in
theorem tw_2237 : (.methodLink RX5 394 yX5_row : Cond) ∈ lw_tbl := (List.mem_append_right _ (List.mem_append_right _ (List.mem_append_right _ (List.mem_append_right _ (List.mem_append_right _ (List.mem_append_left _ (List.mem_of_getElem? (i := 5) rfl)))))))
set_option maxRecDepth 20000 in
theorem tw_2238 : (.instanceMethod yX5_row : Cond) ∈ lw_tbl := (List.mem_append_right _ (List.mem_append_right _ (List.mem_append_right _ (List.mem_append_right _ (List.mem_append_right _ (List.mem_append_left _ (List.mem_of_getElem? (i := 7) rfl)))))))
set_option maxRecDepth 20000 in
theorem tw_2239 : (.selects RX5 yX5_row yX5_row : Cond) ∈ lw_tbl := (List.mem_append_left _ (List.mem_of_getElem? (i := 29) (by decide +kernel)))
set_option maxRecDepth 20000 in
theorem tw_2240 : (.methodLink RX5 400 yX5_choice : Cond) ∈ lw_tbl := (List.mem_append_right _ (List.mem_append_right _ (List.mem_append_right _ (List.mem_append_right _ (List.mem_append_right _ (List.mem_append_left _ (List.mem_of_getElem? (i := 49) rfl)))))))
set_option maxRecDepth 20000 in
theorem tw_2241 : (.instanceMethod yX5_choice : Cond) ∈ lw_tbl := (List.mem_append_right _ (List.mem_append_right _ (List.mem_append_right _ (List.mem_append_right _ (List.mem_append_right _ (List.mem_append_left _ (List.mem_of_getElem? (i := 51) rfl)))))))
set_option maxRecDepth 20000 in
theorem tw_2242 : (.selects RX5 yX5_choice yX5_choice : Cond) ∈ lw_tbl := (List.mem_append_left _ (List.mem_of_getElem? (i := 38) (by decide +kernel)))
set_option maxRecDepth 20000 in
theorem tw_2243 : (.constant RX5 198 (-2147483648) : Cond) ∈ lw_tbl := (List.mem_append_right _ (List.mem_append_right _ (List.mem_append_right _ (List.mem_append_right _ (List.mem_append_left _ (List.mem_of_getElem? (i := 235) rfl))))))
set_option maxRecDepth 20000 in
theorem tw_2244 : (.methodLink RX5 397 yX5_quantifier : Cond) ∈ lw_tbl := (List.mem_append_right _ (List.mem_append_right _ (List.mem_append_right _ (List.mem_append_right _ (List.mem_append_right _ (List.mem_append_left _ (List.mem_of_getElem? (i := 45) rfl)))))))
set_option maxRecDepth 20000 in
theorem tw_2245 : (.instanceMethod yX5_quantifier : Cond) ∈ lw_tbl := (List.mem_append_right _ (List.mem_append_right _ (List.mem_append_right _ (List.mem_append_right _ (List.mem_append_right _ (List.mem_append_left _ (List.mem_of_getElem? (i := 47) rfl)))))))
set_option maxRecDepth 20000 in
theorem tw_2246 : (.selects RX5 yX5_quantifier yX5_quantifier : Cond) ∈ lw_tbl := (List.mem_append_left _ (List.mem_of_getElem? (i := 37) (by decide +kernel)))
set_option maxRecDepth 20000 in
theorem tw_2247 : (.methodLink RX5 403 yX5_word : Cond) ∈ lw_tbl := (List.mem_append_right _ (List.mem_append_right _ (List.mem_append_right _ (List.mem_append_right _ (List.mem_append_right _ (List.mem_append_left _ (List.mem_of_getElem? (i := 57) rfl)))))))
set_option maxRecDepth 20000 in
theorem tw_2248 : (.instanceMethod yX5_word : Cond) ∈ lw_tbl := (List.mem_append_right _ (List.mem_append_right _ (List.mem_append_right _ (List.mem_append_right _ (List.mem_append_right _ (List.mem_append_left _ (List.mem_of_getElem? (i := 59) rfl)))))))
set_option maxRecDepth 20000 in
theorem tw_2249 : (.selects RX5 yX5_word yX5_word : Cond) ∈ lw_tbl := (List.mem_append_left _ (List.mem_of_getElem? (i := 40) (by decide +kernel)))
set_option maxRecDepth 20000 in
theorem tw_2250 : (.methodLink RX5 199 yX5_push : Cond) ∈ lw_tbl := (List.mem_append_right _ (List.mem_append_right _ (List.mem_append_right _ (List.mem_append_right _ (List.mem_append_right _ (List.mem_append_left _ (List.mem_of_getElem? (i := 1) rfl)))))))
set_option maxRecDepth 20000 in
theorem tw_2251 : (.instanceMethod yX5_push : Cond) ∈ lw_tbl := (List.mem_append_right _ (List.mem_append_right _ (List.mem_append_right _ (List.mem_append_right _ (List.mem_append_right _ (List.mem_append_left _ (List.mem_of_getElem? (i := 3) rfl)))))))
set_option maxRecDepth 20000 in
theorem tw_2252 : (.selects RX5 yX5_push yX5_push : Cond) ∈ lw_tbl := (List.mem_append_left _ (List.mem_of_getElem? (i := 28) (by decide +kernel)))
set_option maxRecDepth 20000 in
theorem tw_2253 : (.methodLink RX5 438 yX5_former : Cond) ∈ lw_tbl := (List.mem_append_right _ (List.mem_append_right _ (List.mem_append_right _ (List.mem_append_right _ (List.mem_append_right _ (List.mem_append_left _ (List.mem_of_getElem? (i := 9) rfl)))))))
set_option maxRecDepth 20000 in
theorem tw_2254 : (.instanceMethod yX5_former : Cond) ∈ lw_tbl := (List.mem_append_right _ (List.mem_append_right _ (List.mem_append_right _ (List.mem_append_right _ (List.mem_append_right _ (List.mem_append_left _ (List.mem_of_getElem? (i := 11) rfl)))))))
set_option maxRecDepth 20000 in
theorem tw_2255 : (.selects RX5 yX5_former yX5_former : Cond) ∈ lw_tbl := (List.mem_append_left _ (List.mem_of_getElem? (i := 30) (by decide +kernel)))
set_option maxRecDepth 20000 in
theorem tw_2256 : (.methodLink RX5 441 yX5_members : Cond) ∈ lw_tbl := (List.mem_append_right _ (List.mem_append_right _ (List.mem_append_right _ (List.mem_append_right _ (List.mem_append_right _ (List.mem_append_left _ (List.mem_of_getElem? (i := 41) rfl)))))))
set_option maxRecDepth 20000 in
theorem tw_2257 : (.instanceMethod yX5_members : Cond) ∈ lw_tbl := (List.mem_append_right _ (List.mem_append_right _ (List.mem_append_right _ (List.mem_append_right _ (List.mem_append_right _ (List.mem_append_left _ (List.mem_of_getElem? (i := 43) rfl)))))))
set_option maxRecDepth 20000 in
theorem tw_2258 : (.selects RX5 yX5_members yX5_members : Cond) ∈ lw_tbl := (List.mem_append_left _ (List.mem_of_getElem? (i := 36) (by decide +kernel)))
set_option maxRecDepth 20000 in
theorem tw_2259 : (.methodLink RX5 447 yX5_wordOp : Cond) ∈ lw_tbl := (List.mem_append_right _ (List.mem_append_right _ (List.mem_append_right _ (List.mem_append_right _ (List.mem_append_right _ (List.mem_append_left _ (List.mem_of_getElem? (i := 61) rfl)))))))
set_option maxRecDepth 20000 in
theorem tw_2260 : (.static yX5_wordOp : Cond) ∈ lw_tbl := (List.mem_append_right _ (List.mem_append_right _ (List.mem_append_right _ (List.mem_append_right _ (List.mem_append_right _ (List.mem_append_left _ (List.mem_of_getElem? (i := 62) rfl)))))))
set_option maxRecDepth 20000 in
theorem tw_2261 : (.code yX5_wordOp cX5_wordOp 1 (some .int) : Cond) ∈ lw_tbl := (List.mem_append_right _ (List.mem_append_right _ (List.mem_append_right _ (List.mem_append_right _ (List.mem_append_right _ (List.mem_append_left _ (List.mem_of_getElem? (i := 63) rfl)))))))
set_option maxRecDepth 20000 in
theorem tw_2262 : (.code yX5_push cX5_push 2 none : Cond) ∈ lw_tbl := (List.mem_append_right _ (List.mem_append_right _ (List.mem_append_right _ (List.mem_append_right _ (List.mem_append_right _ (List.mem_append_left _ (List.mem_of_getElem? (i := 4) rfl)))))))
set_option maxRecDepth 20000 in
theorem tw_2263 : (.code yX5_string cX5_string 6 none : Cond) ∈ lw_tbl := (List.mem_append_right _ (List.mem_append_right _ (List.mem_append_right _ (List.mem_append_right _ (List.mem_append_left _ (List.mem_of_getElem? (i := 233) rfl))))))
set_option maxRecDepth 20000 in
theorem tw_2264 : (.code yX5_number cX5_number 4 none : Cond) ∈ lw_tbl := (List.mem_append_right _ (List.mem_append_right _ (List.mem_append_right _ (List.mem_append_right _ (List.mem_append_left _ (List.mem_of_getElem? (i := 212) rfl))))))
set_option maxRecDepth 20000 in
theorem tw_2265 : (.code yX5_takenName cX5_takenName 5 (some .int) : Cond) ∈ lw_tbl := (List.mem_append_right _ (List.mem_append_right _ (List.mem_append_right _ (List.mem_append_right _ (List.mem_append_left _ (List.mem_of_getElem? (i := 180) rfl))))))
set_option maxRecDepth 20000 in
theorem tw_2266 : (.code yX5_mark cX5_mark 2 (some .int) : Cond) ∈ lw_tbl := (List.mem_append_right _ (List.mem_append_right _ (List.mem_append_right _ (List.mem_append_right _ (List.mem_append_right _ (List.mem_append_left _ (List.mem_of_getElem? (i := 32) rfl)))))))
set_option maxRecDepth 20000 in
theorem tw_2267 : (.code yX5_iterStore cX5_iterStore 4 none : Cond) ∈ lw_tbl := (List.mem_append_right _ (List.mem_append_right _ (List.mem_append_right _ (List.mem_append_right _ (List.mem_append_right _ (List.mem_append_left _ (List.mem_of_getElem? (i := 28) rfl)))))))
set_option maxRecDepth 20000 in
theorem tw_2268 : (.code yX5_iterNames cX5_iterNames 7 none : Cond) ∈ lw_tbl := (List.mem_append_right _ (List.mem_append_right _ (List.mem_append_right _ (List.mem_append_right _ (List.mem_append_right _ (List.mem_append_left _ (List.mem_of_getElem? (i := 20) rfl)))))))
set_option maxRecDepth 20000 in
theorem tw_2269 : (.code yX5_clear cX5_clear 2 none : Cond) ∈ lw_tbl := (List.mem_append_right _ (List.mem_append_right _ (List.mem_append_right _ (List.mem_append_right _ (List.mem_append_right _ (List.mem_append_left _ (List.mem_of_getElem? (i := 40) rfl)))))))
set_option maxRecDepth 20000 in
theorem tw_2270 : (.code yX5_binaryOp cX5_binaryOp 1 (some .int) : Cond) ∈ lw_tbl := (List.mem_append_right _ (List.mem_append_right _ (List.mem_append_right _ (List.mem_append_right _ (List.mem_append_right _ (List.mem_append_left _ (List.mem_of_getElem? (i := 77) rfl)))))))
set_option maxRecDepth 20000 in
theorem tw_2271 : (.code yX5_level cX5_level 1 (some .int) : Cond) ∈ lw_tbl := (List.mem_append_right _ (List.mem_append_right _ (List.mem_append_right _ (List.mem_append_right _ (List.mem_append_right _ (List.mem_append_left _ (List.mem_of_getElem? (i := 70) rfl)))))))
set_option maxRecDepth 20000 in
theorem tw_2272 : (.code yX5_prefix cX5_prefix 6 (some .boolean) : Cond) ∈ lw_tbl := (List.mem_append_right _ (List.mem_append_right _ (List.mem_append_right _ (List.mem_append_right _ (List.mem_append_left _ (List.mem_of_getElem? (i := 144) rfl))))))
set_option maxRecDepth 20000 in
theorem tw_2273 : (.code yX5_settle cX5_settle 6 none : Cond) ∈ lw_tbl := (List.mem_append_right _ (List.mem_append_right _ (List.mem_append_right _ (List.mem_append_right _ (List.mem_append_right _ (List.mem_append_left _ (List.mem_of_getElem? (i := 74) rfl)))))))
set_option maxRecDepth 20000 in
theorem tw_2274 : (.code yX5_aimAll cX5_aimAll 5 none : Cond) ∈ lw_tbl := (List.mem_append_right _ (List.mem_append_right _ (List.mem_append_right _ (List.mem_append_right _ (List.mem_append_right _ (List.mem_append_left _ (List.mem_of_getElem? (i := 56) rfl)))))))
set_option maxRecDepth 20000 in
theorem tw_2275 : (.methodLink RX5 179 yX5_tellUnit : Cond) ∈ lw_tbl := (List.mem_append_right _ (List.mem_append_right _ (List.mem_append_right _ (List.mem_append_right _ (List.mem_append_left _ (List.mem_of_getElem? (i := 116) rfl))))))
set_option maxRecDepth 20000 in
theorem tw_2276 : (.instanceMethod yX5_tellUnit : Cond) ∈ lw_tbl := (List.mem_append_right _ (List.mem_append_right _ (List.mem_append_right _ (List.mem_append_right _ (List.mem_append_left _ (List.mem_of_getElem? (i := 118) rfl))))))
set_option maxRecDepth 20000 in
theorem tw_2277 : (.selects RX5 yX5_tellUnit yX5_tellUnit : Cond) ∈ lw_tbl := (List.mem_append_left _ (List.mem_of_getElem? (i := 9) (by decide +kernel)))
set_option maxRecDepth 20000 in
theorem tw_2278 : (.methodLink RX5 183 yX5_parameter : Cond) ∈ lw_tbl := (List.mem_append_right _ (List.mem_append_right _ (List.mem_append_right _ (List.mem_append_right _ (List.mem_append_left _ (List.mem_of_getElem? (i := 129) rfl))))))
set_option maxRecDepth 20000 in
theorem tw_2279 : (.instanceMethod yX5_parameter : Cond) ∈ lw_tbl := (List.mem_append_right _ (List.mem_append_right _ (List.mem_append_right _ (List.mem_append_right _ (List.mem_append_left _ (List.mem_of_getElem? (i := 131) rfl))))))
set_option maxRecDepth 20000 in
theorem tw_2280 : (.selects RX5 yX5_parameter yX5_parameter : Cond) ∈ lw_tbl := (List.mem_append_left _ (List.mem_of_getElem? (i := 12) (by decide +kernel)))
set_option maxRecDepth 20000 in
theorem tw_2281 : (.methodLink RX5 189 yX5_closeUnit : Cond) ∈ lw_tbl := (List.mem_append_right _ (List.mem_append_right _ (List.mem_append_right _ (List.mem_append_right _ (List.mem_append_right _ (List.mem_append_left _ (List.mem_of_getElem? (i := 78) rfl)))))))
set_option maxRecDepth 20000 in
theorem tw_2282 : (.instanceMethod yX5_closeUnit : Cond) ∈ lw_tbl := (List.mem_append_right _ (List.mem_append_right _ (List.mem_append_right _ (List.mem_append_right _ (List.mem_append_right _ (List.mem_append_left _ (List.mem_of_getElem? (i := 80) rfl)))))))
set_option maxRecDepth 20000 in
theorem tw_2283 : (.selects RX5 yX5_closeUnit yX5_closeUnit : Cond) ∈ lw_tbl := (List.mem_append_left _ (List.mem_of_getElem? (i := 43) (by decide +kernel)))
set_option maxRecDepth 20000 in
theorem tw_2284 : (.code yX5_closeUnit cX5_closeUnit 2 none : Cond) ∈ lw_tbl := (List.mem_append_right _ (List.mem_append_right _ (List.mem_append_right _ (List.mem_append_right _ (List.mem_append_right _ (List.mem_append_left _ (List.mem_of_getElem? (i := 81) rfl)))))))
set_option maxRecDepth 20000 in
theorem tw_2285 : (.code yX5_parameter cX5_parameter 2 none : Cond) ∈ lw_tbl := (List.mem_append_right _ (List.mem_append_right _ (List.mem_append_right _ (List.mem_append_right _ (List.mem_append_left _ (List.mem_of_getElem? (i := 132) rfl))))))
set_option maxRecDepth 20000 in
theorem tw_2286 : (.code yX5_tellUnit cX5_tellUnit 2 (some .int) : Cond) ∈ lw_tbl := (List.mem_append_right _ (List.mem_append_right _ (List.mem_append_right _ (List.mem_append_right _ (List.mem_append_left _ (List.mem_of_getElem? (i := 119) rfl))))))
set_option maxRecDepth 20000 in
theorem tw_2287 : (.fieldLink RX5 106 "SetHouse$Parser" "loopNext" "I" : Cond) ∈ lw_tbl := (List.mem_append_right _ (List.mem_append_right _ (List.mem_append_left _ (List.mem_of_getElem? (i := 220) rfl))))
set_option maxRecDepth 20000 in
theorem tw_2288 : (.fieldLink RX5 15 "SetHouse$Parser" "later" "[I" : Cond) ∈ lw_tbl := (List.mem_append_right _ (List.mem_append_right _ (List.mem_append_left _ (List.mem_of_getElem? (i := 224) rfl))))
set_option maxRecDepth 20000 in
theorem tw_2289 : (.fieldLink RX5 115 "SetHouse$Parser" "kept" "I" : Cond) ∈ lw_tbl := (List.mem_append_right _ (List.mem_append_right _ (List.mem_append_left _ (List.mem_of_getElem? (i := 225) rfl))))
set_option maxRecDepth 20000 in
theorem tw_2290 : (.methodLink RX5 329 arraycopyName : Cond) ∈ lw_tbl := (List.mem_append_right _ (List.mem_append_right _ (List.mem_append_right _ (List.mem_append_right _ (List.mem_append_right _ (List.mem_append_left _ (List.mem_of_getElem? (i := 135) rfl)))))))
set_option maxRecDepth 20000 in
theorem tw_2291 : (.methodLink RX5 312 yX7_words : Cond) ∈ lw_tbl := (List.mem_append_right _ (List.mem_append_right _ (List.mem_append_right _ (List.mem_append_right _ (List.mem_append_right _ (List.mem_append_left _ (List.mem_of_getElem? (i := 122) rfl)))))))
set_option maxRecDepth 20000 in
theorem tw_2292 : (.instanceMethod yX7_words : Cond) ∈ lw_tbl := (List.mem_append_right _ (List.mem_append_right _ (List.mem_append_right _ (List.mem_append_right _ (List.mem_append_right _ (List.mem_append_left _ (List.mem_of_getElem? (i := 123) rfl)))))))
set_option maxRecDepth 20000 in
theorem tw_2293 : (.selects RX7 yX7_words yX7_words : Cond) ∈ lw_tbl := (List.mem_append_right _ (List.mem_append_right _ (List.mem_append_right _ (List.mem_append_right _ (List.mem_append_right _ (List.mem_append_left _ (List.mem_of_getElem? (i := 124) rfl)))))))
set_option maxRecDepth 20000 in
theorem tw_2294 : (.methodLink RX5 335 yX5_keep : Cond) ∈ lw_tbl := (List.mem_append_right _ (List.mem_append_right _ (List.mem_append_right _ (List.mem_append_right _ (List.mem_append_right _ (List.mem_append_left _ (List.mem_of_getElem? (i := 127) rfl)))))))
set_option maxRecDepth 20000 in
theorem tw_2295 : (.instanceMethod yX5_keep : Cond) ∈ lw_tbl := (List.mem_append_right _ (List.mem_append_right _ (List.mem_append_right _ (List.mem_append_right _ (List.mem_append_right _ (List.mem_append_left _ (List.mem_of_getElem? (i := 129) rfl)))))))
set_option maxRecDepth 20000 in
theorem tw_2296 : (.selects RX5 yX5_keep yX5_keep : Cond) ∈ lw_tbl := (List.mem_append_left _ (List.mem_of_getElem? (i := 53) (by decide +kernel)))
set_option maxRecDepth 20000 in
theorem tw_2297 : (.code yX5_keep cX5_keep 4 none : Cond) ∈ lw_tbl := (List.mem_append_right _ (List.mem_append_right _ (List.mem_append_right _ (List.mem_append_right _ (List.mem_append_right _ (List.mem_append_left _ (List.mem_of_getElem? (i := 130) rfl)))))))
set_option maxRecDepth 20000 in
theorem tw_2298 : (.code yX7_words cX7_words 4 none : Cond) ∈ lw_tbl := (List.mem_append_right _ (List.mem_append_right _ (List.mem_append_right _ (List.mem_append_right _ (List.mem_append_right _ (List.mem_append_left _ (List.mem_of_getElem? (i := 125) rfl)))))))
set_option maxRecDepth 20000 in
theorem tw_2299 : (.methodLink RX5 338 yX7_mode : Cond) ∈ lw_tbl := (List.mem_append_right _ (List.mem_append_right _ (List.mem_append_right _ (List.mem_append_right _ (List.mem_append_right _ (List.mem_append_left _ (List.mem_of_getElem? (i := 114) rfl)))))))
set_option maxRecDepth 20000 in
theorem tw_2300 : (.instanceMethod yX7_mode : Cond) ∈ lw_tbl := (List.mem_append_right _ (List.mem_append_right _ (List.mem_append_right _ (List.mem_append_right _ (List.mem_append_right _ (List.mem_append_left _ (List.mem_of_getElem? (i := 115) rfl)))))))
set_option maxRecDepth 20000 in
theorem tw_2301 : (.selects RX7 yX7_mode yX7_mode : Cond) ∈ lw_tbl := (List.mem_append_right _ (List.mem_append_right _ (List.mem_append_right _ (List.mem_append_right _ (List.mem_append_right _ (List.mem_append_left _ (List.mem_of_getElem? (i := 116) rfl)))))))
set_option maxRecDepth 20000 in
theorem tw_2302 : (.methodLink RX5 344 yX5_keepTarget : Cond) ∈ lw_tbl := (List.mem_append_right _ (List.mem_append_right _ (List.mem_append_right _ (List.mem_append_right _ (List.mem_append_right _ (List.mem_append_left _ (List.mem_of_getElem? (i := 118) rfl)))))))
set_option maxRecDepth 20000 in
theorem tw_2303 : (.instanceMethod yX5_keepTarget : Cond) ∈ lw_tbl := (List.mem_append_right _ (List.mem_append_right _ (List.mem_append_right _ (List.mem_append_right _ (List.mem_append_right _ (List.mem_append_left _ (List.mem_of_getElem? (i := 120) rfl)))))))
set_option maxRecDepth 20000 in
theorem tw_2304 : (.selects RX5 yX5_keepTarget yX5_keepTarget : Cond) ∈ lw_tbl := (List.mem_append_left _ (List.mem_of_getElem? (i := 52) (by decide +kernel)))
set_option maxRecDepth 20000 in
theorem tw_2305 : (.code yX5_keepTarget cX5_keepTarget 6 none : Cond) ∈ lw_tbl := (List.mem_append_right _ (List.mem_append_right _ (List.mem_append_right _ (List.mem_append_right _ (List.mem_append_right _ (List.mem_append_left _ (List.mem_of_getElem? (i := 121) rfl)))))))
set_option maxRecDepth 20000 in
theorem tw_2306 : (.code yX7_mode cX7_mode 3 (some .int) : Cond) ∈ lw_tbl := (List.mem_append_right _ (List.mem_append_right _ (List.mem_append_right _ (List.mem_append_right _ (List.mem_append_right _ (List.mem_append_left _ (List.mem_of_getElem? (i := 117) rfl)))))))
set_option maxRecDepth 20000 in
theorem tw_2307 : (.methodLink RX5 316 yX5_emitTarget : Cond) ∈ lw_tbl := (List.mem_append_right _ (List.mem_append_right _ (List.mem_append_right _ (List.mem_append_right _ (List.mem_append_right _ (List.mem_append_left _ (List.mem_of_getElem? (i := 148) rfl)))))))
set_option maxRecDepth 20000 in
theorem tw_2308 : (.instanceMethod yX5_emitTarget : Cond) ∈ lw_tbl := (List.mem_append_right _ (List.mem_append_right _ (List.mem_append_right _ (List.mem_append_right _ (List.mem_append_right _ (List.mem_append_left _ (List.mem_of_getElem? (i := 150) rfl)))))))
set_option maxRecDepth 20000 in
theorem tw_2309 : (.selects RX5 yX5_emitTarget yX5_emitTarget : Cond) ∈ lw_tbl := (List.mem_append_left _ (List.mem_of_getElem? (i := 57) (by decide +kernel)))
set_option maxRecDepth 20000 in
theorem tw_2310 : (.code yX5_emitTarget cX5_emitTarget 5 none : Cond) ∈ lw_tbl := (List.mem_append_right _ (List.mem_append_right _ (List.mem_append_right _ (List.mem_append_right _ (List.mem_append_right _ (List.mem_append_left _ (List.mem_of_getElem? (i := 151) rfl)))))))
set_option maxRecDepth 20000 in
theorem tw_2311 : (.methodLink RX5 277 yX5_call : Cond) ∈ lw_tbl := (List.mem_append_right _ (List.mem_append_right _ (List.mem_append_right _ (List.mem_append_right _ (List.mem_append_right _ (List.mem_append_left _ (List.mem_of_getElem? (i := 110) rfl)))))))
set_option maxRecDepth 20000 in
theorem tw_2312 : (.instanceMethod yX5_call : Cond) ∈ lw_tbl := (List.mem_append_right _ (List.mem_append_right _ (List.mem_append_right _ (List.mem_append_right _ (List.mem_append_right _ (List.mem_append_left _ (List.mem_of_getElem? (i := 112) rfl)))))))
set_option maxRecDepth 20000 in
theorem tw_2313 : (.selects RX5 yX5_call yX5_call : Cond) ∈ lw_tbl := (List.mem_append_left _ (List.mem_of_getElem? (i := 51) (by decide +kernel)))
set_option maxRecDepth 20000 in
theorem tw_2314 : (.methodLink RX5 280 yX5_target : Cond) ∈ lw_tbl := (List.mem_append_right _ (List.mem_append_right _ (List.mem_append_right _ (List.mem_append_right _ (List.mem_append_right _ (List.mem_append_left _ (List.mem_of_getElem? (i := 136) rfl)))))))
set_option maxRecDepth 20000 in
theorem tw_2315 : (.instanceMethod yX5_target : Cond) ∈ lw_tbl := (List.mem_append_right _ (List.mem_append_right _ (List.mem_append_right _ (List.mem_append_right _ (List.mem_append_right _ (List.mem_append_left _ (List.mem_of_getElem? (i := 138) rfl)))))))
set_option maxRecDepth 20000 in
theorem tw_2316 : (.selects RX5 yX5_target yX5_target : Cond) ∈ lw_tbl := (List.mem_append_left _ (List.mem_of_getElem? (i := 54) (by decide +kernel)))
set_option maxRecDepth 20000 in
theorem tw_2317 : (.methodLink RX5 296 yX5_operation : Cond) ∈ lw_tbl := (List.mem_append_right _ (List.mem_append_right _ (List.mem_append_right _ (List.mem_append_right _ (List.mem_append_right _ (List.mem_append_left _ (List.mem_of_getElem? (i := 156) rfl)))))))
set_option maxRecDepth 20000 in
theorem tw_2318 : (.instanceMethod yX5_operation : Cond) ∈ lw_tbl := (List.mem_append_right _ (List.mem_append_right _ (List.mem_append_right _ (List.mem_append_right _ (List.mem_append_right _ (List.mem_append_left _ (List.mem_of_getElem? (i := 158) rfl)))))))
set_option maxRecDepth 20000 in
theorem tw_2319 : (.selects RX5 yX5_operation yX5_operation : Cond) ∈ lw_tbl := (List.mem_append_left _ (List.mem_of_getElem? (i := 59) (by decide +kernel)))
set_option maxRecDepth 20000 in
theorem tw_2320 : (.methodLink RX5 299 yX5_taking : Cond) ∈ lw_tbl := (List.mem_append_right _ (List.mem_append_right _ (List.mem_append_right _ (List.mem_append_right _ (List.mem_append_right _ (List.mem_append_left _ (List.mem_of_getElem? (i := 160) rfl)))))))
set_option maxRecDepth 20000 in
theorem tw_2321 : (.instanceMethod yX5_taking : Cond) ∈ lw_tbl := (List.mem_append_right _ (List.mem_append_right _ (List.mem_append_right _ (List.mem_append_right _ (List.mem_append_right _ (List.mem_append_left _ (List.mem_of_getElem? (i := 162) rfl)))))))
set_option maxRecDepth 20000 in
theorem tw_2322 : (.selects RX5 yX5_taking yX5_taking : Cond) ∈ lw_tbl := (List.mem_append_left _ (List.mem_of_getElem? (i := 60) (by decide +kernel)))
set_option maxRecDepth 20000 in
theorem tw_2323 : (.methodLink RX5 287 yX5_postponeTarget : Cond) ∈ lw_tbl := (List.mem_append_right _ (List.mem_append_right _ (List.mem_append_right _ (List.mem_append_right _ (List.mem_append_right _ (List.mem_append_left _ (List.mem_of_getElem? (i := 140) rfl)))))))
set_option maxRecDepth 20000 in
theorem tw_2324 : (.instanceMethod yX5_postponeTarget : Cond) ∈ lw_tbl := (List.mem_append_right _ (List.mem_append_right _ (List.mem_append_right _ (List.mem_append_right _ (List.mem_append_right _ (List.mem_append_left _ (List.mem_of_getElem? (i := 142) rfl)))))))
set_option maxRecDepth 20000 in
theorem tw_2325 : (.selects RX5 yX5_postponeTarget yX5_postponeTarget : Cond) ∈ lw_tbl := (List.mem_append_left _ (List.mem_of_getElem? (i := 55) (by decide +kernel)))
set_option maxRecDepth 20000 in
theorem tw_2326 : (.methodLink RX5 290 yX5_assignResult : Cond) ∈ lw_tbl := (List.mem_append_right _ (List.mem_append_right _ (List.mem_append_right _ (List.mem_append_right _ (List.mem_append_right _ (List.mem_append_left _ (List.mem_of_getElem? (i := 144) rfl)))))))
set_option maxRecDepth 20000 in
theorem tw_2327 : (.instanceMethod yX5_assignResult : Cond) ∈ lw_tbl := (List.mem_append_right _ (List.mem_append_right _ (List.mem_append_right _ (List.mem_append_right _ (List.mem_append_right _ (List.mem_append_left _ (List.mem_of_getElem? (i := 146) rfl)))))))
set_option maxRecDepth 20000 in
theorem tw_2328 : (.selects RX5 yX5_assignResult yX5_assignResult : Cond) ∈ lw_tbl := (List.mem_append_left _ (List.mem_of_getElem? (i := 56) (by decide +kernel)))
set_option maxRecDepth 20000 in
theorem tw_2329 : (.methodLink RX5 293 yX5_assignment : Cond) ∈ lw_tbl := (List.mem_append_right _ (List.mem_append_right _ (List.mem_append_right _ (List.mem_append_right _ (List.mem_append_right _ (List.mem_append_left _ (List.mem_of_getElem? (i := 152) rfl)))))))
set_option maxRecDepth 20000 in
theorem tw_2330 : (.instanceMethod yX5_assignment : Cond) ∈ lw_tbl := (List.mem_append_right _ (List.mem_append_right _ (List.mem_append_right _ (List.mem_append_right _ (List.mem_append_right _ (List.mem_append_left _ (List.mem_of_getElem? (i := 154) rfl)))))))
set_option maxRecDepth 20000 in
theorem tw_2331 : (.selects RX5 yX5_assignment yX5_assignment : Cond) ∈ lw_tbl := (List.mem_append_left _ (List.mem_of_getElem? (i := 58) (by decide +kernel)))
set_option maxRecDepth 20000 in
theorem tw_2332 : (.code yX5_assignment cX5_assignment 2 none : Cond) ∈ lw_tbl := (List.mem_append_right _ (List.mem_append_right _ (List.mem_append_right _ (List.mem_append_right _ (List.mem_append_right _ (List.mem_append_left _ (List.mem_of_getElem? (i := 155) rfl)))))))
set_option maxRecDepth 20000 in
theorem tw_2333 : (.code yX5_assignResult cX5_assignResult 4 none : Cond) ∈ lw_tbl := (List.mem_append_right _ (List.mem_append_right _ (List.mem_append_right _ (List.mem_append_right _ (List.mem_append_right _ (List.mem_append_left _ (List.mem_of_getElem? (i := 147) rfl)))))))
set_option maxRecDepth 20000 in
theorem tw_2334 : (.code yX5_postponeTarget cX5_postponeTarget 3 none : Cond) ∈ lw_tbl := (List.mem_append_right _ (List.mem_append_right _ (List.mem_append_right _ (List.mem_append_right _ (List.mem_append_right _ (List.mem_append_left _ (List.mem_of_getElem? (i := 143) rfl)))))))
set_option maxRecDepth 20000 in
theorem tw_2335 : (.code yX5_taking cX5_taking 7 none : Cond) ∈ lw_tbl := (List.mem_append_right _ (List.mem_append_right _ (List.mem_append_right _ (List.mem_append_right _ (List.mem_append_right _ (List.mem_append_left _ (List.mem_of_getElem? (i := 163) rfl)))))))
set_option maxRecDepth 20000 in
theorem tw_2336 : (.code yX5_operation cX5_operation 3 none : Cond) ∈ lw_tbl := (List.mem_append_right _ (List.mem_append_right _ (List.mem_append_right _ (List.mem_append_right _ (List.mem_append_right _ (List.mem_append_left _ (List.mem_of_getElem? (i := 159) rfl)))))))
set_option maxRecDepth 20000 in
theorem tw_2337 : (.code yX5_target cX5_target 6 (some .int) : Cond) ∈ lw_tbl := (List.mem_append_right _ (List.mem_append_right _ (List.mem_append_right _ (List.mem_append_right _ (List.mem_append_right _ (List.mem_append_left _ (List.mem_of_getElem? (i := 139) rfl)))))))
set_option maxRecDepth 20000 in
theorem tw_2338 : (.code yX5_call cX5_call 10 none : Cond) ∈ lw_tbl := (List.mem_append_right _ (List.mem_append_right _ (List.mem_append_right _ (List.mem_append_right _ (List.mem_append_right _ (List.mem_append_left _ (List.mem_of_getElem? (i := 113) rfl)))))))
set_option maxRecDepth 20000 in
theorem tw_2339 : (.methodLink RX5 319 yX5_markNoTarget : Cond) ∈ lw_tbl := (List.mem_append_right _ (List.mem_append_right _ (List.mem_append_right _ (List.mem_append_right _ (List.mem_append_right _ (List.mem_append_left _ (List.mem_of_getElem? (i := 168) rfl)))))))
set_option maxRecDepth 20000 in
theorem tw_2340 : (.instanceMethod yX5_markNoTarget : Cond) ∈ lw_tbl := (List.mem_append_right _ (List.mem_append_right _ (List.mem_append_right _ (List.mem_append_right _ (List.mem_append_right _ (List.mem_append_left _ (List.mem_of_getElem? (i := 170) rfl)))))))
set_option maxRecDepth 20000 in
theorem tw_2341 : (.selects RX5 yX5_markNoTarget yX5_markNoTarget : Cond) ∈ lw_tbl := (List.mem_append_left _ (List.mem_of_getElem? (i := 62) (by decide +kernel)))
set_option maxRecDepth 20000 in
theorem tw_2342 : (.methodLink RX5 322 yX5_writeHoles : Cond) ∈ lw_tbl := (List.mem_append_right _ (List.mem_append_right _ (List.mem_append_right _ (List.mem_append_right _ (List.mem_append_right _ (List.mem_append_left _ (List.mem_of_getElem? (i := 172) rfl)))))))
set_option maxRecDepth 20000 in
theorem tw_2343 : (.instanceMethod yX5_writeHoles : Cond) ∈ lw_tbl := (List.mem_append_right _ (List.mem_append_right _ (List.mem_append_right _ (List.mem_append_right _ (List.mem_append_right _ (List.mem_append_left _ (List.mem_of_getElem? (i := 174) rfl)))))))
set_option maxRecDepth 20000 in
theorem tw_2344 : (.selects RX5 yX5_writeHoles yX5_writeHoles : Cond) ∈ lw_tbl := (List.mem_append_left _ (List.mem_of_getElem? (i := 63) (by decide +kernel)))
set_option maxRecDepth 20000 in
theorem tw_2345 : (.code yX5_writeHoles cX5_writeHoles 7 none : Cond) ∈ lw_tbl := (List.mem_append_right _ (List.mem_append_right _ (List.mem_append_right _ (List.mem_append_right _ (List.mem_append_right _ (List.mem_append_left _ (List.mem_of_getElem? (i := 175) rfl)))))))
set_option maxRecDepth 20000 in
theorem tw_2346 : (.code yX5_markNoTarget cX5_markNoTarget 1 none : Cond) ∈ lw_tbl := (List.mem_append_right _ (List.mem_append_right _ (List.mem_append_right _ (List.mem_append_right _ (List.mem_append_right _ (List.mem_append_left _ (List.mem_of_getElem? (i := 171) rfl)))))))
set_option maxRecDepth 20000 in
theorem tw_2347 : (.fieldLink RX5 109 "SetHouse$Parser" "quits" "I" : Cond) ∈ lw_tbl := (List.mem_append_right _ (List.mem_append_right _ (List.mem_append_left _ (List.mem_of_getElem? (i := 221) rfl))))
set_option maxRecDepth 20000 in
theorem tw_2348 : (.code yX5_block cX5_block 3 none : Cond) ∈ lw_tbl := (List.mem_append_right _ (List.mem_append_right _ (List.mem_append_right _ (List.mem_append_right _ (List.mem_append_right _ (List.mem_append_left _ (List.mem_of_getElem? (i := 93) rfl)))))))
set_option maxRecDepth 20000 in
theorem tw_2349 : (.code yX5_forStatement cX5_forStatement 9 none : Cond) ∈ lw_tbl := (List.mem_append_right _ (List.mem_append_right _ (List.mem_append_right _ (List.mem_append_right _ (List.mem_append_right _ (List.mem_append_left _ (List.mem_of_getElem? (i := 191) rfl)))))))
set_option maxRecDepth 20000 in
theorem tw_2350 : (.code yX5_ifStatement cX5_ifStatement 4 none : Cond) ∈ lw_tbl := (List.mem_append_right _ (List.mem_append_right _ (List.mem_append_right _ (List.mem_append_right _ (List.mem_append_right _ (List.mem_append_left _ (List.mem_of_getElem? (i := 179) rfl)))))))
set_option maxRecDepth 20000 in
theorem tw_2351 : (.code yX5_loopBody cX5_loopBody 4 none : Cond) ∈ lw_tbl := (List.mem_append_right _ (List.mem_append_right _ (List.mem_append_right _ (List.mem_append_right _ (List.mem_append_right _ (List.mem_append_left _ (List.mem_of_getElem? (i := 187) rfl)))))))
set_option maxRecDepth 20000 in
theorem tw_2352 : (.code yX5_statement cX5_statement 2 none : Cond) ∈ lw_tbl := (List.mem_append_right _ (List.mem_append_right _ (List.mem_append_right _ (List.mem_append_right _ (List.mem_append_right _ (List.mem_append_left _ (List.mem_of_getElem? (i := 105) rfl)))))))
set_option maxRecDepth 20000 in
theorem tw_2353 : (.code yX5_whileStatement cX5_whileStatement 3 none : Cond) ∈ lw_tbl := (List.mem_append_right _ (List.mem_append_right _ (List.mem_append_right _ (List.mem_append_right _ (List.mem_append_right _ (List.mem_append_left _ (List.mem_of_getElem? (i := 183) rfl)))))))
set_option maxRecDepth 20000 in
theorem tw_2354 : (.methodLink RX5 205 yX5_beginsStatement : Cond) ∈ lw_tbl := (List.mem_append_right _ (List.mem_append_right _ (List.mem_append_right _ (List.mem_append_right _ (List.mem_append_right _ (List.mem_append_left _ (List.mem_of_getElem? (i := 94) rfl)))))))
set_option maxRecDepth 20000 in
theorem tw_2355 : (.instanceMethod yX5_beginsStatement : Cond) ∈ lw_tbl := (List.mem_append_right _ (List.mem_append_right _ (List.mem_append_right _ (List.mem_append_right _ (List.mem_append_right _ (List.mem_append_left _ (List.mem_of_getElem? (i := 96) rfl)))))))
set_option maxRecDepth 20000 in
theorem tw_2356 : (.selects RX5 yX5_beginsStatement yX5_beginsStatement : Cond) ∈ lw_tbl := (List.mem_append_left _ (List.mem_of_getElem? (i := 47) (by decide +kernel)))
set_option maxRecDepth 20000 in
theorem tw_2357 : (.methodLink RX5 209 yX5_checkStatement : Cond) ∈ lw_tbl := (List.mem_append_right _ (List.mem_append_right _ (List.mem_append_right _ (List.mem_append_right _ (List.mem_append_right _ (List.mem_append_left _ (List.mem_of_getElem? (i := 98) rfl)))))))
set_option maxRecDepth 20000 in
theorem tw_2358 : (.instanceMethod yX5_checkStatement : Cond) ∈ lw_tbl := (List.mem_append_right _ (List.mem_append_right _ (List.mem_append_right _ (List.mem_append_right _ (List.mem_append_right _ (List.mem_append_left _ (List.mem_of_getElem? (i := 100) rfl)))))))
set_option maxRecDepth 20000 in
theorem tw_2359 : (.selects RX5 yX5_checkStatement yX5_checkStatement : Cond) ∈ lw_tbl := (List.mem_append_left _ (List.mem_of_getElem? (i := 48) (by decide +kernel)))
set_option maxRecDepth 20000 in
theorem tw_2360 : (.methodLink RX5 215 yX5_statement : Cond) ∈ lw_tbl := (List.mem_append_right _ (List.mem_append_right _ (List.mem_append_right _ (List.mem_append_right _ (List.mem_append_right _ (List.mem_append_left _ (List.mem_of_getElem? (i := 102) rfl)))))))
set_option maxRecDepth 20000 in
theorem tw_2361 : (.instanceMethod yX5_statement : Cond) ∈ lw_tbl := (List.mem_append_right _ (List.mem_append_right _ (List.mem_append_right _ (List.mem_append_right _ (List.mem_append_right _ (List.mem_append_left _ (List.mem_of_getElem? (i := 104) rfl)))))))
set_option maxRecDepth 20000 in
theorem tw_2362 : (.selects RX5 yX5_statement yX5_statement : Cond) ∈ lw_tbl := (List.mem_append_left _ (List.mem_of_getElem? (i := 49) (by decide +kernel)))
set_option maxRecDepth 20000 in
theorem tw_2363 : (.methodLink RX5 252 yX5_loopBody : Cond) ∈ lw_tbl := (List.mem_append_right _ (List.mem_append_right _ (List.mem_append_right _ (List.mem_append_right _ (List.mem_append_right _ (List.mem_append_left _ (List.mem_of_getElem? (i := 184) rfl)))))))
set_option maxRecDepth 20000 in
theorem tw_2364 : (.instanceMethod yX5_loopBody : Cond) ∈ lw_tbl := (List.mem_append_right _ (List.mem_append_right _ (List.mem_append_right _ (List.mem_append_right _ (List.mem_append_right _ (List.mem_append_left _ (List.mem_of_getElem? (i := 186) rfl)))))))
set_option maxRecDepth 20000 in
theorem tw_2365 : (.selects RX5 yX5_loopBody yX5_loopBody : Cond) ∈ lw_tbl := (List.mem_append_left _ (List.mem_of_getElem? (i := 66) (by decide +kernel)))
set_option maxRecDepth 20000 in
theorem tw_2366 : (.methodLink RX5 58 yX5_block : Cond) ∈ lw_tbl := (List.mem_append_right _ (List.mem_append_right _ (List.mem_append_right _ (List.mem_append_right _ (List.mem_append_right _ (List.mem_append_left _ (List.mem_of_getElem? (i := 90) rfl)))))))
set_option maxRecDepth 20000 in
theorem tw_2367 : (.instanceMethod yX5_block : Cond) ∈ lw_tbl := (List.mem_append_right _ (List.mem_append_right _ (List.mem_append_right _ (List.mem_append_right _ (List.mem_append_right _ (List.mem_append_left _ (List.mem_of_getElem? (i := 92) rfl)))))))
set_option maxRecDepth 20000 in
theorem tw_2368 : (.selects RX5 yX5_block yX5_block : Cond) ∈ lw_tbl := (List.mem_append_left _ (List.mem_of_getElem? (i := 46) (by decide +kernel)))
set_option maxRecDepth 20000 in
theorem tw_2369 : (.methodLink RX5 218 yX5_nameStatement : Cond) ∈ lw_tbl := (List.mem_append_right _ (List.mem_append_right _ (List.mem_append_right _ (List.mem_append_right _ (List.mem_append_right _ (List.mem_append_left _ (List.mem_of_getElem? (i := 106) rfl)))))))
set_option maxRecDepth 20000 in
theorem tw_2370 : (.instanceMethod yX5_nameStatement : Cond) ∈ lw_tbl := (List.mem_append_right _ (List.mem_append_right _ (List.mem_append_right _ (List.mem_append_right _ (List.mem_append_right _ (List.mem_append_left _ (List.mem_of_getElem? (i := 108) rfl)))))))
set_option maxRecDepth 20000 in
theorem tw_2371 : (.selects RX5 yX5_nameStatement yX5_nameStatement : Cond) ∈ lw_tbl := (List.mem_append_left _ (List.mem_of_getElem? (i := 50) (by decide +kernel)))
set_option maxRecDepth 20000 in
theorem tw_2372 : (.methodLink RX5 221 yX5_holesStatement : Cond) ∈ lw_tbl := (List.mem_append_right _ (List.mem_append_right _ (List.mem_append_right _ (List.mem_append_right _ (List.mem_append_right _ (List.mem_append_left _ (List.mem_of_getElem? (i := 164) rfl)))))))
set_option maxRecDepth 20000 in
theorem tw_2373 : (.instanceMethod yX5_holesStatement : Cond) ∈ lw_tbl := (List.mem_append_right _ (List.mem_append_right _ (List.mem_append_right _ (List.mem_append_right _ (List.mem_append_right _ (List.mem_append_left _ (List.mem_of_getElem? (i := 166) rfl)))))))
set_option maxRecDepth 20000 in
theorem tw_2374 : (.selects RX5 yX5_holesStatement yX5_holesStatement : Cond) ∈ lw_tbl := (List.mem_append_left _ (List.mem_of_getElem? (i := 61) (by decide +kernel)))
set_option maxRecDepth 20000 in
theorem tw_2375 : (.methodLink RX5 224 yX5_ifStatement : Cond) ∈ lw_tbl := (List.mem_append_right _ (List.mem_append_right _ (List.mem_append_right _ (List.mem_append_right _ (List.mem_append_right _ (List.mem_append_left _ (List.mem_of_getElem? (i := 176) rfl)))))))
set_option maxRecDepth 20000 in
theorem tw_2376 : (.instanceMethod yX5_ifStatement : Cond) ∈ lw_tbl := (List.mem_append_right _ (List.mem_append_right _ (List.mem_append_right _ (List.mem_append_right _ (List.mem_append_right _ (List.mem_append_left _ (List.mem_of_getElem? (i := 178) rfl)))))))
set_option maxRecDepth 20000 in
theorem tw_2377 : (.selects RX5 yX5_ifStatement yX5_ifStatement : Cond) ∈ lw_tbl := (List.mem_append_left _ (List.mem_of_getElem? (i := 64) (by decide +kernel)))
set_option maxRecDepth 20000 in
theorem tw_2378 : (.methodLink RX5 227 yX5_whileStatement : Cond) ∈ lw_tbl := (List.mem_append_right _ (List.mem_append_right _ (List.mem_append_right _ (List.mem_append_right _ (List.mem_append_right _ (List.mem_append_left _ (List.mem_of_getElem? (i := 180) rfl)))))))
set_option maxRecDepth 20000 in
theorem tw_2379 : (.instanceMethod yX5_whileStatement : Cond) ∈ lw_tbl := (List.mem_append_right _ (List.mem_append_right _ (List.mem_append_right _ (List.mem_append_right _ (List.mem_append_right _ (List.mem_append_left _ (List.mem_of_getElem? (i := 182) rfl)))))))
set_option maxRecDepth 20000 in
theorem tw_2380 : (.selects RX5 yX5_whileStatement yX5_whileStatement : Cond) ∈ lw_tbl := (List.mem_append_left _ (List.mem_of_getElem? (i := 65) (by decide +kernel)))
set_option maxRecDepth 20000 in
theorem tw_2381 : (.methodLink RX5 230 yX5_forStatement : Cond) ∈ lw_tbl := (List.mem_append_right _ (List.mem_append_right _ (List.mem_append_right _ (List.mem_append_right _ (List.mem_append_right _ (List.mem_append_left _ (List.mem_of_getElem? (i := 188) rfl)))))))
set_option maxRecDepth 20000 in
theorem tw_2382 : (.instanceMethod yX5_forStatement : Cond) ∈ lw_tbl := (List.mem_append_right _ (List.mem_append_right _ (List.mem_append_right _ (List.mem_append_right _ (List.mem_append_right _ (List.mem_append_left _ (List.mem_of_getElem? (i := 190) rfl)))))))
set_option maxRecDepth 20000 in
theorem tw_2383 : (.selects RX5 yX5_forStatement yX5_forStatement : Cond) ∈ lw_tbl := (List.mem_append_left _ (List.mem_of_getElem? (i := 67) (by decide +kernel)))
set_option maxRecDepth 20000 in
theorem tw_2384 : (.methodLink RX5 237 yX5_plainStatement : Cond) ∈ lw_tbl := (List.mem_append_right _ (List.mem_append_right _ (List.mem_append_right _ (List.mem_append_right _ (List.mem_append_right _ (List.mem_append_left _ (List.mem_of_getElem? (i := 192) rfl)))))))
set_option maxRecDepth 20000 in
theorem tw_2385 : (.instanceMethod yX5_plainStatement : Cond) ∈ lw_tbl := (List.mem_append_right _ (List.mem_append_right _ (List.mem_append_right _ (List.mem_append_right _ (List.mem_append_right _ (List.mem_append_left _ (List.mem_of_getElem? (i := 194) rfl)))))))
set_option maxRecDepth 20000 in
theorem tw_2386 : (.selects RX5 yX5_plainStatement yX5_plainStatement : Cond) ∈ lw_tbl := (List.mem_append_left _ (List.mem_of_getElem? (i := 68) (by decide +kernel)))
set_option maxRecDepth 20000 in
theorem tw_2387 : (.code yX5_plainStatement cX5_plainStatement 2 none : Cond) ∈ lw_tbl := (List.mem_append_right _ (List.mem_append_right _ (List.mem_append_right _ (List.mem_append_right _ (List.mem_append_right _ (List.mem_append_left _ (List.mem_of_getElem? (i := 195) rfl)))))))
set_option maxRecDepth 20000 in
theorem tw_2388 : (.code yX5_holesStatement cX5_holesStatement 7 none : Cond) ∈ lw_tbl := (List.mem_append_right _ (List.mem_append_right _ (List.mem_append_right _ (List.mem_append_right _ (List.mem_append_right _ (List.mem_append_left _ (List.mem_of_getElem? (i := 167) rfl)))))))
set_option maxRecDepth 20000 in
theorem tw_2389 : (.code yX5_nameStatement cX5_nameStatement 7 none : Cond) ∈ lw_tbl := (List.mem_append_right _ (List.mem_append_right _ (List.mem_append_right _ (List.mem_append_right _ (List.mem_append_right _ (List.mem_append_left _ (List.mem_of_getElem? (i := 109) rfl)))))))
set_option maxRecDepth 20000 in
theorem tw_2390 : (.code yX5_checkStatement cX5_checkStatement 4 none : Cond) ∈ lw_tbl := (List.mem_append_right _ (List.mem_append_right _ (List.mem_append_right _ (List.mem_append_right _ (List.mem_append_right _ (List.mem_append_left _ (List.mem_of_getElem? (i := 101) rfl)))))))
set_option maxRecDepth 20000 in
theorem tw_2391 : (.code yX5_beginsStatement cX5_beginsStatement 1 (some .boolean) : Cond) ∈ lw_tbl := (List.mem_append_right _ (List.mem_append_right _ (List.mem_append_right _ (List.mem_append_right _ (List.mem_append_right _ (List.mem_append_left _ (List.mem_of_getElem? (i := 97) rfl)))))))
set_option maxRecDepth 20000 in
theorem tw_2392 : (.methodLink RX5 195 yX5_modeAndParameter : Cond) ∈ lw_tbl := (List.mem_append_right _ (List.mem_append_right _ (List.mem_append_right _ (List.mem_append_right _ (List.mem_append_right _ (List.mem_append_left _ (List.mem_of_getElem? (i := 86) rfl)))))))
set_option maxRecDepth 20000 in
theorem tw_2393 : (.instanceMethod yX5_modeAndParameter : Cond) ∈ lw_tbl := (List.mem_append_right _ (List.mem_append_right _ (List.mem_append_right _ (List.mem_append_right _ (List.mem_append_right _ (List.mem_append_left _ (List.mem_of_getElem? (i := 88) rfl)))))))
set_option maxRecDepth 20000 in
theorem tw_2394 : (.selects RX5 yX5_modeAndParameter yX5_modeAndParameter : Cond) ∈ lw_tbl := (List.mem_append_left _ (List.mem_of_getElem? (i := 45) (by decide +kernel)))
set_option maxRecDepth 20000 in
theorem tw_2395 : (.methodLink RX5 40 yX5_variables : Cond) ∈ lw_tbl := (List.mem_append_right _ (List.mem_append_right _ (List.mem_append_right _ (List.mem_append_right _ (List.mem_append_left _ (List.mem_of_getElem? (i := 79) rfl))))))
set_option maxRecDepth 20000 in
theorem tw_2396 : (.instanceMethod yX5_variables : Cond) ∈ lw_tbl := (List.mem_append_right _ (List.mem_append_right _ (List.mem_append_right _ (List.mem_append_right _ (List.mem_append_left _ (List.mem_of_getElem? (i := 81) rfl))))))
set_option maxRecDepth 20000 in
theorem tw_2397 : (.selects RX5 yX5_variables yX5_variables : Cond) ∈ lw_tbl := (List.mem_append_left _ (List.mem_of_getElem? (i := 3) (by decide +kernel)))
set_option maxRecDepth 20000 in
theorem tw_2398 : (.code yX5_variables cX5_variables 3 none : Cond) ∈ lw_tbl := (List.mem_append_right _ (List.mem_append_right _ (List.mem_append_right _ (List.mem_append_right _ (List.mem_append_left _ (List.mem_of_getElem? (i := 82) rfl))))))
set_option maxRecDepth 20000 in
theorem tw_2399 : (.code yX5_modeAndParameter cX5_modeAndParameter 4 none : Cond) ∈ lw_tbl := (List.mem_append_right _ (List.mem_append_right _ (List.mem_append_right _ (List.mem_append_right _ (List.mem_append_right _ (List.mem_append_left _ (List.mem_of_getElem? (i := 89) rfl)))))))
set_option maxRecDepth 20000 in
theorem tw_2400 : (.fieldLink RX7 60 "SetHouse$Program" "statements" "I" : Cond) ∈ lw_tbl := (List.mem_append_right _ (List.mem_append_right _ (List.mem_append_right _ (List.mem_append_left _ (List.mem_of_getElem? (i := 52) rfl)))))
set_option maxRecDepth 20000 in
theorem tw_2401 : (.fieldLink RX7 63 "SetHouse$Program" "procs" "I" : Cond) ∈ lw_tbl := (List.mem_append_right _ (List.mem_append_right _ (List.mem_append_right _ (List.mem_append_left _ (List.mem_of_getElem? (i := 55) rfl)))))
set_option maxRecDepth 20000 in
theorem tw_2402 : (.methodLink RX7 72 yX7_openUnit : Cond) ∈ lw_tbl := (List.mem_append_right _ (List.mem_append_right _ (List.mem_append_right _ (List.mem_append_left _ (List.mem_of_getElem? (i := 142) rfl)))))
set_option maxRecDepth 20000 in
theorem tw_2403 : (.methodLink RX5 121 yX2_rewind : Cond) ∈ lw_tbl := (List.mem_append_right _ (List.mem_append_right _ (List.mem_append_right _ (List.mem_append_left _ (List.mem_of_getElem? (i := 220) rfl)))))
set_option maxRecDepth 20000 in
theorem tw_2404 : (.instanceMethod yX2_rewind : Cond) ∈ lw_tbl := (List.mem_append_right _ (List.mem_append_right _ (List.mem_append_right _ (List.mem_append_left _ (List.mem_of_getElem? (i := 221) rfl)))))
set_option maxRecDepth 20000 in
theorem tw_2405 : (.selects RX2 yX2_rewind yX2_rewind : Cond) ∈ lw_tbl := (List.mem_append_right _ (List.mem_append_right _ (List.mem_append_right _ (List.mem_append_left _ (List.mem_of_getElem? (i := 222) rfl)))))
set_option maxRecDepth 20000 in
theorem tw_2406 : (.code yX2_rewind cX2_rewind 1 none : Cond) ∈ lw_tbl := (List.mem_append_right _ (List.mem_append_right _ (List.mem_append_right _ (List.mem_append_left _ (List.mem_of_getElem? (i := 223) rfl)))))
set_option maxRecDepth 20000 in
theorem tw_2407 : (.methodLink RX5 26 yX5_begin : Cond) ∈ lw_tbl := (List.mem_append_right _ (List.mem_append_right _ (List.mem_append_right _ (List.mem_append_left _ (List.mem_of_getElem? (i := 216) rfl)))))
set_option maxRecDepth 20000 in
theorem tw_2408 : (.instanceMethod yX5_begin : Cond) ∈ lw_tbl := (List.mem_append_right _ (List.mem_append_right _ (List.mem_append_right _ (List.mem_append_left _ (List.mem_of_getElem? (i := 218) rfl)))))
set_option maxRecDepth 20000 in
theorem tw_2409 : (.selects RX5 yX5_begin yX5_begin : Cond) ∈ lw_tbl := (List.mem_append_left _ (List.mem_of_getElem? (i := 0) (by decide +kernel)))
set_option maxRecDepth 20000 in
theorem tw_2410 : (.methodLink RX5 72 yX5_noteFault : Cond) ∈ lw_tbl := (List.mem_append_right _ (List.mem_append_right _ (List.mem_append_right _ (List.mem_append_right _ (List.mem_append_right _ (List.mem_append_left _ (List.mem_of_getElem? (i := 196) rfl)))))))
set_option maxRecDepth 20000 in
theorem tw_2411 : (.instanceMethod yX5_noteFault : Cond) ∈ lw_tbl := (List.mem_append_right _ (List.mem_append_right _ (List.mem_append_right _ (List.mem_append_right _ (List.mem_append_right _ (List.mem_append_left _ (List.mem_of_getElem? (i := 198) rfl)))))))
set_option maxRecDepth 20000 in
theorem tw_2412 : (.selects RX5 yX5_noteFault yX5_noteFault : Cond) ∈ lw_tbl := (List.mem_append_left _ (List.mem_of_getElem? (i := 69) (by decide +kernel)))
set_option maxRecDepth 20000 in
theorem tw_2413 : (.methodLink RX5 44 yX5_function : Cond) ∈ lw_tbl := (List.mem_append_right _ (List.mem_append_right _ (List.mem_append_right _ (List.mem_append_right _ (List.mem_append_left _ (List.mem_of_getElem? (i := 112) rfl))))))
set_option maxRecDepth 20000 in
theorem tw_2414 : (.instanceMethod yX5_function : Cond) ∈ lw_tbl := (List.mem_append_right _ (List.mem_append_right _ (List.mem_append_right _ (List.mem_append_right _ (List.mem_append_left _ (List.mem_of_getElem? (i := 114) rfl))))))
set_option maxRecDepth 20000 in
theorem tw_2415 : (.selects RX5 yX5_function yX5_function : Cond) ∈ lw_tbl := (List.mem_append_left _ (List.mem_of_getElem? (i := 8) (by decide +kernel)))
set_option maxRecDepth 20000 in
theorem tw_2416 : (.methodLink RX5 47 yX5_procedure : Cond) ∈ lw_tbl := (List.mem_append_right _ (List.mem_append_right _ (List.mem_append_right _ (List.mem_append_right _ (List.mem_append_right _ (List.mem_append_left _ (List.mem_of_getElem? (i := 82) rfl)))))))
set_option maxRecDepth 20000 in
theorem tw_2417 : (.instanceMethod yX5_procedure : Cond) ∈ lw_tbl := (List.mem_append_right _ (List.mem_append_right _ (List.mem_append_right _ (List.mem_append_right _ (List.mem_append_right _ (List.mem_append_left _ (List.mem_of_getElem? (i := 84) rfl)))))))
set_option maxRecDepth 20000 in
theorem tw_2418 : (.selects RX5 yX5_procedure yX5_procedure : Cond) ∈ lw_tbl := (List.mem_append_left _ (List.mem_of_getElem? (i := 44) (by decide +kernel)))
set_option maxRecDepth 20000 in
theorem tw_2419 : (.code yX5_procedure cX5_procedure 3 none : Cond) ∈ lw_tbl := (List.mem_append_right _ (List.mem_append_right _ (List.mem_append_right _ (List.mem_append_right _ (List.mem_append_right _ (List.mem_append_left _ (List.mem_of_getElem? (i := 85) rfl)))))))
set_option maxRecDepth 20000 in
theorem tw_2420 : (.code yX5_function cX5_function 3 none : Cond) ∈ lw_tbl := (List.mem_append_right _ (List.mem_append_right _ (List.mem_append_right _ (List.mem_append_right _ (List.mem_append_left _ (List.mem_of_getElem? (i := 115) rfl))))))
set_option maxRecDepth 20000 in
theorem tw_2421 : (.code yX5_noteFault cX5_noteFault 1 none : Cond) ∈ lw_tbl := (List.mem_append_right _ (List.mem_append_right _ (List.mem_append_right _ (List.mem_append_right _ (List.mem_append_right _ (List.mem_append_left _ (List.mem_of_getElem? (i := 199) rfl)))))))
set_option maxRecDepth 20000 in
theorem tw_2422 : (.code yX5_begin cX5_begin 4 none : Cond) ∈ lw_tbl := (List.mem_append_right _ (List.mem_append_right _ (List.mem_append_right _ (List.mem_append_left _ (List.mem_of_getElem? (i := 219) rfl)))))
set_option maxRecDepth 20000 in
theorem tw_2423 : (.fieldLink RX11 92 "SetHouse" "other" "LSetHouse$Program;" : Cond) ∈ lw_tbl := (List.mem_append_right _ (List.mem_append_right _ (List.mem_append_right _ (List.mem_append_left _ (List.mem_of_getElem? (i := 155) rfl)))))
set_option maxRecDepth 20000 in
theorem tw_2424 : (.methodLink RX11 111 yX7_emptyBehind : Cond) ∈ lw_tbl := (List.mem_append_right _ (List.mem_append_right _ (List.mem_append_right _ (List.mem_append_left _ (List.mem_of_getElem? (i := 138) rfl)))))
set_option maxRecDepth 20000 in
theorem tw_2425 : (.instanceMethod yX7_emptyBehind : Cond) ∈ lw_tbl := (List.mem_append_right _ (List.mem_append_right _ (List.mem_append_right _ (List.mem_append_left _ (List.mem_of_getElem? (i := 139) rfl)))))
set_option maxRecDepth 20000 in
theorem tw_2426 : (.selects RX7 yX7_emptyBehind yX7_emptyBehind : Cond) ∈ lw_tbl := (List.mem_append_right _ (List.mem_append_right _ (List.mem_append_right _ (List.mem_append_left _ (List.mem_of_getElem? (i := 140) rfl)))))
set_option maxRecDepth 20000 in
theorem tw_2427 : (.fieldLink RX11 81 "SetHouse" "parser" "LSetHouse$Parser;" : Cond) ∈ lw_tbl := (List.mem_append_right _ (List.mem_append_right _ (List.mem_append_right _ (List.mem_append_left _ (List.mem_of_getElem? (i := 153) rfl)))))
set_option maxRecDepth 20000 in
theorem tw_2428 : (.methodLink RX11 130 yX5_readProgram : Cond) ∈ lw_tbl := (List.mem_append_right _ (List.mem_append_right _ (List.mem_append_right _ (List.mem_append_left _ (List.mem_of_getElem? (i := 211) rfl)))))
set_option maxRecDepth 20000 in
theorem tw_2429 : (.instanceMethod yX5_readProgram : Cond) ∈ lw_tbl := (List.mem_append_right _ (List.mem_append_right _ (List.mem_append_right _ (List.mem_append_left _ (List.mem_of_getElem? (i := 212) rfl)))))
set_option maxRecDepth 20000 in
theorem tw_2430 : (.selects RX5 yX5_readProgram yX5_readProgram : Cond) ∈ lw_tbl := (List.mem_append_right _ (List.mem_append_right _ (List.mem_append_right _ (List.mem_append_left _ (List.mem_of_getElem? (i := 213) rfl)))))
set_option maxRecDepth 20000 in
theorem tw_2431 : (.methodLink RX11 149 yX7_moveDown : Cond) ∈ lw_tbl := (List.mem_append_right _ (List.mem_append_right _ (List.mem_append_right _ (List.mem_append_right _ (List.mem_append_right _ (List.mem_append_left _ (List.mem_of_getElem? (i := 200) rfl)))))))
set_option maxRecDepth 20000 in
theorem tw_2432 : (.instanceMethod yX7_moveDown : Cond) ∈ lw_tbl := (List.mem_append_right _ (List.mem_append_right _ (List.mem_append_right _ (List.mem_append_right _ (List.mem_append_right _ (List.mem_append_left _ (List.mem_of_getElem? (i := 201) rfl)))))))
set_option maxRecDepth 20000 in
theorem tw_2433 : (.selects RX7 yX7_moveDown yX7_moveDown : Cond) ∈ lw_tbl := (List.mem_append_right _ (List.mem_append_right _ (List.mem_append_right _ (List.mem_append_right _ (List.mem_append_right _ (List.mem_append_left _ (List.mem_of_getElem? (i := 202) rfl)))))))
set_option maxRecDepth 20000 in
theorem tw_2434 : (.fieldLink RX11 152 "SetHouse" "hasProgram" "Z" : Cond) ∈ lw_tbl := (List.mem_append_right _ (List.mem_append_right _ (List.mem_append_right _ (List.mem_append_left _ (List.mem_of_getElem? (i := 156) rfl)))))
set_option maxRecDepth 20000 in
theorem tw_2435 : (.code yX7_moveDown cX7_moveDown 3 none : Cond) ∈ lw_tbl := (List.mem_append_right _ (List.mem_append_right _ (List.mem_append_right _ (List.mem_append_right _ (List.mem_append_right _ (List.mem_append_left _ (List.mem_of_getElem? (i := 203) rfl)))))))
set_option maxRecDepth 20000 in
theorem tw_2436 : (.codeWith yX5_readProgram cX5_readProgram 3 (some .boolean) [(7, 120, 121, 70)] : Cond) ∈ lw_tbl := (List.mem_append_right _ (List.mem_append_right _ (List.mem_append_right _ (List.mem_append_left _ (List.mem_of_getElem? (i := 214) rfl)))))
set_option maxRecDepth 20000 in
theorem tw_2437 : (.code yX7_emptyBehind cX7_emptyBehind 2 none : Cond) ∈ lw_tbl := (List.mem_append_right _ (List.mem_append_right _ (List.mem_append_right _ (List.mem_append_left _ (List.mem_of_getElem? (i := 141) rfl)))))
set_option maxRecDepth 20000 in
theorem tw_2438 : (.fieldLink RX3 185 "SetHouse$Machine" "workDone" "I" : Cond) ∈ lw_tbl := (List.mem_append_right _ (List.mem_append_right _ (List.mem_append_left _ (List.mem_of_getElem? (i := 68) rfl))))
set_option maxRecDepth 20000 in
theorem tw_2439 : (.fieldLink RX11 95 "SetHouse" "viewEntries" "[I" : Cond) ∈ lw_tbl := (List.mem_append_right _ (List.mem_append_right _ (List.mem_append_right _ (List.mem_append_left _ (List.mem_of_getElem? (i := 160) rfl)))))
set_option maxRecDepth 20000 in
theorem tw_2440 : (.methodLink RX11 301 yX3_evaluate : Cond) ∈ lw_tbl := (List.mem_append_right _ (List.mem_append_right _ (List.mem_append_right _ (List.mem_append_right _ (List.mem_append_right _ (List.mem_append_right _ (List.mem_append_right _ (List.mem_append_right _ (List.mem_append_right _ (List.mem_append_right _ (List.mem_append_left _ (List.mem_of_getElem? (i := 6) rfl))))))))))))
set_option maxRecDepth 20000 in
theorem tw_2441 : (.instanceMethod yX3_evaluate : Cond) ∈ lw_tbl := (List.mem_append_right _ (List.mem_append_right _ (List.mem_append_right _ (List.mem_append_right _ (List.mem_append_right _ (List.mem_append_right _ (List.mem_append_right _ (List.mem_append_right _ (List.mem_append_right _ (List.mem_append_right _ (List.mem_append_left _ (List.mem_of_getElem? (i := 7) rfl))))))))))))
set_option maxRecDepth 20000 in
theorem tw_2442 : (.selects RX3 yX3_evaluate yX3_evaluate : Cond) ∈ lw_tbl := (List.mem_append_right _ (List.mem_append_right _ (List.mem_append_right _ (List.mem_append_right _ (List.mem_append_right _ (List.mem_append_right _ (List.mem_append_right _ (List.mem_append_right _ (List.mem_append_right _ (List.mem_append_right _ (List.mem_append_left _ (List.mem_of_getElem? (i := 8) rfl))))))))))))
set_option maxRecDepth 20000 in
theorem tw_2443 : (.methodLink RX11 307 yX11_isError : Cond) ∈ lw_tbl := (List.mem_append_right _ (List.mem_append_right _ (List.mem_append_right _ (List.mem_append_right _ (List.mem_append_right _ (List.mem_append_right _ (List.mem_append_right _ (List.mem_append_right _ (List.mem_append_right _ (List.mem_append_right _ (List.mem_append_left _ (List.mem_of_getElem? (i := 10) rfl))))))))))))
set_option maxRecDepth 20000 in
theorem tw_2444 : (.constant RX11 106 (-2147483648) : Cond) ∈ lw_tbl := (List.mem_append_right _ (List.mem_append_right _ (List.mem_append_right _ (List.mem_append_left _ (List.mem_of_getElem? (i := 134) rfl)))))
set_option maxRecDepth 20000 in
theorem tw_2445 : (.methodLink RX11 311 yX3_makeRoom : Cond) ∈ lw_tbl := (List.mem_append_right _ (List.mem_append_right _ (List.mem_append_right _ (List.mem_append_right _ (List.mem_append_right _ (List.mem_append_right _ (List.mem_append_right _ (List.mem_append_right _ (List.mem_append_right _ (List.mem_append_right _ (List.mem_append_left _ (List.mem_of_getElem? (i := 25) rfl))))))))))))
set_option maxRecDepth 20000 in
theorem tw_2446 : (.methodLink RX11 314 yX11_renew : Cond) ∈ lw_tbl := (List.mem_append_right _ (List.mem_append_right _ (List.mem_append_right _ (List.mem_append_right _ (List.mem_append_right _ (List.mem_append_right _ (List.mem_append_right _ (List.mem_append_right _ (List.mem_append_right _ (List.mem_append_right _ (List.mem_append_left _ (List.mem_of_getElem? (i := 26) rfl))))))))))))
set_option maxRecDepth 20000 in
theorem tw_2447 : (.instanceMethod yX11_renew : Cond) ∈ lw_tbl := (List.mem_append_right _ (List.mem_append_right _ (List.mem_append_right _ (List.mem_append_right _ (List.mem_append_right _ (List.mem_append_right _ (List.mem_append_right _ (List.mem_append_right _ (List.mem_append_right _ (List.mem_append_right _ (List.mem_append_left _ (List.mem_of_getElem? (i := 28) rfl))))))))))))
set_option maxRecDepth 20000 in
theorem tw_2448 : (.selects RX11 yX11_renew yX11_renew : Cond) ∈ lw_tbl := (List.mem_append_left _ (List.mem_of_getElem? (i := 182) (by decide +kernel)))
set_option maxRecDepth 20000 in
theorem tw_2449 : (.fieldLink RX11 98 "SetHouse" "viewSeen" "[Z" : Cond) ∈ lw_tbl := (List.mem_append_right _ (List.mem_append_right _ (List.mem_append_right _ (List.mem_append_left _ (List.mem_of_getElem? (i := 161) rfl)))))
set_option maxRecDepth 20000 in
theorem tw_2450 : (.code yX11_renew cX11_renew 6 (some .boolean) : Cond) ∈ lw_tbl := (List.mem_append_right _ (List.mem_append_right _ (List.mem_append_right _ (List.mem_append_right _ (List.mem_append_right _ (List.mem_append_right _ (List.mem_append_right _ (List.mem_append_right _ (List.mem_append_right _ (List.mem_append_right _ (List.mem_append_left _ (List.mem_of_getElem? (i := 29) rfl))))))))))))
set_option maxRecDepth 20000 in
theorem tw_2451 : (.code yX3_evaluate cX3_evaluate 9 (some .int) : Cond) ∈ lw_tbl := (List.mem_append_right _ (List.mem_append_right _ (List.mem_append_right _ (List.mem_append_right _ (List.mem_append_right _ (List.mem_append_right _ (List.mem_append_right _ (List.mem_append_right _ (List.mem_append_right _ (List.mem_append_right _ (List.mem_append_left _ (List.mem_of_getElem? (i := 9) rfl))))))))))))
set_option maxRecDepth 20000 in
theorem tw_2452 : (.methodLink RX11 231 Lib.Math.min.name : Cond) ∈ lw_tbl := (List.mem_append_right _ (List.mem_append_right _ (List.mem_append_right _ (List.mem_append_right _ (List.mem_append_right _ (List.mem_append_right _ (List.mem_append_right _ (List.mem_append_right _ (List.mem_append_right _ (List.mem_append_left _ (List.mem_of_getElem? (i := 231) rfl)))))))))))
set_option maxRecDepth 20000 in
theorem tw_2453 : (.fieldLink RX11 43 "SetHouse" "printer" "LSetHouse$Printer;" : Cond) ∈ lw_tbl := (List.mem_append_right _ (List.mem_append_right _ (List.mem_append_right _ (List.mem_append_left _ (List.mem_of_getElem? (i := 148) rfl)))))
set_option maxRecDepth 20000 in
theorem tw_2454 : (.methodLink RX11 237 yX6_print : Cond) ∈ lw_tbl := (List.mem_append_right _ (List.mem_append_right _ (List.mem_append_right _ (List.mem_append_right _ (List.mem_append_right _ (List.mem_append_right _ (List.mem_append_right _ (List.mem_append_right _ (List.mem_append_right _ (List.mem_append_left _ (List.mem_of_getElem? (i := 232) rfl)))))))))))
set_option maxRecDepth 20000 in
theorem tw_2455 : (.fieldLink RX11 241 "SetHouse" "shownLength" "I" : Cond) ∈ lw_tbl := (List.mem_append_right _ (List.mem_append_right _ (List.mem_append_right _ (List.mem_append_left _ (List.mem_of_getElem? (i := 163) rfl)))))
set_option maxRecDepth 20000 in
theorem tw_2456 : (.fieldLink RX11 102 "SetHouse" "shownText" "[B" : Cond) ∈ lw_tbl := (List.mem_append_right _ (List.mem_append_right _ (List.mem_append_right _ (List.mem_append_left _ (List.mem_of_getElem? (i := 162) rfl)))))
set_option maxRecDepth 20000 in
theorem tw_2457 : (.methodLink RX11 244 yX11_widenedBytes : Cond) ∈ lw_tbl := (List.mem_append_right _ (List.mem_append_right _ (List.mem_append_right _ (List.mem_append_right _ (List.mem_append_right _ (List.mem_append_right _ (List.mem_append_right _ (List.mem_append_right _ (List.mem_append_right _ (List.mem_append_left _ (List.mem_of_getElem? (i := 233) rfl)))))))))))
set_option maxRecDepth 20000 in
theorem tw_2458 : (.methodLink RX11 251 arraycopyName : Cond) ∈ lw_tbl := (List.mem_append_right _ (List.mem_append_right _ (List.mem_append_right _ (List.mem_append_right _ (List.mem_append_right _ (List.mem_append_right _ (List.mem_append_right _ (List.mem_append_right _ (List.mem_append_right _ (List.mem_append_left _ (List.mem_of_getElem? (i := 234) rfl)))))))))))
set_option maxRecDepth 20000 in
theorem tw_2459 : (.methodLink RX11 291 yX11_showValue : Cond) ∈ lw_tbl := (List.mem_append_right _ (List.mem_append_right _ (List.mem_append_right _ (List.mem_append_right _ (List.mem_append_right _ (List.mem_append_right _ (List.mem_append_right _ (List.mem_append_right _ (List.mem_append_right _ (List.mem_append_left _ (List.mem_of_getElem? (i := 227) rfl)))))))))))
set_option maxRecDepth 20000 in
theorem tw_2460 : (.instanceMethod yX11_showValue : Cond) ∈ lw_tbl := (List.mem_append_right _ (List.mem_append_right _ (List.mem_append_right _ (List.mem_append_right _ (List.mem_append_right _ (List.mem_append_right _ (List.mem_append_right _ (List.mem_append_right _ (List.mem_append_right _ (List.mem_append_left _ (List.mem_of_getElem? (i := 229) rfl)))))))))))
set_option maxRecDepth 20000 in
theorem tw_2461 : (.selects RX11 yX11_showValue yX11_showValue : Cond) ∈ lw_tbl := (List.mem_append_left _ (List.mem_of_getElem? (i := 181) (by decide +kernel)))
set_option maxRecDepth 20000 in
theorem tw_2462 : (.code yX11_showValue cX11_showValue 2 (some .int) : Cond) ∈ lw_tbl := (List.mem_append_right _ (List.mem_append_right _ (List.mem_append_right _ (List.mem_append_right _ (List.mem_append_right _ (List.mem_append_right _ (List.mem_append_right _ (List.mem_append_right _ (List.mem_append_right _ (List.mem_append_left _ (List.mem_of_getElem? (i := 230) rfl)))))))))))
set_option maxRecDepth 20000 in
theorem tw_2463 : (.fieldLink RX11 298 "SetHouse" "latestWork" "I" : Cond) ∈ lw_tbl := (List.mem_append_right _ (List.mem_append_right _ (List.mem_append_right _ (List.mem_append_left _ (List.mem_of_getElem? (i := 165) rfl)))))
set_option maxRecDepth 20000 in
theorem tw_2464 : (.methodLink RX11 329 yX1_size : Cond) ∈ lw_tbl := (List.mem_append_right _ (List.mem_append_right _ (List.mem_append_right _ (List.mem_append_right _ (List.mem_append_right _ (List.mem_append_right _ (List.mem_append_right _ (List.mem_append_right _ (List.mem_append_right _ (List.mem_append_right _ (List.mem_append_left _ (List.mem_of_getElem? (i := 54) rfl))))))))))))
set_option maxRecDepth 20000 in
theorem tw_2465 : (.methodLink RX11 331 yX1_length : Cond) ∈ lw_tbl := (List.mem_append_right _ (List.mem_append_right _ (List.mem_append_right _ (List.mem_append_right _ (List.mem_append_right _ (List.mem_append_right _ (List.mem_append_right _ (List.mem_append_right _ (List.mem_append_right _ (List.mem_append_right _ (List.mem_append_left _ (List.mem_of_getElem? (i := 55) rfl))))))))))))
set_option maxRecDepth 20000 in
theorem tw_2466 : (.methodLink RX3 66 yX9_empty : Cond) ∈ lw_tbl := (List.mem_append_right _ (List.mem_append_right _ (List.mem_append_right _ (List.mem_append_right _ (List.mem_append_right _ (List.mem_append_right _ (List.mem_append_left _ (List.mem_of_getElem? (i := 51) rfl))))))))
set_option maxRecDepth 20000 in
theorem tw_2467 : (.instanceMethod yX9_empty : Cond) ∈ lw_tbl := (List.mem_append_right _ (List.mem_append_right _ (List.mem_append_right _ (List.mem_append_right _ (List.mem_append_right _ (List.mem_append_right _ (List.mem_append_left _ (List.mem_of_getElem? (i := 52) rfl))))))))
set_option maxRecDepth 20000 in
theorem tw_2468 : (.selects RX9 yX9_empty yX9_empty : Cond) ∈ lw_tbl := (List.mem_append_right _ (List.mem_append_right _ (List.mem_append_right _ (List.mem_append_right _ (List.mem_append_right _ (List.mem_append_right _ (List.mem_append_left _ (List.mem_of_getElem? (i := 53) rfl))))))))
set_option maxRecDepth 20000 in
theorem tw_2469 : (.code yX9_empty cX9_empty 1 none : Cond) ∈ lw_tbl := (List.mem_append_right _ (List.mem_append_right _ (List.mem_append_right _ (List.mem_append_right _ (List.mem_append_right _ (List.mem_append_right _ (List.mem_append_left _ (List.mem_of_getElem? (i := 54) rfl))))))))
set_option maxRecDepth 20000 in
theorem tw_2470 : (.methodLink RX11 168 yX3_open : Cond) ∈ lw_tbl := (List.mem_append_right _ (List.mem_append_right _ (List.mem_append_right _ (List.mem_append_right _ (List.mem_append_right _ (List.mem_append_right _ (List.mem_append_left _ (List.mem_of_getElem? (i := 47) rfl))))))))
set_option maxRecDepth 20000 in
theorem tw_2471 : (.instanceMethod yX3_open : Cond) ∈ lw_tbl := (List.mem_append_right _ (List.mem_append_right _ (List.mem_append_right _ (List.mem_append_right _ (List.mem_append_right _ (List.mem_append_right _ (List.mem_append_left _ (List.mem_of_getElem? (i := 48) rfl))))))))
set_option maxRecDepth 20000 in
theorem tw_2472 : (.selects RX3 yX3_open yX3_open : Cond) ∈ lw_tbl := (List.mem_append_right _ (List.mem_append_right _ (List.mem_append_right _ (List.mem_append_right _ (List.mem_append_right _ (List.mem_append_right _ (List.mem_append_left _ (List.mem_of_getElem? (i := 49) rfl))))))))
set_option maxRecDepth 20000 in
theorem tw_2473 : (.code yX3_open cX3_open 4 none : Cond) ∈ lw_tbl := (List.mem_append_right _ (List.mem_append_right _ (List.mem_append_right _ (List.mem_append_right _ (List.mem_append_right _ (List.mem_append_right _ (List.mem_append_left _ (List.mem_of_getElem? (i := 50) rfl))))))))
set_option maxRecDepth 20000 in
theorem tw_2474 : (.methodLink RX11 257 yX2_rewind : Cond) ∈ lw_tbl := (List.mem_append_right _ (List.mem_append_right _ (List.mem_append_right _ (List.mem_append_right _ (List.mem_append_right _ (List.mem_append_right _ (List.mem_append_right _ (List.mem_append_right _ (List.mem_append_right _ (List.mem_append_left _ (List.mem_of_getElem? (i := 220) rfl)))))))))))
set_option maxRecDepth 20000 in
theorem tw_2475 : (.methodLink RX11 260 yX2_advance : Cond) ∈ lw_tbl := (List.mem_append_right _ (List.mem_append_right _ (List.mem_append_right _ (List.mem_append_right _ (List.mem_append_right _ (List.mem_append_right _ (List.mem_append_right _ (List.mem_append_right _ (List.mem_append_right _ (List.mem_append_left _ (List.mem_of_getElem? (i := 221) rfl)))))))))))
set_option maxRecDepth 20000 in
theorem tw_2476 : (.methodLink RX11 278 yX7_found : Cond) ∈ lw_tbl := (List.mem_append_right _ (List.mem_append_right _ (List.mem_append_right _ (List.mem_append_right _ (List.mem_append_right _ (List.mem_append_right _ (List.mem_append_right _ (List.mem_append_right _ (List.mem_append_right _ (List.mem_append_left _ (List.mem_of_getElem? (i := 222) rfl)))))))))))
set_option maxRecDepth 20000 in
theorem tw_2477 : (.methodLink RX11 288 yX3_global : Cond) ∈ lw_tbl := (List.mem_append_right _ (List.mem_append_right _ (List.mem_append_right _ (List.mem_append_right _ (List.mem_append_right _ (List.mem_append_right _ (List.mem_append_right _ (List.mem_append_right _ (List.mem_append_right _ (List.mem_append_left _ (List.mem_of_getElem? (i := 223) rfl)))))))))))
set_option maxRecDepth 20000 in
theorem tw_2478 : (.instanceMethod yX3_global : Cond) ∈ lw_tbl := (List.mem_append_right _ (List.mem_append_right _ (List.mem_append_right _ (List.mem_append_right _ (List.mem_append_right _ (List.mem_append_right _ (List.mem_append_right _ (List.mem_append_right _ (List.mem_append_right _ (List.mem_append_left _ (List.mem_of_getElem? (i := 224) rfl)))))))))))
set_option maxRecDepth 20000 in
theorem tw_2479 : (.selects RX3 yX3_global yX3_global : Cond) ∈ lw_tbl := (List.mem_append_right _ (List.mem_append_right _ (List.mem_append_right _ (List.mem_append_right _ (List.mem_append_right _ (List.mem_append_right _ (List.mem_append_right _ (List.mem_append_right _ (List.mem_append_right _ (List.mem_append_left _ (List.mem_of_getElem? (i := 225) rfl)))))))))))
set_option maxRecDepth 20000 in
theorem tw_2480 : (.code yX3_global cX3_global 2 (some .int) : Cond) ∈ lw_tbl := (List.mem_append_right _ (List.mem_append_right _ (List.mem_append_right _ (List.mem_append_right _ (List.mem_append_right _ (List.mem_append_right _ (List.mem_append_right _ (List.mem_append_right _ (List.mem_append_right _ (List.mem_append_left _ (List.mem_of_getElem? (i := 226) rfl)))))))))))
set_option maxRecDepth 20000 in
theorem tw_2481 : (.methodLink RX11 294 yX5_readExp : Cond) ∈ lw_tbl := (List.mem_append_right _ (List.mem_append_right _ (List.mem_append_right _ (List.mem_append_right _ (List.mem_append_right _ (List.mem_append_right _ (List.mem_append_right _ (List.mem_append_right _ (List.mem_append_right _ (List.mem_append_right _ (List.mem_append_left _ (List.mem_of_getElem? (i := 2) rfl))))))))))))
set_option maxRecDepth 20000 in
theorem tw_2482 : (.instanceMethod yX5_readExp : Cond) ∈ lw_tbl := (List.mem_append_right _ (List.mem_append_right _ (List.mem_append_right _ (List.mem_append_right _ (List.mem_append_right _ (List.mem_append_right _ (List.mem_append_right _ (List.mem_append_right _ (List.mem_append_right _ (List.mem_append_right _ (List.mem_append_left _ (List.mem_of_getElem? (i := 3) rfl))))))))))))
set_option maxRecDepth 20000 in
theorem tw_2483 : (.selects RX5 yX5_readExp yX5_readExp : Cond) ∈ lw_tbl := (List.mem_append_right _ (List.mem_append_right _ (List.mem_append_right _ (List.mem_append_right _ (List.mem_append_right _ (List.mem_append_right _ (List.mem_append_right _ (List.mem_append_right _ (List.mem_append_right _ (List.mem_append_right _ (List.mem_append_left _ (List.mem_of_getElem? (i := 4) rfl))))))))))))
set_option maxRecDepth 20000 in
theorem tw_2484 : (.codeWith yX5_readExp cX5_readExp 6 (some .boolean) [(25, 51, 52, 70)] : Cond) ∈ lw_tbl := (List.mem_append_right _ (List.mem_append_right _ (List.mem_append_right _ (List.mem_append_right _ (List.mem_append_right _ (List.mem_append_right _ (List.mem_append_right _ (List.mem_append_right _ (List.mem_append_right _ (List.mem_append_right _ (List.mem_append_left _ (List.mem_of_getElem? (i := 5) rfl))))))))))))
set_option maxRecDepth 20000 in
theorem tw_2485 : (.methodLink RL 7 yX11_feed : Cond) ∈ lw_tbl := (List.mem_append_right _ (List.mem_append_right _ (List.mem_append_right _ (List.mem_append_right _ (List.mem_append_right _ (List.mem_append_left _ (List.mem_of_getElem? (i := 230) rfl)))))))
set_option maxRecDepth 20000 in
theorem tw_2486 : (.instanceMethod yX11_feed : Cond) ∈ lw_tbl := (List.mem_append_right _ (List.mem_append_right _ (List.mem_append_right _ (List.mem_append_right _ (List.mem_append_right _ (List.mem_append_left _ (List.mem_of_getElem? (i := 231) rfl)))))))
set_option maxRecDepth 20000 in
theorem tw_2487 : (.selects RX11 yX11_feed yX11_feed : Cond) ∈ lw_tbl := (List.mem_append_right _ (List.mem_append_right _ (List.mem_append_right _ (List.mem_append_right _ (List.mem_append_right _ (List.mem_append_left _ (List.mem_of_getElem? (i := 232) rfl)))))))
set_option maxRecDepth 20000 in
theorem tw_2488 : (.classLink RL 13 "java/lang/UnsupportedOperationException" : Cond) ∈ lw_tbl := (List.mem_append_right _ (List.mem_append_right _ (List.mem_append_right _ (List.mem_append_right _ (List.mem_append_right _ (List.mem_append_left _ (List.mem_of_getElem? (i := 229) rfl)))))))
set_option maxRecDepth 20000 in
theorem tw_2489 : (.code yX11_feed cX11_feed 6 (some .int) : Cond) ∈ lw_tbl := (List.mem_append_right _ (List.mem_append_right _ (List.mem_append_right _ (List.mem_append_right _ (List.mem_append_right _ (List.mem_append_left _ (List.mem_of_getElem? (i := 233) rfl)))))))
set_option maxRecDepth 20000 in
theorem tw_2490 : (.methodLink RL 15 yX11_end : Cond) ∈ lw_tbl := (List.mem_append_right _ (List.mem_append_right _ (List.mem_append_right _ (List.mem_append_right _ (List.mem_append_right _ (List.mem_append_right _ (List.mem_append_left _ (List.mem_of_getElem? (i := 18) rfl))))))))
set_option maxRecDepth 20000 in
theorem tw_2491 : (.instanceMethod yX11_end : Cond) ∈ lw_tbl := (List.mem_append_right _ (List.mem_append_right _ (List.mem_append_right _ (List.mem_append_right _ (List.mem_append_right _ (List.mem_append_right _ (List.mem_append_left _ (List.mem_of_getElem? (i := 19) rfl))))))))
set_option maxRecDepth 20000 in
theorem tw_2492 : (.selects RX11 yX11_end yX11_end : Cond) ∈ lw_tbl := (List.mem_append_right _ (List.mem_append_right _ (List.mem_append_right _ (List.mem_append_right _ (List.mem_append_right _ (List.mem_append_right _ (List.mem_append_left _ (List.mem_of_getElem? (i := 20) rfl))))))))
set_option maxRecDepth 20000 in
theorem tw_2493 : (.classLink RL 19 "java/lang/IllegalArgumentException" : Cond) ∈ lw_tbl := (List.mem_append_right _ (List.mem_append_right _ (List.mem_append_right _ (List.mem_append_right _ (List.mem_append_right _ (List.mem_append_right _ (List.mem_append_left _ (List.mem_of_getElem? (i := 17) rfl))))))))
set_option maxRecDepth 20000 in
theorem tw_2494 : (.code yX11_end cX11_end 2 none : Cond) ∈ lw_tbl := (List.mem_append_right _ (List.mem_append_right _ (List.mem_append_right _ (List.mem_append_right _ (List.mem_append_right _ (List.mem_append_right _ (List.mem_append_left _ (List.mem_of_getElem? (i := 21) rfl))))))))
set_option maxRecDepth 20000 in
theorem tw_2495 : (.methodLink RL 21 yX11_start : Cond) ∈ lw_tbl := (List.mem_append_right _ (List.mem_append_right _ (List.mem_append_right _ (List.mem_append_right _ (List.mem_append_right _ (List.mem_append_right _ (List.mem_append_left _ (List.mem_of_getElem? (i := 28) rfl))))))))
set_option maxRecDepth 20000 in
theorem tw_2496 : (.instanceMethod yX11_start : Cond) ∈ lw_tbl := (List.mem_append_right _ (List.mem_append_right _ (List.mem_append_right _ (List.mem_append_right _ (List.mem_append_right _ (List.mem_append_right _ (List.mem_append_left _ (List.mem_of_getElem? (i := 29) rfl))))))))
set_option maxRecDepth 20000 in
theorem tw_2497 : (.selects RX11 yX11_start yX11_start : Cond) ∈ lw_tbl := (List.mem_append_right _ (List.mem_append_right _ (List.mem_append_right _ (List.mem_append_right _ (List.mem_append_right _ (List.mem_append_right _ (List.mem_append_left _ (List.mem_of_getElem? (i := 30) rfl))))))))
set_option maxRecDepth 20000 in
theorem tw_2498 : (.classLink RL 25 "java/lang/IllegalStateException" : Cond) ∈ lw_tbl := (List.mem_append_right _ (List.mem_append_right _ (List.mem_append_right _ (List.mem_append_right _ (List.mem_append_right _ (List.mem_append_right _ (List.mem_append_left _ (List.mem_of_getElem? (i := 27) rfl))))))))
set_option maxRecDepth 20000 in
theorem tw_2499 : (.code yX11_start cX11_start 3 none : Cond) ∈ lw_tbl := (List.mem_append_right _ (List.mem_append_right _ (List.mem_append_right _ (List.mem_append_right _ (List.mem_append_right _ (List.mem_append_right _ (List.mem_append_left _ (List.mem_of_getElem? (i := 31) rfl))))))))
set_option maxRecDepth 20000 in
theorem tw_2500 : (.methodLink RL 27 yX11_step : Cond) ∈ lw_tbl := (List.mem_append_right _ (List.mem_append_right _ (List.mem_append_right _ (List.mem_append_right _ (List.mem_append_right _ (List.mem_append_right _ (List.mem_append_right _ (List.mem_append_right _ (List.mem_append_right _ (List.mem_append_left _ (List.mem_of_getElem? (i := 158) rfl)))))))))))
set_option maxRecDepth 20000 in
theorem tw_2501 : (.instanceMethod yX11_step : Cond) ∈ lw_tbl := (List.mem_append_right _ (List.mem_append_right _ (List.mem_append_right _ (List.mem_append_right _ (List.mem_append_right _ (List.mem_append_right _ (List.mem_append_right _ (List.mem_append_right _ (List.mem_append_right _ (List.mem_append_left _ (List.mem_of_getElem? (i := 159) rfl)))))))))))
set_option maxRecDepth 20000 in
theorem tw_2502 : (.selects RX11 yX11_step yX11_step : Cond) ∈ lw_tbl := (List.mem_append_right _ (List.mem_append_right _ (List.mem_append_right _ (List.mem_append_right _ (List.mem_append_right _ (List.mem_append_right _ (List.mem_append_right _ (List.mem_append_right _ (List.mem_append_right _ (List.mem_append_left _ (List.mem_of_getElem? (i := 160) rfl)))))))))))
set_option maxRecDepth 20000 in
theorem tw_2503 : (.code yX11_step cX11_step 2 (some .int) : Cond) ∈ lw_tbl := (List.mem_append_right _ (List.mem_append_right _ (List.mem_append_right _ (List.mem_append_right _ (List.mem_append_right _ (List.mem_append_right _ (List.mem_append_right _ (List.mem_append_right _ (List.mem_append_right _ (List.mem_append_left _ (List.mem_of_getElem? (i := 161) rfl)))))))))))
set_option maxRecDepth 20000 in
theorem tw_2504 : (.methodLink RL 31 yX11_back : Cond) ∈ lw_tbl := (List.mem_append_right _ (List.mem_append_right _ (List.mem_append_right _ (List.mem_append_right _ (List.mem_append_right _ (List.mem_append_right _ (List.mem_append_right _ (List.mem_append_right _ (List.mem_append_right _ (List.mem_append_left _ (List.mem_of_getElem? (i := 169) rfl)))))))))))
set_option maxRecDepth 20000 in
theorem tw_2505 : (.instanceMethod yX11_back : Cond) ∈ lw_tbl := (List.mem_append_right _ (List.mem_append_right _ (List.mem_append_right _ (List.mem_append_right _ (List.mem_append_right _ (List.mem_append_right _ (List.mem_append_right _ (List.mem_append_right _ (List.mem_append_right _ (List.mem_append_left _ (List.mem_of_getElem? (i := 170) rfl)))))))))))
set_option maxRecDepth 20000 in
theorem tw_2506 : (.selects RX11 yX11_back yX11_back : Cond) ∈ lw_tbl := (List.mem_append_right _ (List.mem_append_right _ (List.mem_append_right _ (List.mem_append_right _ (List.mem_append_right _ (List.mem_append_right _ (List.mem_append_right _ (List.mem_append_right _ (List.mem_append_right _ (List.mem_append_left _ (List.mem_of_getElem? (i := 171) rfl)))))))))))
set_option maxRecDepth 20000 in
theorem tw_2507 : (.code yX11_back cX11_back 2 (some .int) : Cond) ∈ lw_tbl := (List.mem_append_right _ (List.mem_append_right _ (List.mem_append_right _ (List.mem_append_right _ (List.mem_append_right _ (List.mem_append_right _ (List.mem_append_right _ (List.mem_append_right _ (List.mem_append_right _ (List.mem_append_left _ (List.mem_of_getElem? (i := 172) rfl)))))))))))
set_option maxRecDepth 20000 in
theorem tw_2508 : (.methodLink RL 34 yX11_state : Cond) ∈ lw_tbl := (List.mem_append_right _ (List.mem_append_right _ (List.mem_append_right _ (List.mem_append_right _ (List.mem_append_right _ (List.mem_append_right _ (List.mem_append_right _ (List.mem_append_right _ (List.mem_append_right _ (List.mem_append_left _ (List.mem_of_getElem? (i := 186) rfl)))))))))))
set_option maxRecDepth 20000 in
theorem tw_2509 : (.instanceMethod yX11_state : Cond) ∈ lw_tbl := (List.mem_append_right _ (List.mem_append_right _ (List.mem_append_right _ (List.mem_append_right _ (List.mem_append_right _ (List.mem_append_right _ (List.mem_append_right _ (List.mem_append_right _ (List.mem_append_right _ (List.mem_append_left _ (List.mem_of_getElem? (i := 187) rfl)))))))))))
set_option maxRecDepth 20000 in
theorem tw_2510 : (.selects RX11 yX11_state yX11_state : Cond) ∈ lw_tbl := (List.mem_append_right _ (List.mem_append_right _ (List.mem_append_right _ (List.mem_append_right _ (List.mem_append_right _ (List.mem_append_right _ (List.mem_append_right _ (List.mem_append_right _ (List.mem_append_right _ (List.mem_append_left _ (List.mem_of_getElem? (i := 188) rfl)))))))))))
set_option maxRecDepth 20000 in
theorem tw_2511 : (.classLink RL 37 "java/lang/IndexOutOfBoundsException" : Cond) ∈ lw_tbl := (List.mem_append_right _ (List.mem_append_right _ (List.mem_append_right _ (List.mem_append_right _ (List.mem_append_right _ (List.mem_append_right _ (List.mem_append_right _ (List.mem_append_right _ (List.mem_append_right _ (List.mem_append_left _ (List.mem_of_getElem? (i := 185) rfl)))))))))))
set_option maxRecDepth 20000 in
theorem tw_2512 : (.code yX11_state cX11_state 3 (some .int) : Cond) ∈ lw_tbl := (List.mem_append_right _ (List.mem_append_right _ (List.mem_append_right _ (List.mem_append_right _ (List.mem_append_right _ (List.mem_append_right _ (List.mem_append_right _ (List.mem_append_right _ (List.mem_append_right _ (List.mem_append_left _ (List.mem_of_getElem? (i := 189) rfl)))))))))))
set_option maxRecDepth 20000 in
theorem tw_2513 : (.methodLink RL 39 yX11_out : Cond) ∈ lw_tbl := (List.mem_append_right _ (List.mem_append_right _ (List.mem_append_right _ (List.mem_append_right _ (List.mem_append_right _ (List.mem_append_right _ (List.mem_append_right _ (List.mem_append_right _ (List.mem_append_right _ (List.mem_append_left _ (List.mem_of_getElem? (i := 208) rfl)))))))))))
set_option maxRecDepth 20000 in
theorem tw_2514 : (.instanceMethod yX11_out : Cond) ∈ lw_tbl := (List.mem_append_right _ (List.mem_append_right _ (List.mem_append_right _ (List.mem_append_right _ (List.mem_append_right _ (List.mem_append_right _ (List.mem_append_right _ (List.mem_append_right _ (List.mem_append_right _ (List.mem_append_left _ (List.mem_of_getElem? (i := 209) rfl)))))))))))
set_option maxRecDepth 20000 in
theorem tw_2515 : (.selects RX11 yX11_out yX11_out : Cond) ∈ lw_tbl := (List.mem_append_right _ (List.mem_append_right _ (List.mem_append_right _ (List.mem_append_right _ (List.mem_append_right _ (List.mem_append_right _ (List.mem_append_right _ (List.mem_append_right _ (List.mem_append_right _ (List.mem_append_left _ (List.mem_of_getElem? (i := 210) rfl)))))))))))
set_option maxRecDepth 20000 in
theorem tw_2516 : (.code yX11_out cX11_out 2 (some .int) : Cond) ∈ lw_tbl := (List.mem_append_right _ (List.mem_append_right _ (List.mem_append_right _ (List.mem_append_right _ (List.mem_append_right _ (List.mem_append_right _ (List.mem_append_right _ (List.mem_append_right _ (List.mem_append_right _ (List.mem_append_left _ (List.mem_of_getElem? (i := 211) rfl)))))))))))
set_option maxRecDepth 20000 in
theorem tw_2517 : (.methodLink RL 42 yX11_value : Cond) ∈ lw_tbl := (List.mem_append_right _ (List.mem_append_right _ (List.mem_append_right _ (List.mem_append_right _ (List.mem_append_right _ (List.mem_append_right _ (List.mem_append_right _ (List.mem_append_right _ (List.mem_append_right _ (List.mem_append_left _ (List.mem_of_getElem? (i := 216) rfl)))))))))))
set_option maxRecDepth 20000 in
theorem tw_2518 : (.instanceMethod yX11_value : Cond) ∈ lw_tbl := (List.mem_append_right _ (List.mem_append_right _ (List.mem_append_right _ (List.mem_append_right _ (List.mem_append_right _ (List.mem_append_right _ (List.mem_append_right _ (List.mem_append_right _ (List.mem_append_right _ (List.mem_append_left _ (List.mem_of_getElem? (i := 217) rfl)))))))))))
set_option maxRecDepth 20000 in
theorem tw_2519 : (.selects RX11 yX11_value yX11_value : Cond) ∈ lw_tbl := (List.mem_append_right _ (List.mem_append_right _ (List.mem_append_right _ (List.mem_append_right _ (List.mem_append_right _ (List.mem_append_right _ (List.mem_append_right _ (List.mem_append_right _ (List.mem_append_right _ (List.mem_append_left _ (List.mem_of_getElem? (i := 218) rfl)))))))))))
set_option maxRecDepth 20000 in
theorem tw_2520 : (.code yX11_value cX11_value 3 (some .int) : Cond) ∈ lw_tbl := (List.mem_append_right _ (List.mem_append_right _ (List.mem_append_right _ (List.mem_append_right _ (List.mem_append_right _ (List.mem_append_right _ (List.mem_append_right _ (List.mem_append_right _ (List.mem_append_right _ (List.mem_append_left _ (List.mem_of_getElem? (i := 219) rfl)))))))))))
set_option maxRecDepth 20000 in
theorem tw_2521 : (.methodLink RL 46 yX11_work : Cond) ∈ lw_tbl := (List.mem_append_right _ (List.mem_append_right _ (List.mem_append_right _ (List.mem_append_right _ (List.mem_append_right _ (List.mem_append_right _ (List.mem_append_right _ (List.mem_append_right _ (List.mem_append_right _ (List.mem_append_left _ (List.mem_of_getElem? (i := 238) rfl)))))))))))
set_option maxRecDepth 20000 in
theorem tw_2522 : (.instanceMethod yX11_work : Cond) ∈ lw_tbl := (List.mem_append_right _ (List.mem_append_right _ (List.mem_append_right _ (List.mem_append_right _ (List.mem_append_right _ (List.mem_append_right _ (List.mem_append_right _ (List.mem_append_right _ (List.mem_append_right _ (List.mem_append_left _ (List.mem_of_getElem? (i := 239) rfl)))))))))))
set_option maxRecDepth 20000 in
theorem tw_2523 : (.selects RX11 yX11_work yX11_work : Cond) ∈ lw_tbl := (List.mem_append_right _ (List.mem_append_right _ (List.mem_append_right _ (List.mem_append_right _ (List.mem_append_right _ (List.mem_append_right _ (List.mem_append_right _ (List.mem_append_right _ (List.mem_append_right _ (List.mem_append_right _ (List.mem_append_left _ (List.mem_of_getElem? (i := 0) rfl))))))))))))
set_option maxRecDepth 20000 in
theorem tw_2524 : (.code yX11_work cX11_work 4 (some .int) : Cond) ∈ lw_tbl := (List.mem_append_right _ (List.mem_append_right _ (List.mem_append_right _ (List.mem_append_right _ (List.mem_append_right _ (List.mem_append_right _ (List.mem_append_right _ (List.mem_append_right _ (List.mem_append_right _ (List.mem_append_right _ (List.mem_append_left _ (List.mem_of_getElem? (i := 1) rfl))))))))))))
set_option maxRecDepth 20000 in
theorem tw_2525 : (.methodLink RL 49 yX11_view : Cond) ∈ lw_tbl := (List.mem_append_right _ (List.mem_append_right _ (List.mem_append_right _ (List.mem_append_right _ (List.mem_append_right _ (List.mem_append_right _ (List.mem_append_right _ (List.mem_append_right _ (List.mem_append_right _ (List.mem_append_right _ (List.mem_append_left _ (List.mem_of_getElem? (i := 14) rfl))))))))))))
set_option maxRecDepth 20000 in
theorem tw_2526 : (.instanceMethod yX11_view : Cond) ∈ lw_tbl := (List.mem_append_right _ (List.mem_append_right _ (List.mem_append_right _ (List.mem_append_right _ (List.mem_append_right _ (List.mem_append_right _ (List.mem_append_right _ (List.mem_append_right _ (List.mem_append_right _ (List.mem_append_right _ (List.mem_append_left _ (List.mem_of_getElem? (i := 15) rfl))))))))))))
set_option maxRecDepth 20000 in
theorem tw_2527 : (.selects RX11 yX11_view yX11_view : Cond) ∈ lw_tbl := (List.mem_append_right _ (List.mem_append_right _ (List.mem_append_right _ (List.mem_append_right _ (List.mem_append_right _ (List.mem_append_right _ (List.mem_append_right _ (List.mem_append_right _ (List.mem_append_right _ (List.mem_append_right _ (List.mem_append_left _ (List.mem_of_getElem? (i := 16) rfl))))))))))))
set_option maxRecDepth 20000 in
theorem tw_2528 : (.code yX11_view cX11_view 4 (some .int) : Cond) ∈ lw_tbl := (List.mem_append_right _ (List.mem_append_right _ (List.mem_append_right _ (List.mem_append_right _ (List.mem_append_right _ (List.mem_append_right _ (List.mem_append_right _ (List.mem_append_right _ (List.mem_append_right _ (List.mem_append_right _ (List.mem_append_left _ (List.mem_of_getElem? (i := 17) rfl))))))))))))
set_option maxRecDepth 20000 in
theorem tw_2529 : (.methodLink RL 52 yX11_round : Cond) ∈ lw_tbl := (List.mem_append_right _ (List.mem_append_right _ (List.mem_append_right _ (List.mem_append_right _ (List.mem_append_right _ (List.mem_append_right _ (List.mem_append_right _ (List.mem_append_right _ (List.mem_append_right _ (List.mem_append_right _ (List.mem_append_left _ (List.mem_of_getElem? (i := 21) rfl))))))))))))
set_option maxRecDepth 20000 in
theorem tw_2530 : (.instanceMethod yX11_round : Cond) ∈ lw_tbl := (List.mem_append_right _ (List.mem_append_right _ (List.mem_append_right _ (List.mem_append_right _ (List.mem_append_right _ (List.mem_append_right _ (List.mem_append_right _ (List.mem_append_right _ (List.mem_append_right _ (List.mem_append_right _ (List.mem_append_left _ (List.mem_of_getElem? (i := 22) rfl))))))))))))
set_option maxRecDepth 20000 in
theorem tw_2531 : (.selects RX11 yX11_round yX11_round : Cond) ∈ lw_tbl := (List.mem_append_right _ (List.mem_append_right _ (List.mem_append_right _ (List.mem_append_right _ (List.mem_append_right _ (List.mem_append_right _ (List.mem_append_right _ (List.mem_append_right _ (List.mem_append_right _ (List.mem_append_right _ (List.mem_append_left _ (List.mem_of_getElem? (i := 23) rfl))))))))))))
set_option maxRecDepth 20000 in
theorem tw_2532 : (.code yX11_round cX11_round 4 (some .int) : Cond) ∈ lw_tbl := (List.mem_append_right _ (List.mem_append_right _ (List.mem_append_right _ (List.mem_append_right _ (List.mem_append_right _ (List.mem_append_right _ (List.mem_append_right _ (List.mem_append_right _ (List.mem_append_right _ (List.mem_append_right _ (List.mem_append_left _ (List.mem_of_getElem? (i := 24) rfl))))))))))))
set_option maxRecDepth 20000 in
theorem tw_2533 : (.methodLink RL 55 yX11_seen : Cond) ∈ lw_tbl := (List.mem_append_right _ (List.mem_append_right _ (List.mem_append_right _ (List.mem_append_right _ (List.mem_append_right _ (List.mem_append_right _ (List.mem_append_right _ (List.mem_append_right _ (List.mem_append_right _ (List.mem_append_right _ (List.mem_append_left _ (List.mem_of_getElem? (i := 36) rfl))))))))))))
set_option maxRecDepth 20000 in
theorem tw_2534 : (.instanceMethod yX11_seen : Cond) ∈ lw_tbl := (List.mem_append_right _ (List.mem_append_right _ (List.mem_append_right _ (List.mem_append_right _ (List.mem_append_right _ (List.mem_append_right _ (List.mem_append_right _ (List.mem_append_right _ (List.mem_append_right _ (List.mem_append_right _ (List.mem_append_left _ (List.mem_of_getElem? (i := 37) rfl))))))))))))
set_option maxRecDepth 20000 in
theorem tw_2535 : (.selects RX11 yX11_seen yX11_seen : Cond) ∈ lw_tbl := (List.mem_append_right _ (List.mem_append_right _ (List.mem_append_right _ (List.mem_append_right _ (List.mem_append_right _ (List.mem_append_right _ (List.mem_append_right _ (List.mem_append_right _ (List.mem_append_right _ (List.mem_append_right _ (List.mem_append_left _ (List.mem_of_getElem? (i := 38) rfl))))))))))))
set_option maxRecDepth 20000 in
theorem tw_2536 : (.code yX11_seen cX11_seen 3 (some .int) : Cond) ∈ lw_tbl := (List.mem_append_right _ (List.mem_append_right _ (List.mem_append_right _ (List.mem_append_right _ (List.mem_append_right _ (List.mem_append_right _ (List.mem_append_right _ (List.mem_append_right _ (List.mem_append_right _ (List.mem_append_right _ (List.mem_append_left _ (List.mem_of_getElem? (i := 39) rfl))))))))))))
set_option maxRecDepth 20000 in
theorem tw_2537 : (.methodLink RL 59 yX11_shown : Cond) ∈ lw_tbl := (List.mem_append_right _ (List.mem_append_right _ (List.mem_append_right _ (List.mem_append_right _ (List.mem_append_right _ (List.mem_append_right _ (List.mem_append_right _ (List.mem_append_right _ (List.mem_append_right _ (List.mem_append_right _ (List.mem_append_left _ (List.mem_of_getElem? (i := 43) rfl))))))))))))
set_option maxRecDepth 20000 in
theorem tw_2538 : (.instanceMethod yX11_shown : Cond) ∈ lw_tbl := (List.mem_append_right _ (List.mem_append_right _ (List.mem_append_right _ (List.mem_append_right _ (List.mem_append_right _ (List.mem_append_right _ (List.mem_append_right _ (List.mem_append_right _ (List.mem_append_right _ (List.mem_append_right _ (List.mem_append_left _ (List.mem_of_getElem? (i := 44) rfl))))))))))))
set_option maxRecDepth 20000 in
theorem tw_2539 : (.selects RX11 yX11_shown yX11_shown : Cond) ∈ lw_tbl := (List.mem_append_right _ (List.mem_append_right _ (List.mem_append_right _ (List.mem_append_right _ (List.mem_append_right _ (List.mem_append_right _ (List.mem_append_right _ (List.mem_append_right _ (List.mem_append_right _ (List.mem_append_right _ (List.mem_append_left _ (List.mem_of_getElem? (i := 45) rfl))))))))))))
set_option maxRecDepth 20000 in
theorem tw_2540 : (.code yX11_shown cX11_shown 2 (some .int) : Cond) ∈ lw_tbl := (List.mem_append_right _ (List.mem_append_right _ (List.mem_append_right _ (List.mem_append_right _ (List.mem_append_right _ (List.mem_append_right _ (List.mem_append_right _ (List.mem_append_right _ (List.mem_append_right _ (List.mem_append_right _ (List.mem_append_left _ (List.mem_of_getElem? (i := 46) rfl))))))))))))
set_option maxRecDepth 20000 in
theorem tw_2541 : (.methodLink RL 62 yX11_shape : Cond) ∈ lw_tbl := (List.mem_append_right _ (List.mem_append_right _ (List.mem_append_right _ (List.mem_append_right _ (List.mem_append_right _ (List.mem_append_right _ (List.mem_append_right _ (List.mem_append_right _ (List.mem_append_right _ (List.mem_append_right _ (List.mem_append_left _ (List.mem_of_getElem? (i := 50) rfl))))))))))))
set_option maxRecDepth 20000 in
theorem tw_2542 : (.instanceMethod yX11_shape : Cond) ∈ lw_tbl := (List.mem_append_right _ (List.mem_append_right _ (List.mem_append_right _ (List.mem_append_right _ (List.mem_append_right _ (List.mem_append_right _ (List.mem_append_right _ (List.mem_append_right _ (List.mem_append_right _ (List.mem_append_right _ (List.mem_append_left _ (List.mem_of_getElem? (i := 51) rfl))))))))))))
set_option maxRecDepth 20000 in
theorem tw_2543 : (.selects RX11 yX11_shape yX11_shape : Cond) ∈ lw_tbl := (List.mem_append_right _ (List.mem_append_right _ (List.mem_append_right _ (List.mem_append_right _ (List.mem_append_right _ (List.mem_append_right _ (List.mem_append_right _ (List.mem_append_right _ (List.mem_append_right _ (List.mem_append_right _ (List.mem_append_left _ (List.mem_of_getElem? (i := 52) rfl))))))))))))
set_option maxRecDepth 20000 in
theorem tw_2544 : (.code yX11_shape cX11_shape 4 (some .int) : Cond) ∈ lw_tbl := (List.mem_append_right _ (List.mem_append_right _ (List.mem_append_right _ (List.mem_append_right _ (List.mem_append_right _ (List.mem_append_right _ (List.mem_append_right _ (List.mem_append_right _ (List.mem_append_right _ (List.mem_append_right _ (List.mem_append_left _ (List.mem_of_getElem? (i := 53) rfl))))))))))))
set_option maxRecDepth 20000 in
theorem tw_2545 : (.methodLink RL 65 yX11_count : Cond) ∈ lw_tbl := (List.mem_append_right _ (List.mem_append_right _ (List.mem_append_right _ (List.mem_append_right _ (List.mem_append_right _ (List.mem_append_right _ (List.mem_append_right _ (List.mem_append_right _ (List.mem_append_right _ (List.mem_append_right _ (List.mem_append_left _ (List.mem_of_getElem? (i := 59) rfl))))))))))))
set_option maxRecDepth 20000 in
theorem tw_2546 : (.instanceMethod yX11_count : Cond) ∈ lw_tbl := (List.mem_append_right _ (List.mem_append_right _ (List.mem_append_right _ (List.mem_append_right _ (List.mem_append_right _ (List.mem_append_right _ (List.mem_append_right _ (List.mem_append_right _ (List.mem_append_right _ (List.mem_append_right _ (List.mem_append_left _ (List.mem_of_getElem? (i := 60) rfl))))))))))))
set_option maxRecDepth 20000 in
theorem tw_2547 : (.selects RX11 yX11_count yX11_count : Cond) ∈ lw_tbl := (List.mem_append_right _ (List.mem_append_right _ (List.mem_append_right _ (List.mem_append_right _ (List.mem_append_right _ (List.mem_append_right _ (List.mem_append_right _ (List.mem_append_right _ (List.mem_append_right _ (List.mem_append_right _ (List.mem_append_left _ (List.mem_of_getElem? (i := 61) rfl))))))))))))
set_option maxRecDepth 20000 in
theorem tw_2548 : (.code yX11_count cX11_count 2 (some .int) : Cond) ∈ lw_tbl := (List.mem_append_right _ (List.mem_append_right _ (List.mem_append_right _ (List.mem_append_right _ (List.mem_append_right _ (List.mem_append_right _ (List.mem_append_right _ (List.mem_append_right _ (List.mem_append_right _ (List.mem_append_right _ (List.mem_append_left _ (List.mem_of_getElem? (i := 62) rfl))))))))))))
set_option maxRecDepth 20000 in
theorem tw_2549 : (.code yX12_thrown cX12_thrown 1 (some .int) : Cond) ∈ lw_tbl := (List.mem_append_right _ (List.mem_append_right _ (List.mem_append_right _ (List.mem_append_right _ (List.mem_append_right _ (List.mem_append_right _ (List.mem_append_right _ (List.mem_append_right _ (List.mem_append_right _ (List.mem_append_right _ (List.mem_append_right _ (List.mem_append_left _ (List.mem_of_getElem? (i := 208) rfl)))))))))))))
set_option maxRecDepth 20000 in
theorem tw_2550 : (.code yX12_feed cX12_feed 8 (some .int) : Cond) ∈ lw_tbl := (List.mem_append_right _ (List.mem_append_right _ (List.mem_append_right _ (List.mem_append_right _ (List.mem_append_right _ (List.mem_append_right _ (List.mem_append_right _ (List.mem_append_right _ (List.mem_append_right _ (List.mem_append_right _ (List.mem_append_right _ (List.mem_append_left _ (List.mem_of_getElem? (i := 212) rfl)))))))))))))
set_option maxRecDepth 20000 in
theorem tw_2551 : (.code yX12_end cX12_end 2 none : Cond) ∈ lw_tbl := (List.mem_append_right _ (List.mem_append_right _ (List.mem_append_right _ (List.mem_append_right _ (List.mem_append_right _ (List.mem_append_right _ (List.mem_append_right _ (List.mem_append_right _ (List.mem_append_right _ (List.mem_append_right _ (List.mem_append_right _ (List.mem_append_left _ (List.mem_of_getElem? (i := 220) rfl)))))))))))))
set_option maxRecDepth 20000 in
theorem tw_2552 : (.code yX12_program cX12_program 4 (some .int) : Cond) ∈ lw_tbl := (List.mem_append_right _ (List.mem_append_right _ (List.mem_append_right _ (List.mem_append_right _ (List.mem_append_right _ (List.mem_append_right _ (List.mem_append_right _ (List.mem_append_right _ (List.mem_append_right _ (List.mem_append_right _ (List.mem_append_right _ (List.mem_append_left _ (List.mem_of_getElem? (i := 224) rfl)))))))))))))
set_option maxRecDepth 20000 in
theorem tw_2553 : (.code yX12_fault_ cX12_fault_ 1 (some .int) : Cond) ∈ lw_tbl := (List.mem_append_right _ (List.mem_append_right _ (List.mem_append_right _ (List.mem_append_right _ (List.mem_append_right _ (List.mem_append_right _ (List.mem_append_right _ (List.mem_append_right _ (List.mem_append_right _ (List.mem_append_right _ (List.mem_append_right _ (List.mem_append_right _ (List.mem_append_right _ (List.mem_append_left _ (List.mem_of_getElem? (i := 13) rfl)))))))))))))))
set_option maxRecDepth 20000 in
theorem tw_2554 : (.code yX12_start cX12_start 3 none : Cond) ∈ lw_tbl := (List.mem_append_right _ (List.mem_append_right _ (List.mem_append_right _ (List.mem_append_right _ (List.mem_append_right _ (List.mem_append_right _ (List.mem_append_right _ (List.mem_append_right _ (List.mem_append_right _ (List.mem_append_right _ (List.mem_append_right _ (List.mem_append_right _ (List.mem_append_right _ (List.mem_append_left _ (List.mem_of_getElem? (i := 17) rfl)))))))))))))))
set_option maxRecDepth 20000 in
theorem tw_2555 : (.code yX12_step cX12_step 3 (some .int) : Cond) ∈ lw_tbl := (List.mem_append_right _ (List.mem_append_right _ (List.mem_append_right _ (List.mem_append_right _ (List.mem_append_right _ (List.mem_append_right _ (List.mem_append_right _ (List.mem_append_right _ (List.mem_append_right _ (List.mem_append_right _ (List.mem_append_right _ (List.mem_append_right _ (List.mem_append_right _ (List.mem_append_right _ (List.mem_append_right _ (List.mem_of_getElem? (i := 50) rfl))))))))))))))))
set_option maxRecDepth 20000 in
theorem tw_2556 : (.code yX12_back cX12_back 3 (some .int) : Cond) ∈ lw_tbl := (List.mem_append_right _ (List.mem_append_right _ (List.mem_append_right _ (List.mem_append_right _ (List.mem_append_right _ (List.mem_append_right _ (List.mem_append_right _ (List.mem_append_right _ (List.mem_append_right _ (List.mem_append_right _ (List.mem_append_right _ (List.mem_append_right _ (List.mem_append_right _ (List.mem_append_right _ (List.mem_append_right _ (List.mem_of_getElem? (i := 136) rfl))))))))))))))))
set_option maxRecDepth 20000 in
theorem tw_2557 : (.code yX12_state cX12_state 2 (some .int) : Cond) ∈ lw_tbl := (List.mem_append_right _ (List.mem_append_right _ (List.mem_append_right _ (List.mem_append_right _ (List.mem_append_right _ (List.mem_append_right _ (List.mem_append_right _ (List.mem_append_right _ (List.mem_append_right _ (List.mem_append_right _ (List.mem_append_right _ (List.mem_append_right _ (List.mem_append_right _ (List.mem_append_right _ (List.mem_append_right _ (List.mem_of_getElem? (i := 140) rfl))))))))))))))))
set_option maxRecDepth 20000 in
theorem tw_2558 : (.code yX12_out cX12_out 2 (some .int) : Cond) ∈ lw_tbl := (List.mem_append_right _ (List.mem_append_right _ (List.mem_append_right _ (List.mem_append_right _ (List.mem_append_right _ (List.mem_append_right _ (List.mem_append_right _ (List.mem_append_right _ (List.mem_append_right _ (List.mem_append_right _ (List.mem_append_right _ (List.mem_append_right _ (List.mem_append_right _ (List.mem_append_right _ (List.mem_append_right _ (List.mem_of_getElem? (i := 144) rfl))))))))))))))))
set_option maxRecDepth 20000 in
theorem tw_2559 : (.code yX12_value cX12_value 2 (some .int) : Cond) ∈ lw_tbl := (List.mem_append_right _ (List.mem_append_right _ (List.mem_append_right _ (List.mem_append_right _ (List.mem_append_right _ (List.mem_append_right _ (List.mem_append_right _ (List.mem_append_right _ (List.mem_append_right _ (List.mem_append_right _ (List.mem_append_right _ (List.mem_append_right _ (List.mem_append_right _ (List.mem_append_right _ (List.mem_append_right _ (List.mem_of_getElem? (i := 148) rfl))))))))))))))))
set_option maxRecDepth 20000 in
theorem tw_2560 : (.code yX12_work cX12_work 7 (some .int) : Cond) ∈ lw_tbl := (List.mem_append_right _ (List.mem_append_right _ (List.mem_append_right _ (List.mem_append_right _ (List.mem_append_right _ (List.mem_append_right _ (List.mem_append_right _ (List.mem_append_right _ (List.mem_append_right _ (List.mem_append_right _ (List.mem_append_right _ (List.mem_append_right _ (List.mem_append_right _ (List.mem_append_right _ (List.mem_append_right _ (List.mem_of_getElem? (i := 156) rfl))))))))))))))))
set_option maxRecDepth 20000 in
theorem tw_2561 : (.code yX12_view cX12_view 5 (some .int) : Cond) ∈ lw_tbl := (List.mem_append_right _ (List.mem_append_right _ (List.mem_append_right _ (List.mem_append_right _ (List.mem_append_right _ (List.mem_append_right _ (List.mem_append_right _ (List.mem_append_right _ (List.mem_append_right _ (List.mem_append_right _ (List.mem_append_right _ (List.mem_append_right _ (List.mem_append_right _ (List.mem_append_right _ (List.mem_append_right _ (List.mem_of_getElem? (i := 168) rfl))))))))))))))))
set_option maxRecDepth 20000 in
theorem tw_2562 : (.code yX12_round cX12_round 13 (some .int) : Cond) ∈ lw_tbl := (List.mem_append_right _ (List.mem_append_right _ (List.mem_append_right _ (List.mem_append_right _ (List.mem_append_right _ (List.mem_append_right _ (List.mem_append_right _ (List.mem_append_right _ (List.mem_append_right _ (List.mem_append_right _ (List.mem_append_right _ (List.mem_append_right _ (List.mem_append_right _ (List.mem_append_right _ (List.mem_append_right _ (List.mem_of_getElem? (i := 172) rfl))))))))))))))))
set_option maxRecDepth 20000 in
theorem tw_2563 : (.code yX12_seen cX12_seen 3 (some .int) : Cond) ∈ lw_tbl := (List.mem_append_right _ (List.mem_append_right _ (List.mem_append_right _ (List.mem_append_right _ (List.mem_append_right _ (List.mem_append_right _ (List.mem_append_right _ (List.mem_append_right _ (List.mem_append_right _ (List.mem_append_right _ (List.mem_append_right _ (List.mem_append_right _ (List.mem_append_right _ (List.mem_append_right _ (List.mem_append_right _ (List.mem_of_getElem? (i := 176) rfl))))))))))))))))
set_option maxRecDepth 20000 in
theorem tw_2564 : (.code yX12_shown cX12_shown 2 (some .int) : Cond) ∈ lw_tbl := (List.mem_append_right _ (List.mem_append_right _ (List.mem_append_right _ (List.mem_append_right _ (List.mem_append_right _ (List.mem_append_right _ (List.mem_append_right _ (List.mem_append_right _ (List.mem_append_right _ (List.mem_append_right _ (List.mem_append_right _ (List.mem_append_right _ (List.mem_append_right _ (List.mem_append_right _ (List.mem_append_right _ (List.mem_of_getElem? (i := 180) rfl))))))))))))))))
set_option maxRecDepth 20000 in
theorem tw_2565 : (.code yX12_shape cX12_shape 4 (some .int) : Cond) ∈ lw_tbl := (List.mem_append_right _ (List.mem_append_right _ (List.mem_append_right _ (List.mem_append_right _ (List.mem_append_right _ (List.mem_append_right _ (List.mem_append_right _ (List.mem_append_right _ (List.mem_append_right _ (List.mem_append_right _ (List.mem_append_right _ (List.mem_append_right _ (List.mem_append_right _ (List.mem_append_right _ (List.mem_append_right _ (List.mem_of_getElem? (i := 184) rfl))))))))))))))))
set_option maxRecDepth 20000 in
theorem tw_2566 : (.code yX12_order cX12_order 2 (some .int) : Cond) ∈ lw_tbl := (List.mem_append_right _ (List.mem_append_right _ (List.mem_append_right _ (List.mem_append_right _ (List.mem_append_right _ (List.mem_append_right _ (List.mem_append_right _ (List.mem_append_right _ (List.mem_append_right _ (List.mem_append_right _ (List.mem_append_right _ (List.mem_append_right _ (List.mem_append_right _ (List.mem_append_right _ (List.mem_append_right _ (List.mem_of_getElem? (i := 188) rfl))))))))))))))))
set_option maxRecDepth 20000 in
theorem tw_2567 : (.code yX12_count cX12_count 2 (some .int) : Cond) ∈ lw_tbl := (List.mem_append_right _ (List.mem_append_right _ (List.mem_append_right _ (List.mem_append_right _ (List.mem_append_right _ (List.mem_append_right _ (List.mem_append_right _ (List.mem_append_right _ (List.mem_append_right _ (List.mem_append_right _ (List.mem_append_right _ (List.mem_append_right _ (List.mem_append_right _ (List.mem_append_right _ (List.mem_append_right _ (List.mem_of_getElem? (i := 192) rfl))))))))))))))))
set_option maxRecDepth 20000 in
theorem tw_2568 : (.code yX11_fault cX11_fault 1 (some .int) : Cond) ∈ lw_tbl := (List.mem_append_right _ (List.mem_append_right _ (List.mem_append_right _ (List.mem_append_right _ (List.mem_append_right _ (List.mem_append_left _ (List.mem_of_getElem? (i := 207) rfl)))))))
set_option maxRecDepth 20000 in
theorem tw_2569 : (.code yX11_order cX11_order 1 (some .int) : Cond) ∈ lw_tbl := (List.mem_append_right _ (List.mem_append_right _ (List.mem_append_right _ (List.mem_append_right _ (List.mem_append_right _ (List.mem_append_left _ (List.mem_of_getElem? (i := 211) rfl)))))))
set_option maxRecDepth 20000 in
theorem tw_2570 : (.code yX11_program cX11_program 3 (some .int) : Cond) ∈ lw_tbl := (List.mem_append_right _ (List.mem_append_right _ (List.mem_append_right _ (List.mem_append_left _ (List.mem_of_getElem? (i := 210) rfl)))))
set_option maxRecDepth 20000 in
theorem tw_2571 : (.codeWith yL_feed cL_feed 8 (some .int) [(0, 16, 19, 13)] : Cond) ∈ lw_tbl := (List.mem_append_right _ (List.mem_append_right _ (List.mem_append_right _ (List.mem_append_right _ (List.mem_append_right _ (List.mem_append_left _ (List.mem_of_getElem? (i := 228) rfl)))))))
set_option maxRecDepth 20000 in
theorem tw_2572 : (.codeWith yL_end cL_end 3 (some .int) [(0, 5, 8, 19)] : Cond) ∈ lw_tbl := (List.mem_append_right _ (List.mem_append_right _ (List.mem_append_right _ (List.mem_append_right _ (List.mem_append_right _ (List.mem_append_right _ (List.mem_append_left _ (List.mem_of_getElem? (i := 16) rfl))))))))
set_option maxRecDepth 20000 in
theorem tw_2573 : (.codeWith yL_start cL_start 4 (some .int) [(0, 5, 8, 25)] : Cond) ∈ lw_tbl := (List.mem_append_right _ (List.mem_append_right _ (List.mem_append_right _ (List.mem_append_right _ (List.mem_append_right _ (List.mem_append_right _ (List.mem_append_left _ (List.mem_of_getElem? (i := 26) rfl))))))))
set_option maxRecDepth 20000 in
theorem tw_2574 : (.codeWith yL_step cL_step 4 (some .int) [(0, 9, 12, 25), (0, 9, 15, 19)] : Cond) ∈ lw_tbl := (List.mem_append_right _ (List.mem_append_right _ (List.mem_append_right _ (List.mem_append_right _ (List.mem_append_right _ (List.mem_append_right _ (List.mem_append_right _ (List.mem_append_right _ (List.mem_append_right _ (List.mem_append_left _ (List.mem_of_getElem? (i := 157) rfl)))))))))))
set_option maxRecDepth 20000 in
theorem tw_2575 : (.codeWith yL_back cL_back 4 (some .int) [(0, 9, 12, 25), (0, 9, 15, 19)] : Cond) ∈ lw_tbl := (List.mem_append_right _ (List.mem_append_right _ (List.mem_append_right _ (List.mem_append_right _ (List.mem_append_right _ (List.mem_append_right _ (List.mem_append_right _ (List.mem_append_right _ (List.mem_append_right _ (List.mem_append_left _ (List.mem_of_getElem? (i := 168) rfl)))))))))))
set_option maxRecDepth 20000 in
theorem tw_2576 : (.codeWith yL_state cL_state 4 (some .int) [(0, 9, 12, 37), (0, 9, 15, 25)] : Cond) ∈ lw_tbl := (List.mem_append_right _ (List.mem_append_right _ (List.mem_append_right _ (List.mem_append_right _ (List.mem_append_right _ (List.mem_append_right _ (List.mem_append_right _ (List.mem_append_right _ (List.mem_append_right _ (List.mem_append_left _ (List.mem_of_getElem? (i := 184) rfl)))))))))))
set_option maxRecDepth 20000 in
theorem tw_2577 : (.codeWith yL_out cL_out 4 (some .int) [(0, 9, 12, 37)] : Cond) ∈ lw_tbl := (List.mem_append_right _ (List.mem_append_right _ (List.mem_append_right _ (List.mem_append_right _ (List.mem_append_right _ (List.mem_append_right _ (List.mem_append_right _ (List.mem_append_right _ (List.mem_append_right _ (List.mem_append_left _ (List.mem_of_getElem? (i := 207) rfl)))))))))))
set_option maxRecDepth 20000 in
theorem tw_2578 : (.codeWith yL_value cL_value 3 (some .int) [(0, 8, 11, 25), (0, 8, 14, 19)] : Cond) ∈ lw_tbl := (List.mem_append_right _ (List.mem_append_right _ (List.mem_append_right _ (List.mem_append_right _ (List.mem_append_right _ (List.mem_append_right _ (List.mem_append_right _ (List.mem_append_right _ (List.mem_append_right _ (List.mem_append_left _ (List.mem_of_getElem? (i := 215) rfl)))))))))))
set_option maxRecDepth 20000 in
theorem tw_2579 : (.codeWith yL_work cL_work 3 (some .int) [(0, 8, 11, 25)] : Cond) ∈ lw_tbl := (List.mem_append_right _ (List.mem_append_right _ (List.mem_append_right _ (List.mem_append_right _ (List.mem_append_right _ (List.mem_append_right _ (List.mem_append_right _ (List.mem_append_right _ (List.mem_append_right _ (List.mem_append_left _ (List.mem_of_getElem? (i := 237) rfl)))))))))))
set_option maxRecDepth 20000 in
theorem tw_2580 : (.codeWith yL_view cL_view 3 (some .int) [(0, 8, 11, 25), (0, 8, 14, 13)] : Cond) ∈ lw_tbl := (List.mem_append_right _ (List.mem_append_right _ (List.mem_append_right _ (List.mem_append_right _ (List.mem_append_right _ (List.mem_append_right _ (List.mem_append_right _ (List.mem_append_right _ (List.mem_append_right _ (List.mem_append_right _ (List.mem_append_left _ (List.mem_of_getElem? (i := 13) rfl))))))))))))
set_option maxRecDepth 20000 in
theorem tw_2581 : (.codeWith yL_round cL_round 3 (some .int) [(0, 8, 11, 25)] : Cond) ∈ lw_tbl := (List.mem_append_right _ (List.mem_append_right _ (List.mem_append_right _ (List.mem_append_right _ (List.mem_append_right _ (List.mem_append_right _ (List.mem_append_right _ (List.mem_append_right _ (List.mem_append_right _ (List.mem_append_right _ (List.mem_append_left _ (List.mem_of_getElem? (i := 20) rfl))))))))))))
set_option maxRecDepth 20000 in
theorem tw_2582 : (.codeWith yL_seen cL_seen 5 (some .int) [(0, 10, 13, 37), (0, 10, 17, 25)] : Cond) ∈ lw_tbl := (List.mem_append_right _ (List.mem_append_right _ (List.mem_append_right _ (List.mem_append_right _ (List.mem_append_right _ (List.mem_append_right _ (List.mem_append_right _ (List.mem_append_right _ (List.mem_append_right _ (List.mem_append_right _ (List.mem_append_left _ (List.mem_of_getElem? (i := 35) rfl))))))))))))
set_option maxRecDepth 20000 in
theorem tw_2583 : (.codeWith yL_shown cL_shown 4 (some .int) [(0, 9, 12, 37)] : Cond) ∈ lw_tbl := (List.mem_append_right _ (List.mem_append_right _ (List.mem_append_right _ (List.mem_append_right _ (List.mem_append_right _ (List.mem_append_right _ (List.mem_append_right _ (List.mem_append_right _ (List.mem_append_right _ (List.mem_append_right _ (List.mem_append_left _ (List.mem_of_getElem? (i := 42) rfl))))))))))))
set_option maxRecDepth 20000 in
theorem tw_2584 : (.codeWith yL_shape cL_shape 4 (some .int) [(0, 9, 12, 37)] : Cond) ∈ lw_tbl := (List.mem_append_right _ (List.mem_append_right _ (List.mem_append_right _ (List.mem_append_right _ (List.mem_append_right _ (List.mem_append_right _ (List.mem_append_right _ (List.mem_append_right _ (List.mem_append_right _ (List.mem_append_right _ (List.mem_append_left _ (List.mem_of_getElem? (i := 49) rfl))))))))))))
set_option maxRecDepth 20000 in
theorem tw_2585 : (.codeWith yL_count cL_count 4 (some .int) [(0, 9, 12, 37)] : Cond) ∈ lw_tbl := (List.mem_append_right _ (List.mem_append_right _ (List.mem_append_right _ (List.mem_append_right _ (List.mem_append_right _ (List.mem_append_right _ (List.mem_append_right _ (List.mem_append_right _ (List.mem_append_right _ (List.mem_append_right _ (List.mem_append_left _ (List.mem_of_getElem? (i := 58) rfl))))))))))))
theorem raw_0 : ∀ w ∈ (vx_at0 RX11 167 "java/lang/IllegalStateException" ["java/lang/RuntimeException", "java/lang/Exception"]).filter goodWord, w ∈ lw_tbl := by decide +kernel
theorem raw_1 : ∀ w ∈ (vx_at0 RX11 129 "java/lang/IllegalArgumentException" ["java/lang/RuntimeException", "java/lang/Exception"]).filter goodWord, w ∈ lw_tbl := by decide +kernel
theorem raw_2 : ∀ w ∈ (vx_at0 RX11 196 "java/lang/IndexOutOfBoundsException" ["java/lang/RuntimeException", "java/lang/Exception"]).filter goodWord, w ∈ lw_tbl := by decide +kernel
theorem raw_3 : ∀ w ∈ (vx_at0 RX11 122 "java/lang/UnsupportedOperationException" ["java/lang/RuntimeException", "java/lang/Exception"]).filter goodWord, w ∈ lw_tbl := by decide +kernel
theorem raw_4 : ∀ w ∈ (vx_at0 RX2 64 "java/lang/IllegalArgumentException" ["java/lang/RuntimeException", "java/lang/Exception"]).filter goodWord, w ∈ lw_tbl := by decide +kernel
theorem raw_5 : ∀ w ∈ (vx_at0 RX5 124 "java/lang/IllegalArgumentException" ["java/lang/RuntimeException", "java/lang/Exception"]).filter goodWord, w ∈ lw_tbl := by decide +kernel
theorem raw_6 : ∀ w ∈ (vx_at0 RX7 97 "java/lang/IllegalArgumentException" ["java/lang/RuntimeException", "java/lang/Exception"]).filter goodWord, w ∈ lw_tbl := by decide +kernel
set_option maxRecDepth 20000 in
theorem fin_X0 : ∀ w ∈ wsX00, w ∈ lw_tbl := fun w h => by
  obtain ⟨j, hj, rfl⟩ := List.mem_map.mp h
  exact (match j, List.mem_range.mp hj with
  | 0, _ => (List.mem_append_right _ (List.mem_append_left _ (List.mem_of_getElem? (i := 135) rfl)))
  | 1, _ => (List.mem_append_right _ (List.mem_append_left _ (List.mem_of_getElem? (i := 137) rfl)))
  | 2, _ => (List.mem_append_right _ (List.mem_append_left _ (List.mem_of_getElem? (i := 139) rfl)))
  | 3, _ => (List.mem_append_right _ (List.mem_append_left _ (List.mem_of_getElem? (i := 141) rfl)))
  | 4, _ => (List.mem_append_right _ (List.mem_append_left _ (List.mem_of_getElem? (i := 143) rfl)))
  | 5, _ => (List.mem_append_right _ (List.mem_append_left _ (List.mem_of_getElem? (i := 145) rfl)))
  | n + 6, q => absurd q (by omega) : u_lay RX0 TX0 j ∈ lw_tbl)
set_option maxRecDepth 20000 in
theorem fin_X1 : ∀ w ∈ wsX10, w ∈ lw_tbl := fun w h => by
  obtain ⟨j, hj, rfl⟩ := List.mem_map.mp h
  exact (match j, List.mem_range.mp hj with
  | 0, _ => (List.mem_append_right _ (List.mem_append_left _ (List.mem_of_getElem? (i := 55) rfl)))
  | 1, _ => (List.mem_append_right _ (List.mem_append_left _ (List.mem_of_getElem? (i := 57) rfl)))
  | 2, _ => (List.mem_append_right _ (List.mem_append_left _ (List.mem_of_getElem? (i := 59) rfl)))
  | 3, _ => (List.mem_append_right _ (List.mem_append_left _ (List.mem_of_getElem? (i := 61) rfl)))
  | n + 4, q => absurd q (by omega) : u_lay RX1 TX1 j ∈ lw_tbl)
set_option maxRecDepth 20000 in
theorem fin_X2 : ∀ w ∈ wsX20, w ∈ lw_tbl := fun w h => by
  obtain ⟨j, hj, rfl⟩ := List.mem_map.mp h
  exact (match j, List.mem_range.mp hj with
  | 0, _ => (List.mem_append_right _ (List.mem_append_right _ (List.mem_append_left _ (List.mem_of_getElem? (i := 186) rfl))))
  | 1, _ => (List.mem_append_right _ (List.mem_append_right _ (List.mem_append_left _ (List.mem_of_getElem? (i := 188) rfl))))
  | 2, _ => (List.mem_append_right _ (List.mem_append_right _ (List.mem_append_left _ (List.mem_of_getElem? (i := 190) rfl))))
  | 3, _ => (List.mem_append_right _ (List.mem_append_right _ (List.mem_append_left _ (List.mem_of_getElem? (i := 192) rfl))))
  | 4, _ => (List.mem_append_right _ (List.mem_append_right _ (List.mem_append_left _ (List.mem_of_getElem? (i := 194) rfl))))
  | 5, _ => (List.mem_append_right _ (List.mem_append_right _ (List.mem_append_left _ (List.mem_of_getElem? (i := 196) rfl))))
  | 6, _ => (List.mem_append_right _ (List.mem_append_right _ (List.mem_append_left _ (List.mem_of_getElem? (i := 198) rfl))))
  | 7, _ => (List.mem_append_right _ (List.mem_append_right _ (List.mem_append_left _ (List.mem_of_getElem? (i := 200) rfl))))
  | n + 8, q => absurd q (by omega) : u_lay RX2 TX2 j ∈ lw_tbl)
set_option maxRecDepth 20000 in
theorem fin_X3 : ∀ w ∈ wsX30, w ∈ lw_tbl := fun w h => by
  obtain ⟨j, hj, rfl⟩ := List.mem_map.mp h
  exact (match j, List.mem_range.mp hj with
  | 0, _ => (List.mem_append_right _ (List.mem_append_right _ (List.mem_append_left _ (List.mem_of_getElem? (i := 70) rfl))))
  | 1, _ => (List.mem_append_right _ (List.mem_append_right _ (List.mem_append_left _ (List.mem_of_getElem? (i := 72) rfl))))
  | 2, _ => (List.mem_append_right _ (List.mem_append_right _ (List.mem_append_left _ (List.mem_of_getElem? (i := 74) rfl))))
  | 3, _ => (List.mem_append_right _ (List.mem_append_right _ (List.mem_append_left _ (List.mem_of_getElem? (i := 76) rfl))))
  | 4, _ => (List.mem_append_right _ (List.mem_append_right _ (List.mem_append_left _ (List.mem_of_getElem? (i := 78) rfl))))
  | 5, _ => (List.mem_append_right _ (List.mem_append_right _ (List.mem_append_left _ (List.mem_of_getElem? (i := 80) rfl))))
  | 6, _ => (List.mem_append_right _ (List.mem_append_right _ (List.mem_append_left _ (List.mem_of_getElem? (i := 82) rfl))))
  | 7, _ => (List.mem_append_right _ (List.mem_append_right _ (List.mem_append_left _ (List.mem_of_getElem? (i := 84) rfl))))
  | 8, _ => (List.mem_append_right _ (List.mem_append_right _ (List.mem_append_left _ (List.mem_of_getElem? (i := 86) rfl))))
  | 9, _ => (List.mem_append_right _ (List.mem_append_right _ (List.mem_append_left _ (List.mem_of_getElem? (i := 88) rfl))))
  | 10, _ => (List.mem_append_right _ (List.mem_append_right _ (List.mem_append_left _ (List.mem_of_getElem? (i := 90) rfl))))
  | 11, _ => (List.mem_append_right _ (List.mem_append_right _ (List.mem_append_left _ (List.mem_of_getElem? (i := 92) rfl))))
  | 12, _ => (List.mem_append_right _ (List.mem_append_right _ (List.mem_append_left _ (List.mem_of_getElem? (i := 94) rfl))))
  | 13, _ => (List.mem_append_right _ (List.mem_append_right _ (List.mem_append_left _ (List.mem_of_getElem? (i := 96) rfl))))
  | 14, _ => (List.mem_append_right _ (List.mem_append_right _ (List.mem_append_left _ (List.mem_of_getElem? (i := 98) rfl))))
  | 15, _ => (List.mem_append_right _ (List.mem_append_right _ (List.mem_append_left _ (List.mem_of_getElem? (i := 100) rfl))))
  | 16, _ => (List.mem_append_right _ (List.mem_append_right _ (List.mem_append_left _ (List.mem_of_getElem? (i := 102) rfl))))
  | 17, _ => (List.mem_append_right _ (List.mem_append_right _ (List.mem_append_left _ (List.mem_of_getElem? (i := 104) rfl))))
  | 18, _ => (List.mem_append_right _ (List.mem_append_right _ (List.mem_append_left _ (List.mem_of_getElem? (i := 106) rfl))))
  | 19, _ => (List.mem_append_right _ (List.mem_append_right _ (List.mem_append_left _ (List.mem_of_getElem? (i := 108) rfl))))
  | n + 20, q => absurd q (by omega) : u_lay RX3 TX3 j ∈ lw_tbl)
set_option maxRecDepth 20000 in
theorem fin_X5 : ∀ w ∈ wsX50, w ∈ lw_tbl := fun w h => by
  obtain ⟨j, hj, rfl⟩ := List.mem_map.mp h
  exact (match j, List.mem_range.mp hj with
  | 0, _ => (List.mem_append_right _ (List.mem_append_right _ (List.mem_append_left _ (List.mem_of_getElem? (i := 233) rfl))))
  | 1, _ => (List.mem_append_right _ (List.mem_append_right _ (List.mem_append_left _ (List.mem_of_getElem? (i := 235) rfl))))
  | 2, _ => (List.mem_append_right _ (List.mem_append_right _ (List.mem_append_left _ (List.mem_of_getElem? (i := 237) rfl))))
  | 3, _ => (List.mem_append_right _ (List.mem_append_right _ (List.mem_append_left _ (List.mem_of_getElem? (i := 239) rfl))))
  | 4, _ => (List.mem_append_right _ (List.mem_append_right _ (List.mem_append_right _ (List.mem_append_left _ (List.mem_of_getElem? (i := 1) rfl)))))
  | 5, _ => (List.mem_append_right _ (List.mem_append_right _ (List.mem_append_right _ (List.mem_append_left _ (List.mem_of_getElem? (i := 3) rfl)))))
  | 6, _ => (List.mem_append_right _ (List.mem_append_right _ (List.mem_append_right _ (List.mem_append_left _ (List.mem_of_getElem? (i := 5) rfl)))))
  | 7, _ => (List.mem_append_right _ (List.mem_append_right _ (List.mem_append_right _ (List.mem_append_left _ (List.mem_of_getElem? (i := 7) rfl)))))
  | 8, _ => (List.mem_append_right _ (List.mem_append_right _ (List.mem_append_right _ (List.mem_append_left _ (List.mem_of_getElem? (i := 9) rfl)))))
  | 9, _ => (List.mem_append_right _ (List.mem_append_right _ (List.mem_append_right _ (List.mem_append_left _ (List.mem_of_getElem? (i := 11) rfl)))))
  | 10, _ => (List.mem_append_right _ (List.mem_append_right _ (List.mem_append_right _ (List.mem_append_left _ (List.mem_of_getElem? (i := 13) rfl)))))
  | 11, _ => (List.mem_append_right _ (List.mem_append_right _ (List.mem_append_right _ (List.mem_append_left _ (List.mem_of_getElem? (i := 15) rfl)))))
  | 12, _ => (List.mem_append_right _ (List.mem_append_right _ (List.mem_append_right _ (List.mem_append_left _ (List.mem_of_getElem? (i := 17) rfl)))))
  | 13, _ => (List.mem_append_right _ (List.mem_append_right _ (List.mem_append_right _ (List.mem_append_left _ (List.mem_of_getElem? (i := 19) rfl)))))
  | 14, _ => (List.mem_append_right _ (List.mem_append_right _ (List.mem_append_right _ (List.mem_append_left _ (List.mem_of_getElem? (i := 21) rfl)))))
  | 15, _ => (List.mem_append_right _ (List.mem_append_right _ (List.mem_append_right _ (List.mem_append_left _ (List.mem_of_getElem? (i := 23) rfl)))))
  | 16, _ => (List.mem_append_right _ (List.mem_append_right _ (List.mem_append_right _ (List.mem_append_left _ (List.mem_of_getElem? (i := 25) rfl)))))
  | 17, _ => (List.mem_append_right _ (List.mem_append_right _ (List.mem_append_right _ (List.mem_append_left _ (List.mem_of_getElem? (i := 27) rfl)))))
  | 18, _ => (List.mem_append_right _ (List.mem_append_right _ (List.mem_append_right _ (List.mem_append_left _ (List.mem_of_getElem? (i := 29) rfl)))))
  | 19, _ => (List.mem_append_right _ (List.mem_append_right _ (List.mem_append_right _ (List.mem_append_left _ (List.mem_of_getElem? (i := 31) rfl)))))
  | 20, _ => (List.mem_append_right _ (List.mem_append_right _ (List.mem_append_right _ (List.mem_append_left _ (List.mem_of_getElem? (i := 33) rfl)))))
  | n + 21, q => absurd q (by omega) : u_lay RX5 TX5 j ∈ lw_tbl)
set_option maxRecDepth 20000 in
theorem fin_X6 : ∀ w ∈ wsX60, w ∈ lw_tbl := fun w h => by
  obtain ⟨j, hj, rfl⟩ := List.mem_map.mp h
  exact (match j, List.mem_range.mp hj with
  | 0, _ => (List.mem_append_right _ (List.mem_append_left _ (List.mem_of_getElem? (i := 113) rfl)))
  | 1, _ => (List.mem_append_right _ (List.mem_append_left _ (List.mem_of_getElem? (i := 115) rfl)))
  | 2, _ => (List.mem_append_right _ (List.mem_append_left _ (List.mem_of_getElem? (i := 117) rfl)))
  | 3, _ => (List.mem_append_right _ (List.mem_append_left _ (List.mem_of_getElem? (i := 119) rfl)))
  | n + 4, q => absurd q (by omega) : u_lay RX6 TX6 j ∈ lw_tbl)
set_option maxRecDepth 20000 in
theorem fin_X7 : ∀ w ∈ wsX70, w ∈ lw_tbl := fun w h => by
  obtain ⟨j, hj, rfl⟩ := List.mem_map.mp h
  exact (match j, List.mem_range.mp hj with
  | 0, _ => (List.mem_append_right _ (List.mem_append_right _ (List.mem_append_right _ (List.mem_append_left _ (List.mem_of_getElem? (i := 92) rfl)))))
  | 1, _ => (List.mem_append_right _ (List.mem_append_right _ (List.mem_append_right _ (List.mem_append_left _ (List.mem_of_getElem? (i := 94) rfl)))))
  | 2, _ => (List.mem_append_right _ (List.mem_append_right _ (List.mem_append_right _ (List.mem_append_left _ (List.mem_of_getElem? (i := 96) rfl)))))
  | 3, _ => (List.mem_append_right _ (List.mem_append_right _ (List.mem_append_right _ (List.mem_append_left _ (List.mem_of_getElem? (i := 98) rfl)))))
  | 4, _ => (List.mem_append_right _ (List.mem_append_right _ (List.mem_append_right _ (List.mem_append_left _ (List.mem_of_getElem? (i := 100) rfl)))))
  | 5, _ => (List.mem_append_right _ (List.mem_append_right _ (List.mem_append_right _ (List.mem_append_left _ (List.mem_of_getElem? (i := 102) rfl)))))
  | 6, _ => (List.mem_append_right _ (List.mem_append_right _ (List.mem_append_right _ (List.mem_append_left _ (List.mem_of_getElem? (i := 104) rfl)))))
  | 7, _ => (List.mem_append_right _ (List.mem_append_right _ (List.mem_append_right _ (List.mem_append_left _ (List.mem_of_getElem? (i := 106) rfl)))))
  | 8, _ => (List.mem_append_right _ (List.mem_append_right _ (List.mem_append_right _ (List.mem_append_left _ (List.mem_of_getElem? (i := 108) rfl)))))
  | 9, _ => (List.mem_append_right _ (List.mem_append_right _ (List.mem_append_right _ (List.mem_append_left _ (List.mem_of_getElem? (i := 110) rfl)))))
  | 10, _ => (List.mem_append_right _ (List.mem_append_right _ (List.mem_append_right _ (List.mem_append_left _ (List.mem_of_getElem? (i := 112) rfl)))))
  | 11, _ => (List.mem_append_right _ (List.mem_append_right _ (List.mem_append_right _ (List.mem_append_left _ (List.mem_of_getElem? (i := 114) rfl)))))
  | 12, _ => (List.mem_append_right _ (List.mem_append_right _ (List.mem_append_right _ (List.mem_append_left _ (List.mem_of_getElem? (i := 116) rfl)))))
  | 13, _ => (List.mem_append_right _ (List.mem_append_right _ (List.mem_append_right _ (List.mem_append_left _ (List.mem_of_getElem? (i := 118) rfl)))))
  | 14, _ => (List.mem_append_right _ (List.mem_append_right _ (List.mem_append_right _ (List.mem_append_left _ (List.mem_of_getElem? (i := 120) rfl)))))
  | 15, _ => (List.mem_append_right _ (List.mem_append_right _ (List.mem_append_right _ (List.mem_append_left _ (List.mem_of_getElem? (i := 122) rfl)))))
  | 16, _ => (List.mem_append_right _ (List.mem_append_right _ (List.mem_append_right _ (List.mem_append_left _ (List.mem_of_getElem? (i := 124) rfl)))))
  | 17, _ => (List.mem_append_right _ (List.mem_append_right _ (List.mem_append_right _ (List.mem_append_left _ (List.mem_of_getElem? (i := 126) rfl)))))
  | 18, _ => (List.mem_append_right _ (List.mem_append_right _ (List.mem_append_right _ (List.mem_append_left _ (List.mem_of_getElem? (i := 128) rfl)))))
  | 19, _ => (List.mem_append_right _ (List.mem_append_right _ (List.mem_append_right _ (List.mem_append_left _ (List.mem_of_getElem? (i := 130) rfl)))))
  | n + 20, q => absurd q (by omega) : u_lay RX7 TX7 j ∈ lw_tbl)
set_option maxRecDepth 20000 in
theorem fin_X8 : ∀ w ∈ wsX80, w ∈ lw_tbl := fun w h => by
  obtain ⟨j, hj, rfl⟩ := List.mem_map.mp h
  exact (match j, List.mem_range.mp hj with
  | 0, _ => (List.mem_append_right _ (List.mem_append_left _ (List.mem_of_getElem? (i := 210) rfl)))
  | 1, _ => (List.mem_append_right _ (List.mem_append_left _ (List.mem_of_getElem? (i := 212) rfl)))
  | 2, _ => (List.mem_append_right _ (List.mem_append_left _ (List.mem_of_getElem? (i := 214) rfl)))
  | 3, _ => (List.mem_append_right _ (List.mem_append_left _ (List.mem_of_getElem? (i := 216) rfl)))
  | 4, _ => (List.mem_append_right _ (List.mem_append_left _ (List.mem_of_getElem? (i := 218) rfl)))
  | 5, _ => (List.mem_append_right _ (List.mem_append_left _ (List.mem_of_getElem? (i := 220) rfl)))
  | 6, _ => (List.mem_append_right _ (List.mem_append_left _ (List.mem_of_getElem? (i := 222) rfl)))
  | 7, _ => (List.mem_append_right _ (List.mem_append_left _ (List.mem_of_getElem? (i := 224) rfl)))
  | 8, _ => (List.mem_append_right _ (List.mem_append_left _ (List.mem_of_getElem? (i := 226) rfl)))
  | 9, _ => (List.mem_append_right _ (List.mem_append_left _ (List.mem_of_getElem? (i := 228) rfl)))
  | 10, _ => (List.mem_append_right _ (List.mem_append_left _ (List.mem_of_getElem? (i := 230) rfl)))
  | 11, _ => (List.mem_append_right _ (List.mem_append_left _ (List.mem_of_getElem? (i := 232) rfl)))
  | 12, _ => (List.mem_append_right _ (List.mem_append_left _ (List.mem_of_getElem? (i := 234) rfl)))
  | 13, _ => (List.mem_append_right _ (List.mem_append_left _ (List.mem_of_getElem? (i := 236) rfl)))
  | 14, _ => (List.mem_append_right _ (List.mem_append_left _ (List.mem_of_getElem? (i := 238) rfl)))
  | 15, _ => (List.mem_append_right _ (List.mem_append_right _ (List.mem_append_left _ (List.mem_of_getElem? (i := 0) rfl))))
  | 16, _ => (List.mem_append_right _ (List.mem_append_right _ (List.mem_append_left _ (List.mem_of_getElem? (i := 2) rfl))))
  | n + 17, q => absurd q (by omega) : u_lay RX8 TX8 j ∈ lw_tbl)
set_option maxRecDepth 20000 in
theorem fin_X9 : ∀ w ∈ wsX90, w ∈ lw_tbl := fun w h => by
  obtain ⟨j, hj, rfl⟩ := List.mem_map.mp h
  exact (match j, List.mem_range.mp hj with
  | 0, _ => (List.mem_append_right _ (List.mem_append_right _ (List.mem_append_left _ (List.mem_of_getElem? (i := 28) rfl))))
  | 1, _ => (List.mem_append_right _ (List.mem_append_right _ (List.mem_append_left _ (List.mem_of_getElem? (i := 30) rfl))))
  | 2, _ => (List.mem_append_right _ (List.mem_append_right _ (List.mem_append_left _ (List.mem_of_getElem? (i := 32) rfl))))
  | 3, _ => (List.mem_append_right _ (List.mem_append_right _ (List.mem_append_left _ (List.mem_of_getElem? (i := 34) rfl))))
  | 4, _ => (List.mem_append_right _ (List.mem_append_right _ (List.mem_append_left _ (List.mem_of_getElem? (i := 36) rfl))))
  | 5, _ => (List.mem_append_right _ (List.mem_append_right _ (List.mem_append_left _ (List.mem_of_getElem? (i := 38) rfl))))
  | 6, _ => (List.mem_append_right _ (List.mem_append_right _ (List.mem_append_left _ (List.mem_of_getElem? (i := 40) rfl))))
  | 7, _ => (List.mem_append_right _ (List.mem_append_right _ (List.mem_append_left _ (List.mem_of_getElem? (i := 42) rfl))))
  | 8, _ => (List.mem_append_right _ (List.mem_append_right _ (List.mem_append_left _ (List.mem_of_getElem? (i := 44) rfl))))
  | n + 9, q => absurd q (by omega) : u_lay RX9 TX9 j ∈ lw_tbl)
set_option maxRecDepth 20000 in
theorem fin_X10 : ∀ w ∈ wsX100, w ∈ lw_tbl := fun w h => by
  obtain ⟨j, hj, rfl⟩ := List.mem_map.mp h
  exact (match j, List.mem_range.mp hj with
  | 0, _ => (List.mem_append_right _ (List.mem_append_left _ (List.mem_of_getElem? (i := 80) rfl)))
  | 1, _ => (List.mem_append_right _ (List.mem_append_left _ (List.mem_of_getElem? (i := 82) rfl)))
  | 2, _ => (List.mem_append_right _ (List.mem_append_left _ (List.mem_of_getElem? (i := 84) rfl)))
  | 3, _ => (List.mem_append_right _ (List.mem_append_left _ (List.mem_of_getElem? (i := 86) rfl)))
  | 4, _ => (List.mem_append_right _ (List.mem_append_left _ (List.mem_of_getElem? (i := 88) rfl)))
  | 5, _ => (List.mem_append_right _ (List.mem_append_left _ (List.mem_of_getElem? (i := 90) rfl)))
  | 6, _ => (List.mem_append_right _ (List.mem_append_left _ (List.mem_of_getElem? (i := 92) rfl)))
  | 7, _ => (List.mem_append_right _ (List.mem_append_left _ (List.mem_of_getElem? (i := 94) rfl)))
  | 8, _ => (List.mem_append_right _ (List.mem_append_left _ (List.mem_of_getElem? (i := 96) rfl)))
  | n + 9, q => absurd q (by omega) : u_lay RX10 TX10 j ∈ lw_tbl)
set_option maxRecDepth 20000 in
theorem fin_X11 : ∀ w ∈ wsX110, w ∈ lw_tbl := fun w h => by
  obtain ⟨j, hj, rfl⟩ := List.mem_map.mp h
  exact (match j, List.mem_range.mp hj with
  | 0, _ => (List.mem_append_right _ (List.mem_append_right _ (List.mem_append_right _ (List.mem_append_left _ (List.mem_of_getElem? (i := 166) rfl)))))
  | 1, _ => (List.mem_append_right _ (List.mem_append_right _ (List.mem_append_right _ (List.mem_append_left _ (List.mem_of_getElem? (i := 168) rfl)))))
  | 2, _ => (List.mem_append_right _ (List.mem_append_right _ (List.mem_append_right _ (List.mem_append_left _ (List.mem_of_getElem? (i := 170) rfl)))))
  | 3, _ => (List.mem_append_right _ (List.mem_append_right _ (List.mem_append_right _ (List.mem_append_left _ (List.mem_of_getElem? (i := 172) rfl)))))
  | 4, _ => (List.mem_append_right _ (List.mem_append_right _ (List.mem_append_right _ (List.mem_append_left _ (List.mem_of_getElem? (i := 174) rfl)))))
  | 5, _ => (List.mem_append_right _ (List.mem_append_right _ (List.mem_append_right _ (List.mem_append_left _ (List.mem_of_getElem? (i := 176) rfl)))))
  | 6, _ => (List.mem_append_right _ (List.mem_append_right _ (List.mem_append_right _ (List.mem_append_left _ (List.mem_of_getElem? (i := 178) rfl)))))
  | 7, _ => (List.mem_append_right _ (List.mem_append_right _ (List.mem_append_right _ (List.mem_append_left _ (List.mem_of_getElem? (i := 180) rfl)))))
  | 8, _ => (List.mem_append_right _ (List.mem_append_right _ (List.mem_append_right _ (List.mem_append_left _ (List.mem_of_getElem? (i := 182) rfl)))))
  | 9, _ => (List.mem_append_right _ (List.mem_append_right _ (List.mem_append_right _ (List.mem_append_left _ (List.mem_of_getElem? (i := 184) rfl)))))
  | 10, _ => (List.mem_append_right _ (List.mem_append_right _ (List.mem_append_right _ (List.mem_append_left _ (List.mem_of_getElem? (i := 186) rfl)))))
  | 11, _ => (List.mem_append_right _ (List.mem_append_right _ (List.mem_append_right _ (List.mem_append_left _ (List.mem_of_getElem? (i := 188) rfl)))))
  | 12, _ => (List.mem_append_right _ (List.mem_append_right _ (List.mem_append_right _ (List.mem_append_left _ (List.mem_of_getElem? (i := 190) rfl)))))
  | 13, _ => (List.mem_append_right _ (List.mem_append_right _ (List.mem_append_right _ (List.mem_append_left _ (List.mem_of_getElem? (i := 192) rfl)))))
  | 14, _ => (List.mem_append_right _ (List.mem_append_right _ (List.mem_append_right _ (List.mem_append_left _ (List.mem_of_getElem? (i := 194) rfl)))))
  | 15, _ => (List.mem_append_right _ (List.mem_append_right _ (List.mem_append_right _ (List.mem_append_left _ (List.mem_of_getElem? (i := 196) rfl)))))
  | 16, _ => (List.mem_append_right _ (List.mem_append_right _ (List.mem_append_right _ (List.mem_append_left _ (List.mem_of_getElem? (i := 198) rfl)))))
  | 17, _ => (List.mem_append_right _ (List.mem_append_right _ (List.mem_append_right _ (List.mem_append_left _ (List.mem_of_getElem? (i := 200) rfl)))))
  | 18, _ => (List.mem_append_right _ (List.mem_append_right _ (List.mem_append_right _ (List.mem_append_left _ (List.mem_of_getElem? (i := 202) rfl)))))
  | 19, _ => (List.mem_append_right _ (List.mem_append_right _ (List.mem_append_right _ (List.mem_append_left _ (List.mem_of_getElem? (i := 204) rfl)))))
  | n + 20, q => absurd q (by omega) : u_lay RX11 TX11 j ∈ lw_tbl)
set_option maxRecDepth 20000 in
theorem fin_X12 : ∀ w ∈ wsX120, w ∈ lw_tbl := fun w h => by
  obtain ⟨j, hj, rfl⟩ := List.mem_map.mp h
  exact (match j, List.mem_range.mp hj with
  | 0, _ => (List.mem_append_right _ (List.mem_append_right _ (List.mem_append_right _ (List.mem_append_right _ (List.mem_append_right _ (List.mem_append_right _ (List.mem_append_right _ (List.mem_append_right _ (List.mem_append_right _ (List.mem_append_right _ (List.mem_append_left _ (List.mem_of_getElem? (i := 202) rfl))))))))))))
  | 1, _ => (List.mem_append_right _ (List.mem_append_right _ (List.mem_append_right _ (List.mem_append_right _ (List.mem_append_right _ (List.mem_append_right _ (List.mem_append_right _ (List.mem_append_right _ (List.mem_append_right _ (List.mem_append_right _ (List.mem_append_left _ (List.mem_of_getElem? (i := 204) rfl))))))))))))
  | 2, _ => (List.mem_append_right _ (List.mem_append_right _ (List.mem_append_right _ (List.mem_append_right _ (List.mem_append_right _ (List.mem_append_right _ (List.mem_append_right _ (List.mem_append_right _ (List.mem_append_right _ (List.mem_append_right _ (List.mem_append_left _ (List.mem_of_getElem? (i := 206) rfl))))))))))))
  | 3, _ => (List.mem_append_right _ (List.mem_append_right _ (List.mem_append_right _ (List.mem_append_right _ (List.mem_append_right _ (List.mem_append_right _ (List.mem_append_right _ (List.mem_append_right _ (List.mem_append_right _ (List.mem_append_right _ (List.mem_append_left _ (List.mem_of_getElem? (i := 208) rfl))))))))))))
  | 4, _ => (List.mem_append_right _ (List.mem_append_right _ (List.mem_append_right _ (List.mem_append_right _ (List.mem_append_right _ (List.mem_append_right _ (List.mem_append_right _ (List.mem_append_right _ (List.mem_append_right _ (List.mem_append_right _ (List.mem_append_left _ (List.mem_of_getElem? (i := 210) rfl))))))))))))
  | 5, _ => (List.mem_append_right _ (List.mem_append_right _ (List.mem_append_right _ (List.mem_append_right _ (List.mem_append_right _ (List.mem_append_right _ (List.mem_append_right _ (List.mem_append_right _ (List.mem_append_right _ (List.mem_append_right _ (List.mem_append_left _ (List.mem_of_getElem? (i := 212) rfl))))))))))))
  | 6, _ => (List.mem_append_right _ (List.mem_append_right _ (List.mem_append_right _ (List.mem_append_right _ (List.mem_append_right _ (List.mem_append_right _ (List.mem_append_right _ (List.mem_append_right _ (List.mem_append_right _ (List.mem_append_right _ (List.mem_append_left _ (List.mem_of_getElem? (i := 214) rfl))))))))))))
  | 7, _ => (List.mem_append_right _ (List.mem_append_right _ (List.mem_append_right _ (List.mem_append_right _ (List.mem_append_right _ (List.mem_append_right _ (List.mem_append_right _ (List.mem_append_right _ (List.mem_append_right _ (List.mem_append_right _ (List.mem_append_left _ (List.mem_of_getElem? (i := 216) rfl))))))))))))
  | 8, _ => (List.mem_append_right _ (List.mem_append_right _ (List.mem_append_right _ (List.mem_append_right _ (List.mem_append_right _ (List.mem_append_right _ (List.mem_append_right _ (List.mem_append_right _ (List.mem_append_right _ (List.mem_append_right _ (List.mem_append_left _ (List.mem_of_getElem? (i := 218) rfl))))))))))))
  | 9, _ => (List.mem_append_right _ (List.mem_append_right _ (List.mem_append_right _ (List.mem_append_right _ (List.mem_append_right _ (List.mem_append_right _ (List.mem_append_right _ (List.mem_append_right _ (List.mem_append_right _ (List.mem_append_right _ (List.mem_append_left _ (List.mem_of_getElem? (i := 220) rfl))))))))))))
  | 10, _ => (List.mem_append_right _ (List.mem_append_right _ (List.mem_append_right _ (List.mem_append_right _ (List.mem_append_right _ (List.mem_append_right _ (List.mem_append_right _ (List.mem_append_right _ (List.mem_append_right _ (List.mem_append_right _ (List.mem_append_left _ (List.mem_of_getElem? (i := 222) rfl))))))))))))
  | 11, _ => (List.mem_append_right _ (List.mem_append_right _ (List.mem_append_right _ (List.mem_append_right _ (List.mem_append_right _ (List.mem_append_right _ (List.mem_append_right _ (List.mem_append_right _ (List.mem_append_right _ (List.mem_append_right _ (List.mem_append_left _ (List.mem_of_getElem? (i := 224) rfl))))))))))))
  | 12, _ => (List.mem_append_right _ (List.mem_append_right _ (List.mem_append_right _ (List.mem_append_right _ (List.mem_append_right _ (List.mem_append_right _ (List.mem_append_right _ (List.mem_append_right _ (List.mem_append_right _ (List.mem_append_right _ (List.mem_append_left _ (List.mem_of_getElem? (i := 226) rfl))))))))))))
  | 13, _ => (List.mem_append_right _ (List.mem_append_right _ (List.mem_append_right _ (List.mem_append_right _ (List.mem_append_right _ (List.mem_append_right _ (List.mem_append_right _ (List.mem_append_right _ (List.mem_append_right _ (List.mem_append_right _ (List.mem_append_left _ (List.mem_of_getElem? (i := 228) rfl))))))))))))
  | 14, _ => (List.mem_append_right _ (List.mem_append_right _ (List.mem_append_right _ (List.mem_append_right _ (List.mem_append_right _ (List.mem_append_right _ (List.mem_append_right _ (List.mem_append_right _ (List.mem_append_right _ (List.mem_append_right _ (List.mem_append_left _ (List.mem_of_getElem? (i := 230) rfl))))))))))))
  | 15, _ => (List.mem_append_right _ (List.mem_append_right _ (List.mem_append_right _ (List.mem_append_right _ (List.mem_append_right _ (List.mem_append_right _ (List.mem_append_right _ (List.mem_append_right _ (List.mem_append_right _ (List.mem_append_right _ (List.mem_append_left _ (List.mem_of_getElem? (i := 232) rfl))))))))))))
  | 16, _ => (List.mem_append_right _ (List.mem_append_right _ (List.mem_append_right _ (List.mem_append_right _ (List.mem_append_right _ (List.mem_append_right _ (List.mem_append_right _ (List.mem_append_right _ (List.mem_append_right _ (List.mem_append_right _ (List.mem_append_left _ (List.mem_of_getElem? (i := 234) rfl))))))))))))
  | 17, _ => (List.mem_append_right _ (List.mem_append_right _ (List.mem_append_right _ (List.mem_append_right _ (List.mem_append_right _ (List.mem_append_right _ (List.mem_append_right _ (List.mem_append_right _ (List.mem_append_right _ (List.mem_append_right _ (List.mem_append_left _ (List.mem_of_getElem? (i := 236) rfl))))))))))))
  | 18, _ => (List.mem_append_right _ (List.mem_append_right _ (List.mem_append_right _ (List.mem_append_right _ (List.mem_append_right _ (List.mem_append_right _ (List.mem_append_right _ (List.mem_append_right _ (List.mem_append_right _ (List.mem_append_right _ (List.mem_append_left _ (List.mem_of_getElem? (i := 238) rfl))))))))))))
  | 19, _ => (List.mem_append_right _ (List.mem_append_right _ (List.mem_append_right _ (List.mem_append_right _ (List.mem_append_right _ (List.mem_append_right _ (List.mem_append_right _ (List.mem_append_right _ (List.mem_append_right _ (List.mem_append_right _ (List.mem_append_right _ (List.mem_append_left _ (List.mem_of_getElem? (i := 0) rfl)))))))))))))
  | 20, _ => (List.mem_append_right _ (List.mem_append_right _ (List.mem_append_right _ (List.mem_append_right _ (List.mem_append_right _ (List.mem_append_right _ (List.mem_append_right _ (List.mem_append_right _ (List.mem_append_right _ (List.mem_append_right _ (List.mem_append_right _ (List.mem_append_left _ (List.mem_of_getElem? (i := 2) rfl)))))))))))))
  | 21, _ => (List.mem_append_right _ (List.mem_append_right _ (List.mem_append_right _ (List.mem_append_right _ (List.mem_append_right _ (List.mem_append_right _ (List.mem_append_right _ (List.mem_append_right _ (List.mem_append_right _ (List.mem_append_right _ (List.mem_append_right _ (List.mem_append_left _ (List.mem_of_getElem? (i := 4) rfl)))))))))))))
  | 22, _ => (List.mem_append_right _ (List.mem_append_right _ (List.mem_append_right _ (List.mem_append_right _ (List.mem_append_right _ (List.mem_append_right _ (List.mem_append_right _ (List.mem_append_right _ (List.mem_append_right _ (List.mem_append_right _ (List.mem_append_right _ (List.mem_append_left _ (List.mem_of_getElem? (i := 6) rfl)))))))))))))
  | 23, _ => (List.mem_append_right _ (List.mem_append_right _ (List.mem_append_right _ (List.mem_append_right _ (List.mem_append_right _ (List.mem_append_right _ (List.mem_append_right _ (List.mem_append_right _ (List.mem_append_right _ (List.mem_append_right _ (List.mem_append_right _ (List.mem_append_left _ (List.mem_of_getElem? (i := 8) rfl)))))))))))))
  | 24, _ => (List.mem_append_right _ (List.mem_append_right _ (List.mem_append_right _ (List.mem_append_right _ (List.mem_append_right _ (List.mem_append_right _ (List.mem_append_right _ (List.mem_append_right _ (List.mem_append_right _ (List.mem_append_right _ (List.mem_append_right _ (List.mem_append_left _ (List.mem_of_getElem? (i := 10) rfl)))))))))))))
  | 25, _ => (List.mem_append_right _ (List.mem_append_right _ (List.mem_append_right _ (List.mem_append_right _ (List.mem_append_right _ (List.mem_append_right _ (List.mem_append_right _ (List.mem_append_right _ (List.mem_append_right _ (List.mem_append_right _ (List.mem_append_right _ (List.mem_append_left _ (List.mem_of_getElem? (i := 12) rfl)))))))))))))
  | 26, _ => (List.mem_append_right _ (List.mem_append_right _ (List.mem_append_right _ (List.mem_append_right _ (List.mem_append_right _ (List.mem_append_right _ (List.mem_append_right _ (List.mem_append_right _ (List.mem_append_right _ (List.mem_append_right _ (List.mem_append_right _ (List.mem_append_left _ (List.mem_of_getElem? (i := 14) rfl)))))))))))))
  | 27, _ => (List.mem_append_right _ (List.mem_append_right _ (List.mem_append_right _ (List.mem_append_right _ (List.mem_append_right _ (List.mem_append_right _ (List.mem_append_right _ (List.mem_append_right _ (List.mem_append_right _ (List.mem_append_right _ (List.mem_append_right _ (List.mem_append_left _ (List.mem_of_getElem? (i := 16) rfl)))))))))))))
  | 28, _ => (List.mem_append_right _ (List.mem_append_right _ (List.mem_append_right _ (List.mem_append_right _ (List.mem_append_right _ (List.mem_append_right _ (List.mem_append_right _ (List.mem_append_right _ (List.mem_append_right _ (List.mem_append_right _ (List.mem_append_right _ (List.mem_append_left _ (List.mem_of_getElem? (i := 18) rfl)))))))))))))
  | 29, _ => (List.mem_append_right _ (List.mem_append_right _ (List.mem_append_right _ (List.mem_append_right _ (List.mem_append_right _ (List.mem_append_right _ (List.mem_append_right _ (List.mem_append_right _ (List.mem_append_right _ (List.mem_append_right _ (List.mem_append_right _ (List.mem_append_left _ (List.mem_of_getElem? (i := 20) rfl)))))))))))))
  | 30, _ => (List.mem_append_right _ (List.mem_append_right _ (List.mem_append_right _ (List.mem_append_right _ (List.mem_append_right _ (List.mem_append_right _ (List.mem_append_right _ (List.mem_append_right _ (List.mem_append_right _ (List.mem_append_right _ (List.mem_append_right _ (List.mem_append_left _ (List.mem_of_getElem? (i := 22) rfl)))))))))))))
  | 31, _ => (List.mem_append_right _ (List.mem_append_right _ (List.mem_append_right _ (List.mem_append_right _ (List.mem_append_right _ (List.mem_append_right _ (List.mem_append_right _ (List.mem_append_right _ (List.mem_append_right _ (List.mem_append_right _ (List.mem_append_right _ (List.mem_append_left _ (List.mem_of_getElem? (i := 24) rfl)))))))))))))
  | 32, _ => (List.mem_append_right _ (List.mem_append_right _ (List.mem_append_right _ (List.mem_append_right _ (List.mem_append_right _ (List.mem_append_right _ (List.mem_append_right _ (List.mem_append_right _ (List.mem_append_right _ (List.mem_append_right _ (List.mem_append_right _ (List.mem_append_left _ (List.mem_of_getElem? (i := 26) rfl)))))))))))))
  | 33, _ => (List.mem_append_right _ (List.mem_append_right _ (List.mem_append_right _ (List.mem_append_right _ (List.mem_append_right _ (List.mem_append_right _ (List.mem_append_right _ (List.mem_append_right _ (List.mem_append_right _ (List.mem_append_right _ (List.mem_append_right _ (List.mem_append_left _ (List.mem_of_getElem? (i := 28) rfl)))))))))))))
  | 34, _ => (List.mem_append_right _ (List.mem_append_right _ (List.mem_append_right _ (List.mem_append_right _ (List.mem_append_right _ (List.mem_append_right _ (List.mem_append_right _ (List.mem_append_right _ (List.mem_append_right _ (List.mem_append_right _ (List.mem_append_right _ (List.mem_append_left _ (List.mem_of_getElem? (i := 30) rfl)))))))))))))
  | 35, _ => (List.mem_append_right _ (List.mem_append_right _ (List.mem_append_right _ (List.mem_append_right _ (List.mem_append_right _ (List.mem_append_right _ (List.mem_append_right _ (List.mem_append_right _ (List.mem_append_right _ (List.mem_append_right _ (List.mem_append_right _ (List.mem_append_left _ (List.mem_of_getElem? (i := 32) rfl)))))))))))))
  | 36, _ => (List.mem_append_right _ (List.mem_append_right _ (List.mem_append_right _ (List.mem_append_right _ (List.mem_append_right _ (List.mem_append_right _ (List.mem_append_right _ (List.mem_append_right _ (List.mem_append_right _ (List.mem_append_right _ (List.mem_append_right _ (List.mem_append_left _ (List.mem_of_getElem? (i := 34) rfl)))))))))))))
  | 37, _ => (List.mem_append_right _ (List.mem_append_right _ (List.mem_append_right _ (List.mem_append_right _ (List.mem_append_right _ (List.mem_append_right _ (List.mem_append_right _ (List.mem_append_right _ (List.mem_append_right _ (List.mem_append_right _ (List.mem_append_right _ (List.mem_append_left _ (List.mem_of_getElem? (i := 36) rfl)))))))))))))
  | 38, _ => (List.mem_append_right _ (List.mem_append_right _ (List.mem_append_right _ (List.mem_append_right _ (List.mem_append_right _ (List.mem_append_right _ (List.mem_append_right _ (List.mem_append_right _ (List.mem_append_right _ (List.mem_append_right _ (List.mem_append_right _ (List.mem_append_left _ (List.mem_of_getElem? (i := 38) rfl)))))))))))))
  | 39, _ => (List.mem_append_right _ (List.mem_append_right _ (List.mem_append_right _ (List.mem_append_right _ (List.mem_append_right _ (List.mem_append_right _ (List.mem_append_right _ (List.mem_append_right _ (List.mem_append_right _ (List.mem_append_right _ (List.mem_append_right _ (List.mem_append_left _ (List.mem_of_getElem? (i := 40) rfl)))))))))))))
  | 40, _ => (List.mem_append_right _ (List.mem_append_right _ (List.mem_append_right _ (List.mem_append_right _ (List.mem_append_right _ (List.mem_append_right _ (List.mem_append_right _ (List.mem_append_right _ (List.mem_append_right _ (List.mem_append_right _ (List.mem_append_right _ (List.mem_append_left _ (List.mem_of_getElem? (i := 42) rfl)))))))))))))
  | 41, _ => (List.mem_append_right _ (List.mem_append_right _ (List.mem_append_right _ (List.mem_append_right _ (List.mem_append_right _ (List.mem_append_right _ (List.mem_append_right _ (List.mem_append_right _ (List.mem_append_right _ (List.mem_append_right _ (List.mem_append_right _ (List.mem_append_left _ (List.mem_of_getElem? (i := 44) rfl)))))))))))))
  | 42, _ => (List.mem_append_right _ (List.mem_append_right _ (List.mem_append_right _ (List.mem_append_right _ (List.mem_append_right _ (List.mem_append_right _ (List.mem_append_right _ (List.mem_append_right _ (List.mem_append_right _ (List.mem_append_right _ (List.mem_append_right _ (List.mem_append_left _ (List.mem_of_getElem? (i := 46) rfl)))))))))))))
  | 43, _ => (List.mem_append_right _ (List.mem_append_right _ (List.mem_append_right _ (List.mem_append_right _ (List.mem_append_right _ (List.mem_append_right _ (List.mem_append_right _ (List.mem_append_right _ (List.mem_append_right _ (List.mem_append_right _ (List.mem_append_right _ (List.mem_append_left _ (List.mem_of_getElem? (i := 48) rfl)))))))))))))
  | 44, _ => (List.mem_append_right _ (List.mem_append_right _ (List.mem_append_right _ (List.mem_append_right _ (List.mem_append_right _ (List.mem_append_right _ (List.mem_append_right _ (List.mem_append_right _ (List.mem_append_right _ (List.mem_append_right _ (List.mem_append_right _ (List.mem_append_left _ (List.mem_of_getElem? (i := 50) rfl)))))))))))))
  | 45, _ => (List.mem_append_right _ (List.mem_append_right _ (List.mem_append_right _ (List.mem_append_right _ (List.mem_append_right _ (List.mem_append_right _ (List.mem_append_right _ (List.mem_append_right _ (List.mem_append_right _ (List.mem_append_right _ (List.mem_append_right _ (List.mem_append_left _ (List.mem_of_getElem? (i := 52) rfl)))))))))))))
  | 46, _ => (List.mem_append_right _ (List.mem_append_right _ (List.mem_append_right _ (List.mem_append_right _ (List.mem_append_right _ (List.mem_append_right _ (List.mem_append_right _ (List.mem_append_right _ (List.mem_append_right _ (List.mem_append_right _ (List.mem_append_right _ (List.mem_append_left _ (List.mem_of_getElem? (i := 54) rfl)))))))))))))
  | 47, _ => (List.mem_append_right _ (List.mem_append_right _ (List.mem_append_right _ (List.mem_append_right _ (List.mem_append_right _ (List.mem_append_right _ (List.mem_append_right _ (List.mem_append_right _ (List.mem_append_right _ (List.mem_append_right _ (List.mem_append_right _ (List.mem_append_left _ (List.mem_of_getElem? (i := 56) rfl)))))))))))))
  | 48, _ => (List.mem_append_right _ (List.mem_append_right _ (List.mem_append_right _ (List.mem_append_right _ (List.mem_append_right _ (List.mem_append_right _ (List.mem_append_right _ (List.mem_append_right _ (List.mem_append_right _ (List.mem_append_right _ (List.mem_append_right _ (List.mem_append_left _ (List.mem_of_getElem? (i := 58) rfl)))))))))))))
  | 49, _ => (List.mem_append_right _ (List.mem_append_right _ (List.mem_append_right _ (List.mem_append_right _ (List.mem_append_right _ (List.mem_append_right _ (List.mem_append_right _ (List.mem_append_right _ (List.mem_append_right _ (List.mem_append_right _ (List.mem_append_right _ (List.mem_append_left _ (List.mem_of_getElem? (i := 60) rfl)))))))))))))
  | 50, _ => (List.mem_append_right _ (List.mem_append_right _ (List.mem_append_right _ (List.mem_append_right _ (List.mem_append_right _ (List.mem_append_right _ (List.mem_append_right _ (List.mem_append_right _ (List.mem_append_right _ (List.mem_append_right _ (List.mem_append_right _ (List.mem_append_left _ (List.mem_of_getElem? (i := 62) rfl)))))))))))))
  | 51, _ => (List.mem_append_right _ (List.mem_append_right _ (List.mem_append_right _ (List.mem_append_right _ (List.mem_append_right _ (List.mem_append_right _ (List.mem_append_right _ (List.mem_append_right _ (List.mem_append_right _ (List.mem_append_right _ (List.mem_append_right _ (List.mem_append_left _ (List.mem_of_getElem? (i := 64) rfl)))))))))))))
  | 52, _ => (List.mem_append_right _ (List.mem_append_right _ (List.mem_append_right _ (List.mem_append_right _ (List.mem_append_right _ (List.mem_append_right _ (List.mem_append_right _ (List.mem_append_right _ (List.mem_append_right _ (List.mem_append_right _ (List.mem_append_right _ (List.mem_append_left _ (List.mem_of_getElem? (i := 66) rfl)))))))))))))
  | 53, _ => (List.mem_append_right _ (List.mem_append_right _ (List.mem_append_right _ (List.mem_append_right _ (List.mem_append_right _ (List.mem_append_right _ (List.mem_append_right _ (List.mem_append_right _ (List.mem_append_right _ (List.mem_append_right _ (List.mem_append_right _ (List.mem_append_left _ (List.mem_of_getElem? (i := 68) rfl)))))))))))))
  | 54, _ => (List.mem_append_right _ (List.mem_append_right _ (List.mem_append_right _ (List.mem_append_right _ (List.mem_append_right _ (List.mem_append_right _ (List.mem_append_right _ (List.mem_append_right _ (List.mem_append_right _ (List.mem_append_right _ (List.mem_append_right _ (List.mem_append_left _ (List.mem_of_getElem? (i := 70) rfl)))))))))))))
  | 55, _ => (List.mem_append_right _ (List.mem_append_right _ (List.mem_append_right _ (List.mem_append_right _ (List.mem_append_right _ (List.mem_append_right _ (List.mem_append_right _ (List.mem_append_right _ (List.mem_append_right _ (List.mem_append_right _ (List.mem_append_right _ (List.mem_append_left _ (List.mem_of_getElem? (i := 72) rfl)))))))))))))
  | 56, _ => (List.mem_append_right _ (List.mem_append_right _ (List.mem_append_right _ (List.mem_append_right _ (List.mem_append_right _ (List.mem_append_right _ (List.mem_append_right _ (List.mem_append_right _ (List.mem_append_right _ (List.mem_append_right _ (List.mem_append_right _ (List.mem_append_left _ (List.mem_of_getElem? (i := 74) rfl)))))))))))))
  | 57, _ => (List.mem_append_right _ (List.mem_append_right _ (List.mem_append_right _ (List.mem_append_right _ (List.mem_append_right _ (List.mem_append_right _ (List.mem_append_right _ (List.mem_append_right _ (List.mem_append_right _ (List.mem_append_right _ (List.mem_append_right _ (List.mem_append_left _ (List.mem_of_getElem? (i := 76) rfl)))))))))))))
  | 58, _ => (List.mem_append_right _ (List.mem_append_right _ (List.mem_append_right _ (List.mem_append_right _ (List.mem_append_right _ (List.mem_append_right _ (List.mem_append_right _ (List.mem_append_right _ (List.mem_append_right _ (List.mem_append_right _ (List.mem_append_right _ (List.mem_append_left _ (List.mem_of_getElem? (i := 78) rfl)))))))))))))
  | 59, _ => (List.mem_append_right _ (List.mem_append_right _ (List.mem_append_right _ (List.mem_append_right _ (List.mem_append_right _ (List.mem_append_right _ (List.mem_append_right _ (List.mem_append_right _ (List.mem_append_right _ (List.mem_append_right _ (List.mem_append_right _ (List.mem_append_left _ (List.mem_of_getElem? (i := 80) rfl)))))))))))))
  | 60, _ => (List.mem_append_right _ (List.mem_append_right _ (List.mem_append_right _ (List.mem_append_right _ (List.mem_append_right _ (List.mem_append_right _ (List.mem_append_right _ (List.mem_append_right _ (List.mem_append_right _ (List.mem_append_right _ (List.mem_append_right _ (List.mem_append_left _ (List.mem_of_getElem? (i := 82) rfl)))))))))))))
  | 61, _ => (List.mem_append_right _ (List.mem_append_right _ (List.mem_append_right _ (List.mem_append_right _ (List.mem_append_right _ (List.mem_append_right _ (List.mem_append_right _ (List.mem_append_right _ (List.mem_append_right _ (List.mem_append_right _ (List.mem_append_right _ (List.mem_append_left _ (List.mem_of_getElem? (i := 84) rfl)))))))))))))
  | 62, _ => (List.mem_append_right _ (List.mem_append_right _ (List.mem_append_right _ (List.mem_append_right _ (List.mem_append_right _ (List.mem_append_right _ (List.mem_append_right _ (List.mem_append_right _ (List.mem_append_right _ (List.mem_append_right _ (List.mem_append_right _ (List.mem_append_left _ (List.mem_of_getElem? (i := 86) rfl)))))))))))))
  | 63, _ => (List.mem_append_right _ (List.mem_append_right _ (List.mem_append_right _ (List.mem_append_right _ (List.mem_append_right _ (List.mem_append_right _ (List.mem_append_right _ (List.mem_append_right _ (List.mem_append_right _ (List.mem_append_right _ (List.mem_append_right _ (List.mem_append_left _ (List.mem_of_getElem? (i := 88) rfl)))))))))))))
  | 64, _ => (List.mem_append_right _ (List.mem_append_right _ (List.mem_append_right _ (List.mem_append_right _ (List.mem_append_right _ (List.mem_append_right _ (List.mem_append_right _ (List.mem_append_right _ (List.mem_append_right _ (List.mem_append_right _ (List.mem_append_right _ (List.mem_append_left _ (List.mem_of_getElem? (i := 90) rfl)))))))))))))
  | 65, _ => (List.mem_append_right _ (List.mem_append_right _ (List.mem_append_right _ (List.mem_append_right _ (List.mem_append_right _ (List.mem_append_right _ (List.mem_append_right _ (List.mem_append_right _ (List.mem_append_right _ (List.mem_append_right _ (List.mem_append_right _ (List.mem_append_left _ (List.mem_of_getElem? (i := 92) rfl)))))))))))))
  | 66, _ => (List.mem_append_right _ (List.mem_append_right _ (List.mem_append_right _ (List.mem_append_right _ (List.mem_append_right _ (List.mem_append_right _ (List.mem_append_right _ (List.mem_append_right _ (List.mem_append_right _ (List.mem_append_right _ (List.mem_append_right _ (List.mem_append_left _ (List.mem_of_getElem? (i := 94) rfl)))))))))))))
  | 67, _ => (List.mem_append_right _ (List.mem_append_right _ (List.mem_append_right _ (List.mem_append_right _ (List.mem_append_right _ (List.mem_append_right _ (List.mem_append_right _ (List.mem_append_right _ (List.mem_append_right _ (List.mem_append_right _ (List.mem_append_right _ (List.mem_append_left _ (List.mem_of_getElem? (i := 96) rfl)))))))))))))
  | 68, _ => (List.mem_append_right _ (List.mem_append_right _ (List.mem_append_right _ (List.mem_append_right _ (List.mem_append_right _ (List.mem_append_right _ (List.mem_append_right _ (List.mem_append_right _ (List.mem_append_right _ (List.mem_append_right _ (List.mem_append_right _ (List.mem_append_left _ (List.mem_of_getElem? (i := 98) rfl)))))))))))))
  | 69, _ => (List.mem_append_right _ (List.mem_append_right _ (List.mem_append_right _ (List.mem_append_right _ (List.mem_append_right _ (List.mem_append_right _ (List.mem_append_right _ (List.mem_append_right _ (List.mem_append_right _ (List.mem_append_right _ (List.mem_append_right _ (List.mem_append_left _ (List.mem_of_getElem? (i := 100) rfl)))))))))))))
  | 70, _ => (List.mem_append_right _ (List.mem_append_right _ (List.mem_append_right _ (List.mem_append_right _ (List.mem_append_right _ (List.mem_append_right _ (List.mem_append_right _ (List.mem_append_right _ (List.mem_append_right _ (List.mem_append_right _ (List.mem_append_right _ (List.mem_append_left _ (List.mem_of_getElem? (i := 102) rfl)))))))))))))
  | 71, _ => (List.mem_append_right _ (List.mem_append_right _ (List.mem_append_right _ (List.mem_append_right _ (List.mem_append_right _ (List.mem_append_right _ (List.mem_append_right _ (List.mem_append_right _ (List.mem_append_right _ (List.mem_append_right _ (List.mem_append_right _ (List.mem_append_left _ (List.mem_of_getElem? (i := 104) rfl)))))))))))))
  | 72, _ => (List.mem_append_right _ (List.mem_append_right _ (List.mem_append_right _ (List.mem_append_right _ (List.mem_append_right _ (List.mem_append_right _ (List.mem_append_right _ (List.mem_append_right _ (List.mem_append_right _ (List.mem_append_right _ (List.mem_append_right _ (List.mem_append_left _ (List.mem_of_getElem? (i := 106) rfl)))))))))))))
  | 73, _ => (List.mem_append_right _ (List.mem_append_right _ (List.mem_append_right _ (List.mem_append_right _ (List.mem_append_right _ (List.mem_append_right _ (List.mem_append_right _ (List.mem_append_right _ (List.mem_append_right _ (List.mem_append_right _ (List.mem_append_right _ (List.mem_append_left _ (List.mem_of_getElem? (i := 108) rfl)))))))))))))
  | 74, _ => (List.mem_append_right _ (List.mem_append_right _ (List.mem_append_right _ (List.mem_append_right _ (List.mem_append_right _ (List.mem_append_right _ (List.mem_append_right _ (List.mem_append_right _ (List.mem_append_right _ (List.mem_append_right _ (List.mem_append_right _ (List.mem_append_left _ (List.mem_of_getElem? (i := 110) rfl)))))))))))))
  | 75, _ => (List.mem_append_right _ (List.mem_append_right _ (List.mem_append_right _ (List.mem_append_right _ (List.mem_append_right _ (List.mem_append_right _ (List.mem_append_right _ (List.mem_append_right _ (List.mem_append_right _ (List.mem_append_right _ (List.mem_append_right _ (List.mem_append_left _ (List.mem_of_getElem? (i := 112) rfl)))))))))))))
  | 76, _ => (List.mem_append_right _ (List.mem_append_right _ (List.mem_append_right _ (List.mem_append_right _ (List.mem_append_right _ (List.mem_append_right _ (List.mem_append_right _ (List.mem_append_right _ (List.mem_append_right _ (List.mem_append_right _ (List.mem_append_right _ (List.mem_append_left _ (List.mem_of_getElem? (i := 114) rfl)))))))))))))
  | 77, _ => (List.mem_append_right _ (List.mem_append_right _ (List.mem_append_right _ (List.mem_append_right _ (List.mem_append_right _ (List.mem_append_right _ (List.mem_append_right _ (List.mem_append_right _ (List.mem_append_right _ (List.mem_append_right _ (List.mem_append_right _ (List.mem_append_left _ (List.mem_of_getElem? (i := 116) rfl)))))))))))))
  | 78, _ => (List.mem_append_right _ (List.mem_append_right _ (List.mem_append_right _ (List.mem_append_right _ (List.mem_append_right _ (List.mem_append_right _ (List.mem_append_right _ (List.mem_append_right _ (List.mem_append_right _ (List.mem_append_right _ (List.mem_append_right _ (List.mem_append_left _ (List.mem_of_getElem? (i := 118) rfl)))))))))))))
  | 79, _ => (List.mem_append_right _ (List.mem_append_right _ (List.mem_append_right _ (List.mem_append_right _ (List.mem_append_right _ (List.mem_append_right _ (List.mem_append_right _ (List.mem_append_right _ (List.mem_append_right _ (List.mem_append_right _ (List.mem_append_right _ (List.mem_append_left _ (List.mem_of_getElem? (i := 120) rfl)))))))))))))
  | 80, _ => (List.mem_append_right _ (List.mem_append_right _ (List.mem_append_right _ (List.mem_append_right _ (List.mem_append_right _ (List.mem_append_right _ (List.mem_append_right _ (List.mem_append_right _ (List.mem_append_right _ (List.mem_append_right _ (List.mem_append_right _ (List.mem_append_left _ (List.mem_of_getElem? (i := 122) rfl)))))))))))))
  | 81, _ => (List.mem_append_right _ (List.mem_append_right _ (List.mem_append_right _ (List.mem_append_right _ (List.mem_append_right _ (List.mem_append_right _ (List.mem_append_right _ (List.mem_append_right _ (List.mem_append_right _ (List.mem_append_right _ (List.mem_append_right _ (List.mem_append_left _ (List.mem_of_getElem? (i := 124) rfl)))))))))))))
  | 82, _ => (List.mem_append_right _ (List.mem_append_right _ (List.mem_append_right _ (List.mem_append_right _ (List.mem_append_right _ (List.mem_append_right _ (List.mem_append_right _ (List.mem_append_right _ (List.mem_append_right _ (List.mem_append_right _ (List.mem_append_right _ (List.mem_append_left _ (List.mem_of_getElem? (i := 126) rfl)))))))))))))
  | 83, _ => (List.mem_append_right _ (List.mem_append_right _ (List.mem_append_right _ (List.mem_append_right _ (List.mem_append_right _ (List.mem_append_right _ (List.mem_append_right _ (List.mem_append_right _ (List.mem_append_right _ (List.mem_append_right _ (List.mem_append_right _ (List.mem_append_left _ (List.mem_of_getElem? (i := 128) rfl)))))))))))))
  | 84, _ => (List.mem_append_right _ (List.mem_append_right _ (List.mem_append_right _ (List.mem_append_right _ (List.mem_append_right _ (List.mem_append_right _ (List.mem_append_right _ (List.mem_append_right _ (List.mem_append_right _ (List.mem_append_right _ (List.mem_append_right _ (List.mem_append_left _ (List.mem_of_getElem? (i := 130) rfl)))))))))))))
  | 85, _ => (List.mem_append_right _ (List.mem_append_right _ (List.mem_append_right _ (List.mem_append_right _ (List.mem_append_right _ (List.mem_append_right _ (List.mem_append_right _ (List.mem_append_right _ (List.mem_append_right _ (List.mem_append_right _ (List.mem_append_right _ (List.mem_append_left _ (List.mem_of_getElem? (i := 132) rfl)))))))))))))
  | 86, _ => (List.mem_append_right _ (List.mem_append_right _ (List.mem_append_right _ (List.mem_append_right _ (List.mem_append_right _ (List.mem_append_right _ (List.mem_append_right _ (List.mem_append_right _ (List.mem_append_right _ (List.mem_append_right _ (List.mem_append_right _ (List.mem_append_left _ (List.mem_of_getElem? (i := 134) rfl)))))))))))))
  | 87, _ => (List.mem_append_right _ (List.mem_append_right _ (List.mem_append_right _ (List.mem_append_right _ (List.mem_append_right _ (List.mem_append_right _ (List.mem_append_right _ (List.mem_append_right _ (List.mem_append_right _ (List.mem_append_right _ (List.mem_append_right _ (List.mem_append_left _ (List.mem_of_getElem? (i := 136) rfl)))))))))))))
  | 88, _ => (List.mem_append_right _ (List.mem_append_right _ (List.mem_append_right _ (List.mem_append_right _ (List.mem_append_right _ (List.mem_append_right _ (List.mem_append_right _ (List.mem_append_right _ (List.mem_append_right _ (List.mem_append_right _ (List.mem_append_right _ (List.mem_append_left _ (List.mem_of_getElem? (i := 138) rfl)))))))))))))
  | 89, _ => (List.mem_append_right _ (List.mem_append_right _ (List.mem_append_right _ (List.mem_append_right _ (List.mem_append_right _ (List.mem_append_right _ (List.mem_append_right _ (List.mem_append_right _ (List.mem_append_right _ (List.mem_append_right _ (List.mem_append_right _ (List.mem_append_left _ (List.mem_of_getElem? (i := 140) rfl)))))))))))))
  | 90, _ => (List.mem_append_right _ (List.mem_append_right _ (List.mem_append_right _ (List.mem_append_right _ (List.mem_append_right _ (List.mem_append_right _ (List.mem_append_right _ (List.mem_append_right _ (List.mem_append_right _ (List.mem_append_right _ (List.mem_append_right _ (List.mem_append_left _ (List.mem_of_getElem? (i := 142) rfl)))))))))))))
  | 91, _ => (List.mem_append_right _ (List.mem_append_right _ (List.mem_append_right _ (List.mem_append_right _ (List.mem_append_right _ (List.mem_append_right _ (List.mem_append_right _ (List.mem_append_right _ (List.mem_append_right _ (List.mem_append_right _ (List.mem_append_right _ (List.mem_append_left _ (List.mem_of_getElem? (i := 144) rfl)))))))))))))
  | 92, _ => (List.mem_append_right _ (List.mem_append_right _ (List.mem_append_right _ (List.mem_append_right _ (List.mem_append_right _ (List.mem_append_right _ (List.mem_append_right _ (List.mem_append_right _ (List.mem_append_right _ (List.mem_append_right _ (List.mem_append_right _ (List.mem_append_left _ (List.mem_of_getElem? (i := 146) rfl)))))))))))))
  | 93, _ => (List.mem_append_right _ (List.mem_append_right _ (List.mem_append_right _ (List.mem_append_right _ (List.mem_append_right _ (List.mem_append_right _ (List.mem_append_right _ (List.mem_append_right _ (List.mem_append_right _ (List.mem_append_right _ (List.mem_append_right _ (List.mem_append_left _ (List.mem_of_getElem? (i := 148) rfl)))))))))))))
  | 94, _ => (List.mem_append_right _ (List.mem_append_right _ (List.mem_append_right _ (List.mem_append_right _ (List.mem_append_right _ (List.mem_append_right _ (List.mem_append_right _ (List.mem_append_right _ (List.mem_append_right _ (List.mem_append_right _ (List.mem_append_right _ (List.mem_append_left _ (List.mem_of_getElem? (i := 150) rfl)))))))))))))
  | 95, _ => (List.mem_append_right _ (List.mem_append_right _ (List.mem_append_right _ (List.mem_append_right _ (List.mem_append_right _ (List.mem_append_right _ (List.mem_append_right _ (List.mem_append_right _ (List.mem_append_right _ (List.mem_append_right _ (List.mem_append_right _ (List.mem_append_left _ (List.mem_of_getElem? (i := 152) rfl)))))))))))))
  | 96, _ => (List.mem_append_right _ (List.mem_append_right _ (List.mem_append_right _ (List.mem_append_right _ (List.mem_append_right _ (List.mem_append_right _ (List.mem_append_right _ (List.mem_append_right _ (List.mem_append_right _ (List.mem_append_right _ (List.mem_append_right _ (List.mem_append_left _ (List.mem_of_getElem? (i := 154) rfl)))))))))))))
  | 97, _ => (List.mem_append_right _ (List.mem_append_right _ (List.mem_append_right _ (List.mem_append_right _ (List.mem_append_right _ (List.mem_append_right _ (List.mem_append_right _ (List.mem_append_right _ (List.mem_append_right _ (List.mem_append_right _ (List.mem_append_right _ (List.mem_append_left _ (List.mem_of_getElem? (i := 156) rfl)))))))))))))
  | 98, _ => (List.mem_append_right _ (List.mem_append_right _ (List.mem_append_right _ (List.mem_append_right _ (List.mem_append_right _ (List.mem_append_right _ (List.mem_append_right _ (List.mem_append_right _ (List.mem_append_right _ (List.mem_append_right _ (List.mem_append_right _ (List.mem_append_left _ (List.mem_of_getElem? (i := 158) rfl)))))))))))))
  | 99, _ => (List.mem_append_right _ (List.mem_append_right _ (List.mem_append_right _ (List.mem_append_right _ (List.mem_append_right _ (List.mem_append_right _ (List.mem_append_right _ (List.mem_append_right _ (List.mem_append_right _ (List.mem_append_right _ (List.mem_append_right _ (List.mem_append_left _ (List.mem_of_getElem? (i := 160) rfl)))))))))))))
  | 100, _ => (List.mem_append_right _ (List.mem_append_right _ (List.mem_append_right _ (List.mem_append_right _ (List.mem_append_right _ (List.mem_append_right _ (List.mem_append_right _ (List.mem_append_right _ (List.mem_append_right _ (List.mem_append_right _ (List.mem_append_right _ (List.mem_append_left _ (List.mem_of_getElem? (i := 162) rfl)))))))))))))
  | 101, _ => (List.mem_append_right _ (List.mem_append_right _ (List.mem_append_right _ (List.mem_append_right _ (List.mem_append_right _ (List.mem_append_right _ (List.mem_append_right _ (List.mem_append_right _ (List.mem_append_right _ (List.mem_append_right _ (List.mem_append_right _ (List.mem_append_left _ (List.mem_of_getElem? (i := 164) rfl)))))))))))))
  | 102, _ => (List.mem_append_right _ (List.mem_append_right _ (List.mem_append_right _ (List.mem_append_right _ (List.mem_append_right _ (List.mem_append_right _ (List.mem_append_right _ (List.mem_append_right _ (List.mem_append_right _ (List.mem_append_right _ (List.mem_append_right _ (List.mem_append_left _ (List.mem_of_getElem? (i := 166) rfl)))))))))))))
  | 103, _ => (List.mem_append_right _ (List.mem_append_right _ (List.mem_append_right _ (List.mem_append_right _ (List.mem_append_right _ (List.mem_append_right _ (List.mem_append_right _ (List.mem_append_right _ (List.mem_append_right _ (List.mem_append_right _ (List.mem_append_right _ (List.mem_append_left _ (List.mem_of_getElem? (i := 168) rfl)))))))))))))
  | 104, _ => (List.mem_append_right _ (List.mem_append_right _ (List.mem_append_right _ (List.mem_append_right _ (List.mem_append_right _ (List.mem_append_right _ (List.mem_append_right _ (List.mem_append_right _ (List.mem_append_right _ (List.mem_append_right _ (List.mem_append_right _ (List.mem_append_left _ (List.mem_of_getElem? (i := 170) rfl)))))))))))))
  | 105, _ => (List.mem_append_right _ (List.mem_append_right _ (List.mem_append_right _ (List.mem_append_right _ (List.mem_append_right _ (List.mem_append_right _ (List.mem_append_right _ (List.mem_append_right _ (List.mem_append_right _ (List.mem_append_right _ (List.mem_append_right _ (List.mem_append_left _ (List.mem_of_getElem? (i := 172) rfl)))))))))))))
  | 106, _ => (List.mem_append_right _ (List.mem_append_right _ (List.mem_append_right _ (List.mem_append_right _ (List.mem_append_right _ (List.mem_append_right _ (List.mem_append_right _ (List.mem_append_right _ (List.mem_append_right _ (List.mem_append_right _ (List.mem_append_right _ (List.mem_append_left _ (List.mem_of_getElem? (i := 174) rfl)))))))))))))
  | 107, _ => (List.mem_append_right _ (List.mem_append_right _ (List.mem_append_right _ (List.mem_append_right _ (List.mem_append_right _ (List.mem_append_right _ (List.mem_append_right _ (List.mem_append_right _ (List.mem_append_right _ (List.mem_append_right _ (List.mem_append_right _ (List.mem_append_left _ (List.mem_of_getElem? (i := 176) rfl)))))))))))))
  | 108, _ => (List.mem_append_right _ (List.mem_append_right _ (List.mem_append_right _ (List.mem_append_right _ (List.mem_append_right _ (List.mem_append_right _ (List.mem_append_right _ (List.mem_append_right _ (List.mem_append_right _ (List.mem_append_right _ (List.mem_append_right _ (List.mem_append_left _ (List.mem_of_getElem? (i := 178) rfl)))))))))))))
  | 109, _ => (List.mem_append_right _ (List.mem_append_right _ (List.mem_append_right _ (List.mem_append_right _ (List.mem_append_right _ (List.mem_append_right _ (List.mem_append_right _ (List.mem_append_right _ (List.mem_append_right _ (List.mem_append_right _ (List.mem_append_right _ (List.mem_append_left _ (List.mem_of_getElem? (i := 180) rfl)))))))))))))
  | 110, _ => (List.mem_append_right _ (List.mem_append_right _ (List.mem_append_right _ (List.mem_append_right _ (List.mem_append_right _ (List.mem_append_right _ (List.mem_append_right _ (List.mem_append_right _ (List.mem_append_right _ (List.mem_append_right _ (List.mem_append_right _ (List.mem_append_left _ (List.mem_of_getElem? (i := 182) rfl)))))))))))))
  | 111, _ => (List.mem_append_right _ (List.mem_append_right _ (List.mem_append_right _ (List.mem_append_right _ (List.mem_append_right _ (List.mem_append_right _ (List.mem_append_right _ (List.mem_append_right _ (List.mem_append_right _ (List.mem_append_right _ (List.mem_append_right _ (List.mem_append_left _ (List.mem_of_getElem? (i := 184) rfl)))))))))))))
  | 112, _ => (List.mem_append_right _ (List.mem_append_right _ (List.mem_append_right _ (List.mem_append_right _ (List.mem_append_right _ (List.mem_append_right _ (List.mem_append_right _ (List.mem_append_right _ (List.mem_append_right _ (List.mem_append_right _ (List.mem_append_right _ (List.mem_append_left _ (List.mem_of_getElem? (i := 186) rfl)))))))))))))
  | 113, _ => (List.mem_append_right _ (List.mem_append_right _ (List.mem_append_right _ (List.mem_append_right _ (List.mem_append_right _ (List.mem_append_right _ (List.mem_append_right _ (List.mem_append_right _ (List.mem_append_right _ (List.mem_append_right _ (List.mem_append_right _ (List.mem_append_left _ (List.mem_of_getElem? (i := 188) rfl)))))))))))))
  | 114, _ => (List.mem_append_right _ (List.mem_append_right _ (List.mem_append_right _ (List.mem_append_right _ (List.mem_append_right _ (List.mem_append_right _ (List.mem_append_right _ (List.mem_append_right _ (List.mem_append_right _ (List.mem_append_right _ (List.mem_append_right _ (List.mem_append_left _ (List.mem_of_getElem? (i := 190) rfl)))))))))))))
  | 115, _ => (List.mem_append_right _ (List.mem_append_right _ (List.mem_append_right _ (List.mem_append_right _ (List.mem_append_right _ (List.mem_append_right _ (List.mem_append_right _ (List.mem_append_right _ (List.mem_append_right _ (List.mem_append_right _ (List.mem_append_right _ (List.mem_append_left _ (List.mem_of_getElem? (i := 192) rfl)))))))))))))
  | 116, _ => (List.mem_append_right _ (List.mem_append_right _ (List.mem_append_right _ (List.mem_append_right _ (List.mem_append_right _ (List.mem_append_right _ (List.mem_append_right _ (List.mem_append_right _ (List.mem_append_right _ (List.mem_append_right _ (List.mem_append_right _ (List.mem_append_left _ (List.mem_of_getElem? (i := 194) rfl)))))))))))))
  | 117, _ => (List.mem_append_right _ (List.mem_append_right _ (List.mem_append_right _ (List.mem_append_right _ (List.mem_append_right _ (List.mem_append_right _ (List.mem_append_right _ (List.mem_append_right _ (List.mem_append_right _ (List.mem_append_right _ (List.mem_append_right _ (List.mem_append_left _ (List.mem_of_getElem? (i := 196) rfl)))))))))))))
  | 118, _ => (List.mem_append_right _ (List.mem_append_right _ (List.mem_append_right _ (List.mem_append_right _ (List.mem_append_right _ (List.mem_append_right _ (List.mem_append_right _ (List.mem_append_right _ (List.mem_append_right _ (List.mem_append_right _ (List.mem_append_right _ (List.mem_append_left _ (List.mem_of_getElem? (i := 198) rfl)))))))))))))
  | 119, _ => (List.mem_append_right _ (List.mem_append_right _ (List.mem_append_right _ (List.mem_append_right _ (List.mem_append_right _ (List.mem_append_right _ (List.mem_append_right _ (List.mem_append_right _ (List.mem_append_right _ (List.mem_append_right _ (List.mem_append_right _ (List.mem_append_left _ (List.mem_of_getElem? (i := 200) rfl)))))))))))))
  | 120, _ => (List.mem_append_right _ (List.mem_append_right _ (List.mem_append_right _ (List.mem_append_right _ (List.mem_append_right _ (List.mem_append_right _ (List.mem_append_right _ (List.mem_append_right _ (List.mem_append_right _ (List.mem_append_right _ (List.mem_append_right _ (List.mem_append_left _ (List.mem_of_getElem? (i := 202) rfl)))))))))))))
  | n + 121, q => absurd q (by omega) : u_lay RX12 TX12 j ∈ lw_tbl)
theorem fM_in : ∀ w ∈ fM, w ∈ lw_tbl := fin_X12
theorem fC_in : ∀ w ∈ fC, w ∈ lw_tbl := fun w h => (List.mem_append.mp h).elim (fin_X0 w) (fun h => (List.mem_append.mp h).elim (fin_X1 w) (fun h => (List.mem_append.mp h).elim (fin_X2 w) (fun h => (List.mem_append.mp h).elim (fin_X3 w) (fun h => (List.mem_append.mp h).elim (fin_X5 w) (fun h => (List.mem_append.mp h).elim (fin_X6 w) (fun h => (List.mem_append.mp h).elim (fin_X7 w) (fun h => (List.mem_append.mp h).elim (fin_X8 w) (fun h => (List.mem_append.mp h).elim (fin_X9 w) (fun h => (List.mem_append.mp h).elim (fin_X10 w) (fun h => fin_X11 w h))))))))))
theorem wsin_wsJ0_charAt_5068e_r1 : ∀ w ∈ wsJ0_charAt_5068e_r1, w ∈ lw_tbl := fun w h => ((List.forall_mem_cons.mpr ⟨tw_1581, (List.forall_mem_cons.mpr ⟨tw_1582, (List.forall_mem_cons.mpr ⟨tw_1583, (List.forall_mem_cons.mpr ⟨tw_1584, (List.forall_mem_cons.mpr ⟨tw_1571, (List.forall_mem_cons.mpr ⟨tw_1585, (List.forall_mem_cons.mpr ⟨tw_1586, (List.forall_mem_cons.mpr ⟨tw_1587, (List.forall_mem_cons.mpr ⟨tw_1588, (List.forall_mem_cons.mpr ⟨tw_1589, (List.forall_mem_cons.mpr ⟨tw_1590, (List.forall_mem_cons.mpr ⟨tw_1591, (List.forall_mem_cons.mpr ⟨tw_1592, (List.forall_mem_cons.mpr ⟨tw_1593, (List.forall_mem_cons.mpr ⟨tw_1594, (List.forall_mem_cons.mpr ⟨tw_1595, (List.forall_mem_cons.mpr ⟨tw_1596, (List.forall_mem_cons.mpr ⟨tw_1597, (List.forall_mem_cons.mpr ⟨tw_1598, (List.forall_mem_cons.mpr ⟨tw_1599, (List.forall_mem_cons.mpr ⟨tw_1600, (List.forall_mem_cons.mpr ⟨tw_1601, (List.forall_mem_cons.mpr ⟨tw_1602, (List.forall_mem_cons.mpr ⟨tw_1603, (fun _ h => absurd h List.not_mem_nil)⟩)⟩)⟩)⟩)⟩)⟩)⟩)⟩)⟩)⟩)⟩)⟩)⟩)⟩)⟩)⟩)⟩)⟩)⟩)⟩)⟩)⟩)⟩)⟩) : ∀ w ∈ ([Cond.fieldLink RJ0 9 "java/lang/String" "value" "[B", Cond.methodLink RJ0 492 yJ0_isLatin1_aae02, Cond.instanceMethod yJ0_isLatin1_aae02, Cond.selects RJ0 yJ0_isLatin1_aae02 yJ0_isLatin1_aae02, Cond.initialized RJ0, Cond.code yJ0_isLatin1_aae02 cJ0_isLatin1_aae02 1 (some .boolean), Cond.fieldLink RJ0 38 "java/lang/String" "COMPACT_STRINGS" "Z", Cond.fieldLink RJ0 15 "java/lang/String" "coder" "B", Cond.methodLink RJ0 495 yJ1_charAt_3b067, Cond.static yJ1_charAt_3b067, Cond.initialized RJ1, Cond.code yJ1_charAt_3b067 cJ1_charAt_3b067 2 (some .char), Cond.methodLink RJ1 9 yJ0_checkIndex_df160, Cond.static yJ0_checkIndex_df160, Cond.code yJ0_checkIndex_df160 cJ0_checkIndex_df160 2 none, Cond.fieldLink RJ0 1053 "jdk/internal/util/Preconditions" "SIOOBE_FORMATTER" "Ljava/util/function/BiFunction;", Cond.methodLink RJ0 1059 yJ3_checkIndex_8e157, Cond.static yJ3_checkIndex_8e157, Cond.initialized RJ3, Cond.code yJ3_checkIndex_8e157 cJ3_checkIndex_8e157 3 (some .int), Cond.methodLink RJ0 498 yJ2_charAt_3b067, Cond.static yJ2_charAt_3b067, Cond.initialized RJ2, Cond.code yJ2_charAt_3b067 cJ2_charAt_3b067 2 (some .char)] : List Cond), w ∈ lw_tbl) w h
theorem wsin_wsJ0_charAt_5068e_r2 : ∀ w ∈ wsJ0_charAt_5068e_r2, w ∈ lw_tbl := fun w h => ((List.forall_mem_cons.mpr ⟨tw_1604, (List.forall_mem_cons.mpr ⟨tw_1605, (List.forall_mem_cons.mpr ⟨tw_1606, (List.forall_mem_cons.mpr ⟨tw_1607, (List.forall_mem_cons.mpr ⟨tw_1608, (List.forall_mem_cons.mpr ⟨tw_1609, (List.forall_mem_cons.mpr ⟨tw_1610, (List.forall_mem_cons.mpr ⟨tw_1611, (List.forall_mem_cons.mpr ⟨tw_1612, (List.forall_mem_cons.mpr ⟨tw_1613, (List.forall_mem_cons.mpr ⟨tw_1614, (List.forall_mem_cons.mpr ⟨tw_1615, (List.forall_mem_cons.mpr ⟨tw_1616, (fun _ h => absurd h List.not_mem_nil)⟩)⟩)⟩)⟩)⟩)⟩)⟩)⟩)⟩)⟩)⟩)⟩)⟩) : ∀ w ∈ ([Cond.methodLink RJ2 67 yJ2_checkIndex_2214a, Cond.static yJ2_checkIndex_2214a, Cond.code yJ2_checkIndex_2214a cJ2_checkIndex_2214a 2 none, Cond.methodLink RJ2 48 yJ2_length_9d52b, Cond.static yJ2_length_9d52b, Cond.code yJ2_length_9d52b cJ2_length_9d52b 1 (some .int), Cond.methodLink RJ2 414 yJ0_checkIndex_df160, Cond.methodLink RJ2 71 yJ2_getChar_3b067, Cond.static yJ2_getChar_3b067, Cond.code yJ2_getChar_3b067 cJ2_getChar_3b067 2 (some .char), Cond.fieldLink RJ2 44 "java/lang/StringUTF16" "$assertionsDisabled" "Z", Cond.fieldLink RJ2 59 "java/lang/StringUTF16" "HI_BYTE_SHIFT" "I", Cond.fieldLink RJ2 63 "java/lang/StringUTF16" "LO_BYTE_SHIFT" "I"] : List Cond), w ∈ lw_tbl) w h
theorem wsin_wsJ0_charAt_5068e : ∀ w ∈ wsJ0_charAt_5068e, w ∈ lw_tbl := fun w h => (List.mem_cons.mp h).elim (fun e => by rw [e]; exact tw_1580) (fun h => (List.mem_append.mp h).elim (fun h => wsin_wsJ0_charAt_5068e_r1 w h) (fun h => wsin_wsJ0_charAt_5068e_r2 w h))
theorem wsin_wsJ0_length_8abf5 : ∀ w ∈ wsJ0_length_8abf5, w ∈ lw_tbl := fun w h => (List.mem_cons.mp h).elim (fun e => by rw [e]; exact tw_1617) (fun h => ((List.forall_mem_cons.mpr ⟨tw_1581, (List.forall_mem_cons.mpr ⟨tw_1618, (List.forall_mem_cons.mpr ⟨tw_1619, (List.forall_mem_cons.mpr ⟨tw_1620, (List.forall_mem_cons.mpr ⟨tw_1571, (List.forall_mem_cons.mpr ⟨tw_1621, (List.forall_mem_cons.mpr ⟨tw_1586, (List.forall_mem_cons.mpr ⟨tw_1587, (fun _ h => absurd h List.not_mem_nil)⟩)⟩)⟩)⟩)⟩)⟩)⟩)⟩) : ∀ w ∈ ([.fieldLink RJ0 9 "java/lang/String" "value" "[B", .methodLink RJ0 335 yJ0_coder_7d493, .instanceMethod yJ0_coder_7d493, .selects RJ0 yJ0_coder_7d493 yJ0_coder_7d493, .initialized RJ0, .code yJ0_coder_7d493 cJ0_coder_7d493 1 (some .byte), .fieldLink RJ0 38 "java/lang/String" "COMPACT_STRINGS" "Z", .fieldLink RJ0 15 "java/lang/String" "coder" "B"] : List Cond), w ∈ lw_tbl) w h)
theorem wlin_w_f_X0_typeName : ∀ w ∈ w_f_X0_typeName, w ∈ lw_tbl := (List.forall_mem_cons.mpr ⟨tw_1689, (fun _ h => absurd h List.not_mem_nil)⟩)
set_option maxRecDepth 20000 in
theorem oin_x_byteAt : ∀ w ∈ o_x_byteAt, w ∈ lw_tbl := (List.forall_mem_cons.mpr ⟨tw_0, (List.forall_mem_cons.mpr ⟨tw_1, (fun _ h => absurd h List.not_mem_nil)⟩)⟩)
set_option maxRecDepth 20000 in
theorem pin_x_byteAt : ∀ w ∈ p_x_byteAt, w ∈ lw_tbl := fun w h => (List.mem_append.mp h).elim (oin_x_byteAt w) (fun h => absurd h List.not_mem_nil)
set_option maxRecDepth 20000 in
theorem oin_x_isLetter : ∀ w ∈ o_x_isLetter, w ∈ lw_tbl := (fun _ h => absurd h List.not_mem_nil)
set_option maxRecDepth 20000 in
theorem pin_x_isLetter : ∀ w ∈ p_x_isLetter, w ∈ lw_tbl := fun w h => (List.mem_append.mp h).elim (oin_x_isLetter w) (fun h => absurd h List.not_mem_nil)
set_option maxRecDepth 20000 in
theorem oin_x_isDigit : ∀ w ∈ o_x_isDigit, w ∈ lw_tbl := (fun _ h => absurd h List.not_mem_nil)
set_option maxRecDepth 20000 in
theorem pin_x_isDigit : ∀ w ∈ p_x_isDigit, w ∈ lw_tbl := fun w h => (List.mem_append.mp h).elim (oin_x_isDigit w) (fun h => absurd h List.not_mem_nil)
set_option maxRecDepth 20000 in
theorem oin_x_fault : ∀ w ∈ o_x_fault, w ∈ lw_tbl := (List.forall_mem_cons.mpr ⟨tw_2, (List.forall_mem_cons.mpr ⟨tw_3, (List.forall_mem_cons.mpr ⟨tw_4, (fun _ h => absurd h List.not_mem_nil)⟩)⟩)⟩)
set_option maxRecDepth 20000 in
theorem pin_x_fault : ∀ w ∈ p_x_fault, w ∈ lw_tbl := fun w h => (List.mem_append.mp h).elim (oin_x_fault w) (fun h => absurd h List.not_mem_nil)
set_option maxRecDepth 20000 in
theorem oin_x_skip : ∀ w ∈ o_x_skip, w ∈ lw_tbl := (List.forall_mem_cons.mpr ⟨tw_5, (List.forall_mem_cons.mpr ⟨tw_6, (List.forall_mem_cons.mpr ⟨tw_7, (List.forall_mem_cons.mpr ⟨tw_8, (List.forall_mem_cons.mpr ⟨tw_9, (List.forall_mem_cons.mpr ⟨tw_0, (List.forall_mem_cons.mpr ⟨tw_1, (fun _ h => absurd h List.not_mem_nil)⟩)⟩)⟩)⟩)⟩)⟩)⟩)
set_option maxRecDepth 20000 in
theorem pin_x_skip : ∀ w ∈ p_x_skip, w ∈ lw_tbl := fun w h => (List.mem_append.mp h).elim (oin_x_skip w) (fun h => (List.mem_append.mp h).elim (fun h => (List.mem_cons.mp h).elim (fun e => by rw [e]; exact tw_10) (pin_x_byteAt w)) (fun h => absurd h List.not_mem_nil))
set_option maxRecDepth 20000 in
theorem oin_x_sign : ∀ w ∈ o_x_sign, w ∈ lw_tbl := (fun _ h => absurd h List.not_mem_nil)
set_option maxRecDepth 20000 in
theorem pin_x_sign : ∀ w ∈ p_x_sign, w ∈ lw_tbl := fun w h => (List.mem_append.mp h).elim (oin_x_sign w) (fun h => absurd h List.not_mem_nil)
set_option maxRecDepth 20000 in
theorem oin_x_wordAt : ∀ w ∈ o_x_wordAt, w ∈ lw_tbl := (List.forall_mem_cons.mpr ⟨tw_11, (List.forall_mem_cons.mpr ⟨tw_1, (fun _ h => absurd h List.not_mem_nil)⟩)⟩)
set_option maxRecDepth 20000 in
theorem pin_x_wordAt : ∀ w ∈ p_x_wordAt, w ∈ lw_tbl := fun w h => (List.mem_append.mp h).elim (oin_x_wordAt w) (fun h => absurd h List.not_mem_nil)
set_option maxRecDepth 20000 in
theorem oin_x_take : ∀ w ∈ o_x_take, w ∈ lw_tbl := (List.forall_mem_cons.mpr ⟨tw_12, (List.forall_mem_cons.mpr ⟨tw_13, (List.forall_mem_cons.mpr ⟨tw_14, (List.forall_mem_cons.mpr ⟨tw_9, (List.forall_mem_cons.mpr ⟨tw_5, (List.forall_mem_cons.mpr ⟨tw_15, (List.forall_mem_cons.mpr ⟨tw_0, (List.forall_mem_cons.mpr ⟨tw_16, (List.forall_mem_cons.mpr ⟨tw_6, (List.forall_mem_cons.mpr ⟨tw_7, (List.forall_mem_cons.mpr ⟨tw_8, (List.forall_mem_cons.mpr ⟨tw_17, (List.forall_mem_cons.mpr ⟨tw_18, (List.forall_mem_cons.mpr ⟨tw_19, (List.forall_mem_cons.mpr ⟨tw_20, (List.forall_mem_cons.mpr ⟨tw_21, (List.forall_mem_cons.mpr ⟨tw_22, (List.forall_mem_cons.mpr ⟨tw_23, (List.forall_mem_cons.mpr ⟨tw_24, (List.forall_mem_cons.mpr ⟨tw_1, (List.forall_mem_cons.mpr ⟨tw_25, (List.forall_mem_cons.mpr ⟨tw_26, (List.forall_mem_cons.mpr ⟨tw_27, (List.forall_mem_cons.mpr ⟨tw_28, (List.forall_mem_cons.mpr ⟨tw_29, (List.forall_mem_cons.mpr ⟨tw_30, (fun _ h => absurd h List.not_mem_nil)⟩)⟩)⟩)⟩)⟩)⟩)⟩)⟩)⟩)⟩)⟩)⟩)⟩)⟩)⟩)⟩)⟩)⟩)⟩)⟩)⟩)⟩)⟩)⟩)⟩)⟩)
set_option maxRecDepth 20000 in
theorem pin_x_take : ∀ w ∈ p_x_take, w ∈ lw_tbl := fun w h => (List.mem_append.mp h).elim (oin_x_take w) (fun h => (List.mem_append.mp h).elim (fun h => (List.mem_cons.mp h).elim (fun e => by rw [e]; exact tw_36) (pin_x_skip w)) (fun h => (List.mem_append.mp h).elim (fun h => (List.mem_cons.mp h).elim (fun e => by rw [e]; exact tw_10) (pin_x_byteAt w)) (fun h => (List.mem_append.mp h).elim (fun h => (List.mem_cons.mp h).elim (fun e => by rw [e]; exact tw_35) (pin_x_isLetter w)) (fun h => (List.mem_append.mp h).elim (fun h => (List.mem_cons.mp h).elim (fun e => by rw [e]; exact tw_34) (pin_x_isDigit w)) (fun h => (List.mem_append.mp h).elim (fun h => (List.mem_cons.mp h).elim (fun e => by rw [e]; exact tw_33) (pin_x_wordAt w)) (fun h => (List.mem_append.mp h).elim (fun h => (List.mem_cons.mp h).elim (fun e => by rw [e]; exact tw_32) (pin_x_sign w)) (fun h => (List.mem_append.mp h).elim (fun h => (List.mem_cons.mp h).elim (fun e => by rw [e]; exact tw_31) (pin_x_fault w)) (fun h => absurd h List.not_mem_nil))))))))
set_option maxRecDepth 20000 in
theorem oin_x_isSign : ∀ w ∈ o_x_isSign, w ∈ lw_tbl := (List.forall_mem_cons.mpr ⟨tw_16, (List.forall_mem_cons.mpr ⟨tw_24, (fun _ h => absurd h List.not_mem_nil)⟩)⟩)
set_option maxRecDepth 20000 in
theorem pin_x_isSign : ∀ w ∈ p_x_isSign, w ∈ lw_tbl := fun w h => (List.mem_append.mp h).elim (oin_x_isSign w) (fun h => absurd h List.not_mem_nil)
set_option maxRecDepth 20000 in
theorem oin_x_isWord : ∀ w ∈ o_x_isWord, w ∈ lw_tbl := (List.forall_mem_cons.mpr ⟨tw_16, (List.forall_mem_cons.mpr ⟨tw_24, (fun _ h => absurd h List.not_mem_nil)⟩)⟩)
set_option maxRecDepth 20000 in
theorem pin_x_isWord : ∀ w ∈ p_x_isWord, w ∈ lw_tbl := fun w h => (List.mem_append.mp h).elim (oin_x_isWord w) (fun h => absurd h List.not_mem_nil)
set_option maxRecDepth 20000 in
theorem oin_x_cannot : ∀ w ∈ o_x_cannot, w ∈ lw_tbl := (List.forall_mem_cons.mpr ⟨tw_15, (List.forall_mem_cons.mpr ⟨tw_28, (List.forall_mem_cons.mpr ⟨tw_29, (List.forall_mem_cons.mpr ⟨tw_30, (List.forall_mem_cons.mpr ⟨tw_9, (fun _ h => absurd h List.not_mem_nil)⟩)⟩)⟩)⟩)⟩)
set_option maxRecDepth 20000 in
theorem pin_x_cannot : ∀ w ∈ p_x_cannot, w ∈ lw_tbl := fun w h => (List.mem_append.mp h).elim (oin_x_cannot w) (fun h => (List.mem_append.mp h).elim (fun h => (List.mem_cons.mp h).elim (fun e => by rw [e]; exact tw_31) (pin_x_fault w)) (fun h => absurd h List.not_mem_nil))
set_option maxRecDepth 20000 in
theorem oin_x_want : ∀ w ∈ o_x_want, w ∈ lw_tbl := (List.forall_mem_cons.mpr ⟨tw_2, (List.forall_mem_cons.mpr ⟨tw_37, (List.forall_mem_cons.mpr ⟨tw_38, (List.forall_mem_cons.mpr ⟨tw_39, (List.forall_mem_cons.mpr ⟨tw_9, (List.forall_mem_cons.mpr ⟨tw_40, (List.forall_mem_cons.mpr ⟨tw_41, (List.forall_mem_cons.mpr ⟨tw_42, (List.forall_mem_cons.mpr ⟨tw_43, (List.forall_mem_cons.mpr ⟨tw_44, (List.forall_mem_cons.mpr ⟨tw_45, (fun _ h => absurd h List.not_mem_nil)⟩)⟩)⟩)⟩)⟩)⟩)⟩)⟩)⟩)⟩)⟩)
set_option maxRecDepth 20000 in
theorem pin_x_want : ∀ w ∈ p_x_want, w ∈ lw_tbl := fun w h => (List.mem_append.mp h).elim (oin_x_want w) (fun h => (List.mem_append.mp h).elim (fun h => (List.mem_cons.mp h).elim (fun e => by rw [e]; exact tw_48) (pin_x_isSign w)) (fun h => (List.mem_append.mp h).elim (fun h => (List.mem_cons.mp h).elim (fun e => by rw [e]; exact tw_47) (pin_x_cannot w)) (fun h => (List.mem_append.mp h).elim (fun h => (List.mem_cons.mp h).elim (fun e => by rw [e]; exact tw_46) (pin_x_take w)) (fun h => absurd h List.not_mem_nil))))
set_option maxRecDepth 20000 in
theorem oin_x_wantWord : ∀ w ∈ o_x_wantWord, w ∈ lw_tbl := (List.forall_mem_cons.mpr ⟨tw_2, (List.forall_mem_cons.mpr ⟨tw_49, (List.forall_mem_cons.mpr ⟨tw_50, (List.forall_mem_cons.mpr ⟨tw_51, (List.forall_mem_cons.mpr ⟨tw_9, (List.forall_mem_cons.mpr ⟨tw_40, (List.forall_mem_cons.mpr ⟨tw_41, (List.forall_mem_cons.mpr ⟨tw_42, (List.forall_mem_cons.mpr ⟨tw_43, (List.forall_mem_cons.mpr ⟨tw_44, (List.forall_mem_cons.mpr ⟨tw_45, (fun _ h => absurd h List.not_mem_nil)⟩)⟩)⟩)⟩)⟩)⟩)⟩)⟩)⟩)⟩)⟩)
set_option maxRecDepth 20000 in
theorem pin_x_wantWord : ∀ w ∈ p_x_wantWord, w ∈ lw_tbl := fun w h => (List.mem_append.mp h).elim (oin_x_wantWord w) (fun h => (List.mem_append.mp h).elim (fun h => (List.mem_cons.mp h).elim (fun e => by rw [e]; exact tw_52) (pin_x_isWord w)) (fun h => (List.mem_append.mp h).elim (fun h => (List.mem_cons.mp h).elim (fun e => by rw [e]; exact tw_47) (pin_x_cannot w)) (fun h => (List.mem_append.mp h).elim (fun h => (List.mem_cons.mp h).elim (fun e => by rw [e]; exact tw_46) (pin_x_take w)) (fun h => absurd h List.not_mem_nil))))
set_option maxRecDepth 20000 in
theorem oin_x_open : ∀ w ∈ o_x_open, w ∈ lw_tbl := (List.forall_mem_cons.mpr ⟨tw_53, (List.forall_mem_cons.mpr ⟨tw_15, (List.forall_mem_cons.mpr ⟨tw_28, (List.forall_mem_cons.mpr ⟨tw_29, (List.forall_mem_cons.mpr ⟨tw_30, (List.forall_mem_cons.mpr ⟨tw_9, (fun _ h => absurd h List.not_mem_nil)⟩)⟩)⟩)⟩)⟩)⟩)
set_option maxRecDepth 20000 in
theorem pin_x_open : ∀ w ∈ p_x_open, w ∈ lw_tbl := fun w h => (List.mem_append.mp h).elim (oin_x_open w) (fun h => (List.mem_append.mp h).elim (fun h => (List.mem_cons.mp h).elim (fun e => by rw [e]; exact tw_31) (pin_x_fault w)) (fun h => absurd h List.not_mem_nil))
