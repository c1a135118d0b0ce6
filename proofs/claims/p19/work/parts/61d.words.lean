set_option maxRecDepth 20000 in
theorem tw_931 : (.code yX12_beginCall cX12_beginCall 8 none : Cond) ∈ lw_tbl := (List.mem_append_right _ (List.mem_append_right _ (List.mem_append_right _ (List.mem_append_right _ (List.mem_append_right _ (List.mem_append_right _ (List.mem_append_right _ (List.mem_append_right _ (List.mem_append_right _ (List.mem_append_right _ (List.mem_append_right _ (List.mem_append_right _ (List.mem_append_right _ (List.mem_append_right _ (List.mem_append_right _ (List.mem_of_getElem? (i := 87) rfl))))))))))))))))
set_option maxRecDepth 20000 in
theorem tw_932 : (.code yX12_takeFrom cX12_takeFrom 11 none : Cond) ∈ lw_tbl := (List.mem_append_right _ (List.mem_append_right _ (List.mem_append_right _ (List.mem_append_right _ (List.mem_append_right _ (List.mem_append_right _ (List.mem_append_right _ (List.mem_append_right _ (List.mem_append_right _ (List.mem_append_right _ (List.mem_append_right _ (List.mem_append_right _ (List.mem_append_right _ (List.mem_append_right _ (List.mem_append_right _ (List.mem_of_getElem? (i := 75) rfl))))))))))))))))
set_option maxRecDepth 20000 in
theorem tw_933 : (.code yX12_partsTo cX12_partsTo 7 none : Cond) ∈ lw_tbl := (List.mem_append_right _ (List.mem_append_right _ (List.mem_append_right _ (List.mem_append_right _ (List.mem_append_right _ (List.mem_append_right _ (List.mem_append_right _ (List.mem_append_right _ (List.mem_append_right _ (List.mem_append_right _ (List.mem_append_right _ (List.mem_append_right _ (List.mem_append_right _ (List.mem_append_right _ (List.mem_append_right _ (List.mem_of_getElem? (i := 71) rfl))))))))))))))))
set_option maxRecDepth 20000 in
theorem tw_934 : (.code yX12_assignTo cX12_assignTo 5 none : Cond) ∈ lw_tbl := (List.mem_append_right _ (List.mem_append_right _ (List.mem_append_right _ (List.mem_append_right _ (List.mem_append_right _ (List.mem_append_right _ (List.mem_append_right _ (List.mem_append_right _ (List.mem_append_right _ (List.mem_append_right _ (List.mem_append_right _ (List.mem_append_right _ (List.mem_append_right _ (List.mem_append_right _ (List.mem_append_right _ (List.mem_of_getElem? (i := 59) rfl))))))))))))))))
set_option maxRecDepth 20000 in
theorem tw_935 : (.methodLink RX12 984 yX12_beginText : Cond) ∈ lw_tbl := (List.mem_append_right _ (List.mem_append_right _ (List.mem_append_right _ (List.mem_append_right _ (List.mem_append_right _ (List.mem_append_right _ (List.mem_append_right _ (List.mem_append_right _ (List.mem_append_right _ (List.mem_append_right _ (List.mem_append_right _ (List.mem_append_left _ (List.mem_of_getElem? (i := 229) rfl)))))))))))))
set_option maxRecDepth 20000 in
theorem tw_936 : (.instanceMethod yX12_beginText : Cond) ∈ lw_tbl := (List.mem_append_right _ (List.mem_append_right _ (List.mem_append_right _ (List.mem_append_right _ (List.mem_append_right _ (List.mem_append_right _ (List.mem_append_right _ (List.mem_append_right _ (List.mem_append_right _ (List.mem_append_right _ (List.mem_append_right _ (List.mem_append_left _ (List.mem_of_getElem? (i := 231) rfl)))))))))))))
set_option maxRecDepth 20000 in
theorem tw_937 : (.selects RX12 yX12_beginText yX12_beginText : Cond) ∈ lw_tbl := (List.mem_append_left _ (List.mem_of_getElem? (i := 185) (by decide +kernel)))
set_option maxRecDepth 20000 in
theorem tw_938 : (.methodLink RX12 987 yX12_declareCallable : Cond) ∈ lw_tbl := (List.mem_append_right _ (List.mem_append_right _ (List.mem_append_right _ (List.mem_append_right _ (List.mem_append_right _ (List.mem_append_right _ (List.mem_append_right _ (List.mem_append_right _ (List.mem_append_right _ (List.mem_append_right _ (List.mem_append_right _ (List.mem_append_right _ (List.mem_append_left _ (List.mem_of_getElem? (i := 74) rfl))))))))))))))
set_option maxRecDepth 20000 in
theorem tw_939 : (.instanceMethod yX12_declareCallable : Cond) ∈ lw_tbl := (List.mem_append_right _ (List.mem_append_right _ (List.mem_append_right _ (List.mem_append_right _ (List.mem_append_right _ (List.mem_append_right _ (List.mem_append_right _ (List.mem_append_right _ (List.mem_append_right _ (List.mem_append_right _ (List.mem_append_right _ (List.mem_append_right _ (List.mem_append_left _ (List.mem_of_getElem? (i := 76) rfl))))))))))))))
set_option maxRecDepth 20000 in
theorem tw_940 : (.selects RX12 yX12_declareCallable yX12_declareCallable : Cond) ∈ lw_tbl := (List.mem_append_left _ (List.mem_of_getElem? (i := 204) (by decide +kernel)))
set_option maxRecDepth 20000 in
theorem tw_941 : (.fieldLink RX12 990 "SetHouseModel" "main" "I" : Cond) ∈ lw_tbl := (List.mem_append_right _ (List.mem_append_right _ (List.mem_append_right _ (List.mem_append_right _ (List.mem_append_right _ (List.mem_append_right _ (List.mem_append_right _ (List.mem_append_right _ (List.mem_append_right _ (List.mem_append_right _ (List.mem_append_left _ (List.mem_of_getElem? (i := 191) rfl))))))))))))
set_option maxRecDepth 20000 in
theorem tw_942 : (.code yX12_declareCallable cX12_declareCallable 4 none : Cond) ∈ lw_tbl := (List.mem_append_right _ (List.mem_append_right _ (List.mem_append_right _ (List.mem_append_right _ (List.mem_append_right _ (List.mem_append_right _ (List.mem_append_right _ (List.mem_append_right _ (List.mem_append_right _ (List.mem_append_right _ (List.mem_append_right _ (List.mem_append_right _ (List.mem_append_left _ (List.mem_of_getElem? (i := 77) rfl))))))))))))))
set_option maxRecDepth 20000 in
theorem tw_943 : (.code yX12_beginText cX12_beginText 1 none : Cond) ∈ lw_tbl := (List.mem_append_right _ (List.mem_append_right _ (List.mem_append_right _ (List.mem_append_right _ (List.mem_append_right _ (List.mem_append_right _ (List.mem_append_right _ (List.mem_append_right _ (List.mem_append_right _ (List.mem_append_right _ (List.mem_append_right _ (List.mem_append_left _ (List.mem_of_getElem? (i := 232) rfl)))))))))))))
set_option maxRecDepth 20000 in
theorem tw_944 : (.fieldLink RX12 993 "SetHouseModel" "code" "I" : Cond) ∈ lw_tbl := (List.mem_append_right _ (List.mem_append_right _ (List.mem_append_right _ (List.mem_append_right _ (List.mem_append_right _ (List.mem_append_right _ (List.mem_append_right _ (List.mem_append_right _ (List.mem_append_right _ (List.mem_append_right _ (List.mem_append_left _ (List.mem_of_getElem? (i := 83) rfl))))))))))))
set_option maxRecDepth 20000 in
theorem tw_945 : (.constant RX12 1001 (32768) : Cond) ∈ lw_tbl := (List.mem_append_right _ (List.mem_append_right _ (List.mem_append_right _ (List.mem_append_right _ (List.mem_append_right _ (List.mem_append_right _ (List.mem_append_right _ (List.mem_append_right _ (List.mem_append_right _ (List.mem_append_right _ (List.mem_append_left _ (List.mem_of_getElem? (i := 69) rfl))))))))))))
set_option maxRecDepth 20000 in
theorem tw_946 : (.methodLink RX12 1050 yX12_good : Cond) ∈ lw_tbl := (List.mem_append_right _ (List.mem_append_right _ (List.mem_append_right _ (List.mem_append_right _ (List.mem_append_right _ (List.mem_append_right _ (List.mem_append_right _ (List.mem_append_right _ (List.mem_append_right _ (List.mem_append_right _ (List.mem_append_right _ (List.mem_append_left _ (List.mem_of_getElem? (i := 213) rfl)))))))))))))
set_option maxRecDepth 20000 in
theorem tw_947 : (.instanceMethod yX12_good : Cond) ∈ lw_tbl := (List.mem_append_right _ (List.mem_append_right _ (List.mem_append_right _ (List.mem_append_right _ (List.mem_append_right _ (List.mem_append_right _ (List.mem_append_right _ (List.mem_append_right _ (List.mem_append_right _ (List.mem_append_right _ (List.mem_append_right _ (List.mem_append_left _ (List.mem_of_getElem? (i := 215) rfl)))))))))))))
set_option maxRecDepth 20000 in
theorem tw_948 : (.selects RX12 yX12_good yX12_good : Cond) ∈ lw_tbl := (List.mem_append_left _ (List.mem_of_getElem? (i := 183) (by decide +kernel)))
set_option maxRecDepth 20000 in
theorem tw_949 : (.code yX12_good cX12_good 2 (some .boolean) : Cond) ∈ lw_tbl := (List.mem_append_right _ (List.mem_append_right _ (List.mem_append_right _ (List.mem_append_right _ (List.mem_append_right _ (List.mem_append_right _ (List.mem_append_right _ (List.mem_append_right _ (List.mem_append_right _ (List.mem_append_right _ (List.mem_append_right _ (List.mem_append_left _ (List.mem_of_getElem? (i := 216) rfl)))))))))))))
set_option maxRecDepth 20000 in
theorem tw_950 : (.fieldLink RX12 1041 "SetHouseModel" "isProgram" "Z" : Cond) ∈ lw_tbl := (List.mem_append_right _ (List.mem_append_right _ (List.mem_append_right _ (List.mem_append_right _ (List.mem_append_right _ (List.mem_append_right _ (List.mem_append_right _ (List.mem_append_right _ (List.mem_append_right _ (List.mem_append_right _ (List.mem_append_left _ (List.mem_of_getElem? (i := 192) rfl))))))))))))
set_option maxRecDepth 20000 in
theorem tw_951 : (.fieldLink RX12 1010 "SetHouseModel" "programText" "[I" : Cond) ∈ lw_tbl := (List.mem_append_right _ (List.mem_append_right _ (List.mem_append_right _ (List.mem_append_right _ (List.mem_append_right _ (List.mem_append_right _ (List.mem_append_right _ (List.mem_append_right _ (List.mem_append_right _ (List.mem_append_right _ (List.mem_append_left _ (List.mem_of_getElem? (i := 195) rfl))))))))))))
set_option maxRecDepth 20000 in
theorem tw_952 : (.fieldLink RX12 1047 "SetHouseModel" "programSize" "I" : Cond) ∈ lw_tbl := (List.mem_append_right _ (List.mem_append_right _ (List.mem_append_right _ (List.mem_append_right _ (List.mem_append_right _ (List.mem_append_right _ (List.mem_append_right _ (List.mem_append_right _ (List.mem_append_right _ (List.mem_append_right _ (List.mem_append_left _ (List.mem_of_getElem? (i := 196) rfl))))))))))))
set_option maxRecDepth 20000 in
theorem tw_953 : (.methodLink RX12 1059 yX12_load : Cond) ∈ lw_tbl := (List.mem_append_right _ (List.mem_append_right _ (List.mem_append_right _ (List.mem_append_right _ (List.mem_append_right _ (List.mem_append_right _ (List.mem_append_right _ (List.mem_append_right _ (List.mem_append_right _ (List.mem_append_right _ (List.mem_append_right _ (List.mem_append_right _ (List.mem_append_right _ (List.mem_append_left _ (List.mem_of_getElem? (i := 6) rfl)))))))))))))))
set_option maxRecDepth 20000 in
theorem tw_954 : (.instanceMethod yX12_load : Cond) ∈ lw_tbl := (List.mem_append_right _ (List.mem_append_right _ (List.mem_append_right _ (List.mem_append_right _ (List.mem_append_right _ (List.mem_append_right _ (List.mem_append_right _ (List.mem_append_right _ (List.mem_append_right _ (List.mem_append_right _ (List.mem_append_right _ (List.mem_append_right _ (List.mem_append_right _ (List.mem_append_left _ (List.mem_of_getElem? (i := 8) rfl)))))))))))))))
set_option maxRecDepth 20000 in
theorem tw_955 : (.selects RX12 yX12_load yX12_load : Cond) ∈ lw_tbl := (List.mem_append_left _ (List.mem_of_getElem? (i := 247) (by decide +kernel)))
set_option maxRecDepth 20000 in
theorem tw_956 : (.methodLink RX12 1053 yX12_readProgram : Cond) ∈ lw_tbl := (List.mem_append_right _ (List.mem_append_right _ (List.mem_append_right _ (List.mem_append_right _ (List.mem_append_right _ (List.mem_append_right _ (List.mem_append_right _ (List.mem_append_right _ (List.mem_append_right _ (List.mem_append_right _ (List.mem_append_right _ (List.mem_append_left _ (List.mem_of_getElem? (i := 225) rfl)))))))))))))
set_option maxRecDepth 20000 in
theorem tw_957 : (.instanceMethod yX12_readProgram : Cond) ∈ lw_tbl := (List.mem_append_right _ (List.mem_append_right _ (List.mem_append_right _ (List.mem_append_right _ (List.mem_append_right _ (List.mem_append_right _ (List.mem_append_right _ (List.mem_append_right _ (List.mem_append_right _ (List.mem_append_right _ (List.mem_append_right _ (List.mem_append_left _ (List.mem_of_getElem? (i := 227) rfl)))))))))))))
set_option maxRecDepth 20000 in
theorem tw_958 : (.selects RX12 yX12_readProgram yX12_readProgram : Cond) ∈ lw_tbl := (List.mem_append_left _ (List.mem_of_getElem? (i := 184) (by decide +kernel)))
set_option maxRecDepth 20000 in
theorem tw_959 : (.code yX12_readProgram cX12_readProgram 1 none : Cond) ∈ lw_tbl := (List.mem_append_right _ (List.mem_append_right _ (List.mem_append_right _ (List.mem_append_right _ (List.mem_append_right _ (List.mem_append_right _ (List.mem_append_right _ (List.mem_append_right _ (List.mem_append_right _ (List.mem_append_right _ (List.mem_append_right _ (List.mem_append_left _ (List.mem_of_getElem? (i := 228) rfl)))))))))))))
set_option maxRecDepth 20000 in
theorem tw_960 : (.code yX12_load cX12_load 5 none : Cond) ∈ lw_tbl := (List.mem_append_right _ (List.mem_append_right _ (List.mem_append_right _ (List.mem_append_right _ (List.mem_append_right _ (List.mem_append_right _ (List.mem_append_right _ (List.mem_append_right _ (List.mem_append_right _ (List.mem_append_right _ (List.mem_append_right _ (List.mem_append_right _ (List.mem_append_right _ (List.mem_append_left _ (List.mem_of_getElem? (i := 9) rfl)))))))))))))))
set_option maxRecDepth 20000 in
theorem tw_961 : (.fieldLink RX12 1020 "SetHouseModel" "tried" "[I" : Cond) ∈ lw_tbl := (List.mem_append_right _ (List.mem_append_right _ (List.mem_append_right _ (List.mem_append_right _ (List.mem_append_right _ (List.mem_append_right _ (List.mem_append_right _ (List.mem_append_right _ (List.mem_append_right _ (List.mem_append_right _ (List.mem_append_left _ (List.mem_of_getElem? (i := 199) rfl))))))))))))
set_option maxRecDepth 20000 in
theorem tw_962 : (.methodLink RX12 1056 yX12_readAgain : Cond) ∈ lw_tbl := (List.mem_append_right _ (List.mem_append_right _ (List.mem_append_right _ (List.mem_append_right _ (List.mem_append_right _ (List.mem_append_right _ (List.mem_append_right _ (List.mem_append_right _ (List.mem_append_right _ (List.mem_append_right _ (List.mem_append_right _ (List.mem_append_right _ (List.mem_append_right _ (List.mem_append_left _ (List.mem_of_getElem? (i := 2) rfl)))))))))))))))
set_option maxRecDepth 20000 in
theorem tw_963 : (.instanceMethod yX12_readAgain : Cond) ∈ lw_tbl := (List.mem_append_right _ (List.mem_append_right _ (List.mem_append_right _ (List.mem_append_right _ (List.mem_append_right _ (List.mem_append_right _ (List.mem_append_right _ (List.mem_append_right _ (List.mem_append_right _ (List.mem_append_right _ (List.mem_append_right _ (List.mem_append_right _ (List.mem_append_right _ (List.mem_append_left _ (List.mem_of_getElem? (i := 4) rfl)))))))))))))))
set_option maxRecDepth 20000 in
theorem tw_964 : (.selects RX12 yX12_readAgain yX12_readAgain : Cond) ∈ lw_tbl := (List.mem_append_left _ (List.mem_of_getElem? (i := 246) (by decide +kernel)))
set_option maxRecDepth 20000 in
theorem tw_965 : (.fieldLink RX12 1044 "SetHouseModel" "isRun" "Z" : Cond) ∈ lw_tbl := (List.mem_append_right _ (List.mem_append_right _ (List.mem_append_right _ (List.mem_append_right _ (List.mem_append_right _ (List.mem_append_right _ (List.mem_append_right _ (List.mem_append_right _ (List.mem_append_right _ (List.mem_append_right _ (List.mem_append_left _ (List.mem_of_getElem? (i := 193) rfl))))))))))))
set_option maxRecDepth 20000 in
theorem tw_966 : (.fieldLink RX12 1029 "SetHouseModel" "views" "I" : Cond) ∈ lw_tbl := (List.mem_append_right _ (List.mem_append_right _ (List.mem_append_right _ (List.mem_append_right _ (List.mem_append_right _ (List.mem_append_right _ (List.mem_append_right _ (List.mem_append_right _ (List.mem_append_right _ (List.mem_append_right _ (List.mem_append_left _ (List.mem_of_getElem? (i := 154) rfl))))))))))))
set_option maxRecDepth 20000 in
theorem tw_967 : (.code yX12_readAgain cX12_readAgain 1 none : Cond) ∈ lw_tbl := (List.mem_append_right _ (List.mem_append_right _ (List.mem_append_right _ (List.mem_append_right _ (List.mem_append_right _ (List.mem_append_right _ (List.mem_append_right _ (List.mem_append_right _ (List.mem_append_right _ (List.mem_append_right _ (List.mem_append_right _ (List.mem_append_right _ (List.mem_append_right _ (List.mem_append_left _ (List.mem_of_getElem? (i := 5) rfl)))))))))))))))
set_option maxRecDepth 20000 in
theorem tw_968 : (.fieldLink RX12 1062 "SetHouseModel" "seedOfRun" "J" : Cond) ∈ lw_tbl := (List.mem_append_right _ (List.mem_append_right _ (List.mem_append_right _ (List.mem_append_right _ (List.mem_append_right _ (List.mem_append_right _ (List.mem_append_right _ (List.mem_append_right _ (List.mem_append_right _ (List.mem_append_right _ (List.mem_append_left _ (List.mem_of_getElem? (i := 194) rfl))))))))))))
set_option maxRecDepth 20000 in
theorem tw_969 : (.methodLink RX12 1065 yX12_reset : Cond) ∈ lw_tbl := (List.mem_append_right _ (List.mem_append_right _ (List.mem_append_right _ (List.mem_append_right _ (List.mem_append_right _ (List.mem_append_right _ (List.mem_append_right _ (List.mem_append_right _ (List.mem_append_right _ (List.mem_append_right _ (List.mem_append_right _ (List.mem_append_right _ (List.mem_append_right _ (List.mem_append_left _ (List.mem_of_getElem? (i := 18) rfl)))))))))))))))
set_option maxRecDepth 20000 in
theorem tw_970 : (.instanceMethod yX12_reset : Cond) ∈ lw_tbl := (List.mem_append_right _ (List.mem_append_right _ (List.mem_append_right _ (List.mem_append_right _ (List.mem_append_right _ (List.mem_append_right _ (List.mem_append_right _ (List.mem_append_right _ (List.mem_append_right _ (List.mem_append_right _ (List.mem_append_right _ (List.mem_append_right _ (List.mem_append_right _ (List.mem_append_left _ (List.mem_of_getElem? (i := 20) rfl)))))))))))))))
set_option maxRecDepth 20000 in
theorem tw_971 : (.selects RX12 yX12_reset yX12_reset : Cond) ∈ lw_tbl := (List.mem_append_left _ (List.mem_of_getElem? (i := 248) (by decide +kernel)))
set_option maxRecDepth 20000 in
theorem tw_972 : (.code yX12_reset cX12_reset 2 none : Cond) ∈ lw_tbl := (List.mem_append_right _ (List.mem_append_right _ (List.mem_append_right _ (List.mem_append_right _ (List.mem_append_right _ (List.mem_append_right _ (List.mem_append_right _ (List.mem_append_right _ (List.mem_append_right _ (List.mem_append_right _ (List.mem_append_right _ (List.mem_append_right _ (List.mem_append_right _ (List.mem_append_left _ (List.mem_of_getElem? (i := 21) rfl)))))))))))))))
set_option maxRecDepth 20000 in
theorem tw_973 : (.methodLink RX12 1068 yX12_begin : Cond) ∈ lw_tbl := (List.mem_append_right _ (List.mem_append_right _ (List.mem_append_right _ (List.mem_append_right _ (List.mem_append_right _ (List.mem_append_right _ (List.mem_append_right _ (List.mem_append_right _ (List.mem_append_right _ (List.mem_append_right _ (List.mem_append_right _ (List.mem_append_right _ (List.mem_append_right _ (List.mem_append_right _ (List.mem_append_right _ (List.mem_of_getElem? (i := 51) rfl))))))))))))))))
set_option maxRecDepth 20000 in
theorem tw_974 : (.instanceMethod yX12_begin : Cond) ∈ lw_tbl := (List.mem_append_right _ (List.mem_append_right _ (List.mem_append_right _ (List.mem_append_right _ (List.mem_append_right _ (List.mem_append_right _ (List.mem_append_right _ (List.mem_append_right _ (List.mem_append_right _ (List.mem_append_right _ (List.mem_append_right _ (List.mem_append_right _ (List.mem_append_right _ (List.mem_append_right _ (List.mem_append_right _ (List.mem_of_getElem? (i := 53) rfl))))))))))))))))
set_option maxRecDepth 20000 in
theorem tw_975 : (.selects RX12 yX12_begin yX12_begin : Cond) ∈ lw_tbl := (List.mem_append_left _ (List.mem_of_getElem? (i := 370) (by decide +kernel)))
set_option maxRecDepth 20000 in
theorem tw_976 : (.code yX12_begin cX12_begin 2 none : Cond) ∈ lw_tbl := (List.mem_append_right _ (List.mem_append_right _ (List.mem_append_right _ (List.mem_append_right _ (List.mem_append_right _ (List.mem_append_right _ (List.mem_append_right _ (List.mem_append_right _ (List.mem_append_right _ (List.mem_append_right _ (List.mem_append_right _ (List.mem_append_right _ (List.mem_append_right _ (List.mem_append_right _ (List.mem_append_right _ (List.mem_of_getElem? (i := 54) rfl))))))))))))))))
set_option maxRecDepth 20000 in
theorem tw_977 : (.fieldLink RX12 1032 "SetHouseModel" "shownCount" "I" : Cond) ∈ lw_tbl := (List.mem_append_right _ (List.mem_append_right _ (List.mem_append_right _ (List.mem_append_right _ (List.mem_append_right _ (List.mem_append_right _ (List.mem_append_right _ (List.mem_append_right _ (List.mem_append_right _ (List.mem_append_right _ (List.mem_append_left _ (List.mem_of_getElem? (i := 160) rfl))))))))))))
set_option maxRecDepth 20000 in
theorem tw_978 : (.fieldLink RX12 1038 "SetHouseModel" "shownSize" "I" : Cond) ∈ lw_tbl := (List.mem_append_right _ (List.mem_append_right _ (List.mem_append_right _ (List.mem_append_right _ (List.mem_append_right _ (List.mem_append_right _ (List.mem_append_right _ (List.mem_append_right _ (List.mem_append_right _ (List.mem_append_right _ (List.mem_append_left _ (List.mem_of_getElem? (i := 201) rfl))))))))))))
set_option maxRecDepth 20000 in
theorem tw_979 : (.fieldLink RX12 1023 "SetHouseModel" "shownText" "[I" : Cond) ∈ lw_tbl := (List.mem_append_right _ (List.mem_append_right _ (List.mem_append_right _ (List.mem_append_right _ (List.mem_append_right _ (List.mem_append_right _ (List.mem_append_right _ (List.mem_append_right _ (List.mem_append_right _ (List.mem_append_right _ (List.mem_append_left _ (List.mem_of_getElem? (i := 200) rfl))))))))))))
set_option maxRecDepth 20000 in
theorem tw_980 : (.methodLink RX12 1071 yX12_show : Cond) ∈ lw_tbl := (List.mem_append_right _ (List.mem_append_right _ (List.mem_append_right _ (List.mem_append_right _ (List.mem_append_right _ (List.mem_append_right _ (List.mem_append_right _ (List.mem_append_right _ (List.mem_append_right _ (List.mem_append_right _ (List.mem_append_right _ (List.mem_append_right _ (List.mem_append_right _ (List.mem_append_right _ (List.mem_append_right _ (List.mem_of_getElem? (i := 149) rfl))))))))))))))))
set_option maxRecDepth 20000 in
theorem tw_981 : (.instanceMethod yX12_show : Cond) ∈ lw_tbl := (List.mem_append_right _ (List.mem_append_right _ (List.mem_append_right _ (List.mem_append_right _ (List.mem_append_right _ (List.mem_append_right _ (List.mem_append_right _ (List.mem_append_right _ (List.mem_append_right _ (List.mem_append_right _ (List.mem_append_right _ (List.mem_append_right _ (List.mem_append_right _ (List.mem_append_right _ (List.mem_append_right _ (List.mem_of_getElem? (i := 151) rfl))))))))))))))))
set_option maxRecDepth 20000 in
theorem tw_982 : (.selects RX12 yX12_show yX12_show : Cond) ∈ lw_tbl := (List.mem_append_left _ (List.mem_of_getElem? (i := 390) (by decide +kernel)))
set_option maxRecDepth 20000 in
theorem tw_983 : (.code yX12_show cX12_show 3 (some .int) : Cond) ∈ lw_tbl := (List.mem_append_right _ (List.mem_append_right _ (List.mem_append_right _ (List.mem_append_right _ (List.mem_append_right _ (List.mem_append_right _ (List.mem_append_right _ (List.mem_append_right _ (List.mem_append_right _ (List.mem_append_right _ (List.mem_append_right _ (List.mem_append_right _ (List.mem_append_right _ (List.mem_append_right _ (List.mem_append_right _ (List.mem_of_getElem? (i := 152) rfl))))))))))))))))
set_option maxRecDepth 20000 in
theorem tw_984 : (.methodLink RX12 1074 yX12_readExp : Cond) ∈ lw_tbl := (List.mem_append_right _ (List.mem_append_right _ (List.mem_append_right _ (List.mem_append_right _ (List.mem_append_right _ (List.mem_append_right _ (List.mem_append_right _ (List.mem_append_right _ (List.mem_append_right _ (List.mem_append_right _ (List.mem_append_right _ (List.mem_append_right _ (List.mem_append_right _ (List.mem_append_right _ (List.mem_append_right _ (List.mem_of_getElem? (i := 157) rfl))))))))))))))))
set_option maxRecDepth 20000 in
theorem tw_985 : (.instanceMethod yX12_readExp : Cond) ∈ lw_tbl := (List.mem_append_right _ (List.mem_append_right _ (List.mem_append_right _ (List.mem_append_right _ (List.mem_append_right _ (List.mem_append_right _ (List.mem_append_right _ (List.mem_append_right _ (List.mem_append_right _ (List.mem_append_right _ (List.mem_append_right _ (List.mem_append_right _ (List.mem_append_right _ (List.mem_append_right _ (List.mem_append_right _ (List.mem_of_getElem? (i := 159) rfl))))))))))))))))
set_option maxRecDepth 20000 in
theorem tw_986 : (.selects RX12 yX12_readExp yX12_readExp : Cond) ∈ lw_tbl := (List.mem_append_left _ (List.mem_of_getElem? (i := 391) (by decide +kernel)))
set_option maxRecDepth 20000 in
theorem tw_987 : (.fieldLink RX12 1035 "SetHouseModel" "workOfExp" "I" : Cond) ∈ lw_tbl := (List.mem_append_right _ (List.mem_append_right _ (List.mem_append_right _ (List.mem_append_right _ (List.mem_append_right _ (List.mem_append_right _ (List.mem_append_right _ (List.mem_append_right _ (List.mem_append_right _ (List.mem_append_right _ (List.mem_append_left _ (List.mem_of_getElem? (i := 190) rfl))))))))))))
set_option maxRecDepth 20000 in
theorem tw_988 : (.methodLink RX12 1077 yX12_workAlone : Cond) ∈ lw_tbl := (List.mem_append_right _ (List.mem_append_right _ (List.mem_append_right _ (List.mem_append_right _ (List.mem_append_right _ (List.mem_append_right _ (List.mem_append_right _ (List.mem_append_right _ (List.mem_append_right _ (List.mem_append_right _ (List.mem_append_right _ (List.mem_append_right _ (List.mem_append_right _ (List.mem_append_right _ (List.mem_append_right _ (List.mem_of_getElem? (i := 161) rfl))))))))))))))))
set_option maxRecDepth 20000 in
theorem tw_989 : (.instanceMethod yX12_workAlone : Cond) ∈ lw_tbl := (List.mem_append_right _ (List.mem_append_right _ (List.mem_append_right _ (List.mem_append_right _ (List.mem_append_right _ (List.mem_append_right _ (List.mem_append_right _ (List.mem_append_right _ (List.mem_append_right _ (List.mem_append_right _ (List.mem_append_right _ (List.mem_append_right _ (List.mem_append_right _ (List.mem_append_right _ (List.mem_append_right _ (List.mem_of_getElem? (i := 163) rfl))))))))))))))))
set_option maxRecDepth 20000 in
theorem tw_990 : (.selects RX12 yX12_workAlone yX12_workAlone : Cond) ∈ lw_tbl := (List.mem_append_left _ (List.mem_of_getElem? (i := 392) (by decide +kernel)))
set_option maxRecDepth 20000 in
theorem tw_991 : (.code yX12_workAlone cX12_workAlone 2 none : Cond) ∈ lw_tbl := (List.mem_append_right _ (List.mem_append_right _ (List.mem_append_right _ (List.mem_append_right _ (List.mem_append_right _ (List.mem_append_right _ (List.mem_append_right _ (List.mem_append_right _ (List.mem_append_right _ (List.mem_append_right _ (List.mem_append_right _ (List.mem_append_right _ (List.mem_append_right _ (List.mem_append_right _ (List.mem_append_right _ (List.mem_of_getElem? (i := 164) rfl))))))))))))))))
set_option maxRecDepth 20000 in
theorem tw_992 : (.code yX12_readExp cX12_readExp 3 (some .int) : Cond) ∈ lw_tbl := (List.mem_append_right _ (List.mem_append_right _ (List.mem_append_right _ (List.mem_append_right _ (List.mem_append_right _ (List.mem_append_right _ (List.mem_append_right _ (List.mem_append_right _ (List.mem_append_right _ (List.mem_append_right _ (List.mem_append_right _ (List.mem_append_right _ (List.mem_append_right _ (List.mem_append_right _ (List.mem_append_right _ (List.mem_of_getElem? (i := 160) rfl))))))))))))))))
set_option maxRecDepth 20000 in
theorem tw_993 : (.fieldLink RX12 1014 "SetHouseModel" "viewTexts" "[I" : Cond) ∈ lw_tbl := (List.mem_append_right _ (List.mem_append_right _ (List.mem_append_right _ (List.mem_append_right _ (List.mem_append_right _ (List.mem_append_right _ (List.mem_append_right _ (List.mem_append_right _ (List.mem_append_right _ (List.mem_append_right _ (List.mem_append_left _ (List.mem_of_getElem? (i := 197) rfl))))))))))))
set_option maxRecDepth 20000 in
theorem tw_994 : (.fieldLink RX12 1017 "SetHouseModel" "viewSizes" "[I" : Cond) ∈ lw_tbl := (List.mem_append_right _ (List.mem_append_right _ (List.mem_append_right _ (List.mem_append_right _ (List.mem_append_right _ (List.mem_append_right _ (List.mem_append_right _ (List.mem_append_right _ (List.mem_append_right _ (List.mem_append_right _ (List.mem_append_left _ (List.mem_of_getElem? (i := 198) rfl))))))))))))
set_option maxRecDepth 20000 in
theorem tw_995 : (.fieldLink RX12 1006 "SetHouseModel" "viewed" "[Z" : Cond) ∈ lw_tbl := (List.mem_append_right _ (List.mem_append_right _ (List.mem_append_right _ (List.mem_append_right _ (List.mem_append_right _ (List.mem_append_right _ (List.mem_append_right _ (List.mem_append_right _ (List.mem_append_right _ (List.mem_append_right _ (List.mem_append_left _ (List.mem_of_getElem? (i := 158) rfl))))))))))))
set_option maxRecDepth 20000 in
theorem tw_996 : (.fieldLink RX1 11 "SetHouse$Heap" "mem" "[I" : Cond) ∈ lw_tbl := (List.mem_append_right _ (List.mem_append_left _ (List.mem_of_getElem? (i := 48) rfl)))
set_option maxRecDepth 20000 in
theorem tw_997 : (.constant RX10 37 (-1610612736) : Cond) ∈ lw_tbl := (List.mem_append_right _ (List.mem_append_right _ (List.mem_append_right _ (List.mem_append_right _ (List.mem_append_left _ (List.mem_of_getElem? (i := 227) rfl))))))
set_option maxRecDepth 20000 in
theorem tw_998 : (.constant RX10 38 (268435455) : Cond) ∈ lw_tbl := (List.mem_append_right _ (List.mem_append_right _ (List.mem_append_right _ (List.mem_append_right _ (List.mem_append_left _ (List.mem_of_getElem? (i := 228) rfl))))))
set_option maxRecDepth 20000 in
theorem tw_999 : (.constant RX1 52 (-268435451) : Cond) ∈ lw_tbl := (List.mem_append_right _ (List.mem_append_right _ (List.mem_append_right _ (List.mem_append_right _ (List.mem_append_right _ (List.mem_append_right _ (List.mem_append_right _ (List.mem_append_left _ (List.mem_of_getElem? (i := 85) rfl)))))))))
set_option maxRecDepth 20000 in
theorem tw_1000 : (.fieldLink RX1 15 "SetHouse$Heap" "top" "I" : Cond) ∈ lw_tbl := (List.mem_append_right _ (List.mem_append_left _ (List.mem_of_getElem? (i := 52) rfl)))
set_option maxRecDepth 20000 in
theorem tw_1001 : (.constant RX1 53 (-268435450) : Cond) ∈ lw_tbl := (List.mem_append_right _ (List.mem_append_right _ (List.mem_append_right _ (List.mem_append_right _ (List.mem_append_right _ (List.mem_append_right _ (List.mem_append_right _ (List.mem_append_left _ (List.mem_of_getElem? (i := 57) rfl)))))))))
set_option maxRecDepth 20000 in
theorem tw_1002 : (.methodLink RX1 54 arraycopyName : Cond) ∈ lw_tbl := (List.mem_append_right _ (List.mem_append_right _ (List.mem_append_right _ (List.mem_append_right _ (List.mem_append_right _ (List.mem_append_right _ (List.mem_append_left _ (List.mem_of_getElem? (i := 146) rfl))))))))
set_option maxRecDepth 20000 in
theorem tw_1003 : (.native arraycopyName : Cond) ∈ lw_tbl := (List.mem_append_right _ (List.mem_append_right _ (List.mem_append_right _ (List.mem_append_right _ (List.mem_append_left _ (List.mem_of_getElem? (i := 7) rfl))))))
set_option maxRecDepth 20000 in
theorem tw_1004 : (.static arraycopyName : Cond) ∈ lw_tbl := (List.mem_append_right _ (List.mem_append_right _ (List.mem_append_right _ (List.mem_append_right _ (List.mem_append_left _ (List.mem_of_getElem? (i := 6) rfl))))))
set_option maxRecDepth 20000 in
theorem tw_1005 : (.initialized "java/lang/System" : Cond) ∈ lw_tbl := (List.mem_append_right _ (List.mem_append_left _ (List.mem_of_getElem? (i := 23) rfl)))
set_option maxRecDepth 20000 in
theorem tw_1006 : (.constantLong RX10 39 (-134217728) : Cond) ∈ lw_tbl := (List.mem_append_right _ (List.mem_append_right _ (List.mem_append_right _ (List.mem_append_right _ (List.mem_append_right _ (List.mem_append_right _ (List.mem_append_right _ (List.mem_append_left _ (List.mem_of_getElem? (i := 113) rfl)))))))))
set_option maxRecDepth 20000 in
theorem tw_1007 : (.constantLong RX10 41 (134217728) : Cond) ∈ lw_tbl := (List.mem_append_right _ (List.mem_append_right _ (List.mem_append_right _ (List.mem_append_right _ (List.mem_append_right _ (List.mem_append_right _ (List.mem_append_right _ (List.mem_append_left _ (List.mem_of_getElem? (i := 114) rfl)))))))))
set_option maxRecDepth 20000 in
theorem tw_1008 : (.methodLink RX10 43 yX10_small : Cond) ∈ lw_tbl := (List.mem_append_right _ (List.mem_append_right _ (List.mem_append_right _ (List.mem_append_right _ (List.mem_append_right _ (List.mem_append_right _ (List.mem_append_right _ (List.mem_append_left _ (List.mem_of_getElem? (i := 115) rfl)))))))))
set_option maxRecDepth 20000 in
theorem tw_1009 : (.static yX10_small : Cond) ∈ lw_tbl := (List.mem_append_right _ (List.mem_append_right _ (List.mem_append_right _ (List.mem_append_right _ (List.mem_append_left _ (List.mem_of_getElem? (i := 225) rfl))))))
set_option maxRecDepth 20000 in
theorem tw_1010 : (.initialized RX10 : Cond) ∈ lw_tbl := (List.mem_append_right _ (List.mem_append_left _ (List.mem_of_getElem? (i := 3) rfl)))
set_option maxRecDepth 20000 in
theorem tw_1011 : (.fieldLink RX10 18 "SetHouse$Wholes" "result" "[I" : Cond) ∈ lw_tbl := (List.mem_append_right _ (List.mem_append_left _ (List.mem_of_getElem? (i := 74) rfl)))
set_option maxRecDepth 20000 in
theorem tw_1012 : (.fieldLink RX10 33 "SetHouse$Wholes" "heap" "LSetHouse$Heap;" : Cond) ∈ lw_tbl := (List.mem_append_right _ (List.mem_append_left _ (List.mem_of_getElem? (i := 71) rfl)))
set_option maxRecDepth 20000 in
theorem tw_1013 : (.methodLink RX10 47 yX1_makeWhole : Cond) ∈ lw_tbl := (List.mem_append_right _ (List.mem_append_right _ (List.mem_append_right _ (List.mem_append_right _ (List.mem_append_right _ (List.mem_append_right _ (List.mem_append_right _ (List.mem_append_left _ (List.mem_of_getElem? (i := 116) rfl)))))))))
set_option maxRecDepth 20000 in
theorem tw_1014 : (.instanceMethod yX1_makeWhole : Cond) ∈ lw_tbl := (List.mem_append_right _ (List.mem_append_right _ (List.mem_append_right _ (List.mem_append_right _ (List.mem_append_right _ (List.mem_append_right _ (List.mem_append_right _ (List.mem_append_left _ (List.mem_of_getElem? (i := 117) rfl)))))))))
set_option maxRecDepth 20000 in
theorem tw_1015 : (.selects RX1 yX1_makeWhole yX1_makeWhole : Cond) ∈ lw_tbl := (List.mem_append_right _ (List.mem_append_right _ (List.mem_append_right _ (List.mem_append_right _ (List.mem_append_right _ (List.mem_append_right _ (List.mem_append_right _ (List.mem_append_left _ (List.mem_of_getElem? (i := 118) rfl)))))))))
set_option maxRecDepth 20000 in
theorem tw_1016 : (.initialized RX1 : Cond) ∈ lw_tbl := (List.mem_append_right _ (List.mem_append_left _ (List.mem_of_getElem? (i := 2) rfl)))
set_option maxRecDepth 20000 in
theorem tw_1017 : (.code yX1_makeWhole cX1_makeWhole 5 (some .int) : Cond) ∈ lw_tbl := (List.mem_append_right _ (List.mem_append_right _ (List.mem_append_right _ (List.mem_append_right _ (List.mem_append_right _ (List.mem_append_right _ (List.mem_append_right _ (List.mem_append_left _ (List.mem_of_getElem? (i := 119) rfl)))))))))
set_option maxRecDepth 20000 in
theorem tw_1018 : (.code yX10_small cX10_small 1 (some .int) : Cond) ∈ lw_tbl := (List.mem_append_right _ (List.mem_append_right _ (List.mem_append_right _ (List.mem_append_right _ (List.mem_append_left _ (List.mem_of_getElem? (i := 226) rfl))))))
set_option maxRecDepth 20000 in
theorem tw_1019 : (.methodLink RX10 100 Lib.Math.max.name : Cond) ∈ lw_tbl := (List.mem_append_right _ (List.mem_append_right _ (List.mem_append_right _ (List.mem_append_right _ (List.mem_append_right _ (List.mem_append_right _ (List.mem_append_right _ (List.mem_append_left _ (List.mem_of_getElem? (i := 133) rfl)))))))))
set_option maxRecDepth 20000 in
theorem tw_1020 : (.static Lib.Math.max.name : Cond) ∈ lw_tbl := (List.mem_append_right _ (List.mem_append_right _ (List.mem_append_right _ (List.mem_append_right _ (List.mem_append_right _ (List.mem_append_right _ (List.mem_append_left _ (List.mem_of_getElem? (i := 180) rfl))))))))
set_option maxRecDepth 20000 in
theorem tw_1021 : (.initialized "java/lang/Math" : Cond) ∈ lw_tbl := (List.mem_append_right _ (List.mem_append_left _ (List.mem_of_getElem? (i := 22) rfl)))
set_option maxRecDepth 20000 in
theorem tw_1022 : (.code Lib.Math.max.name Lib.Math.max.code 2 (some .int) : Cond) ∈ lw_tbl := (List.mem_append_right _ (List.mem_append_right _ (List.mem_append_right _ (List.mem_append_right _ (List.mem_append_right _ (List.mem_append_right _ (List.mem_append_left _ (List.mem_of_getElem? (i := 181) rfl))))))))
set_option maxRecDepth 20000 in
theorem tw_1023 : (.fieldLink RX10 9 "SetHouse$Wholes" "left" "[I" : Cond) ∈ lw_tbl := (List.mem_append_right _ (List.mem_append_left _ (List.mem_of_getElem? (i := 72) rfl)))
set_option maxRecDepth 20000 in
theorem tw_1024 : (.constantLong RX10 105 (4294967295) : Cond) ∈ lw_tbl := (List.mem_append_right _ (List.mem_append_right _ (List.mem_append_right _ (List.mem_append_right _ (List.mem_append_left _ (List.mem_of_getElem? (i := 217) rfl))))))
set_option maxRecDepth 20000 in
theorem tw_1025 : (.fieldLink RX10 15 "SetHouse$Wholes" "right" "[I" : Cond) ∈ lw_tbl := (List.mem_append_right _ (List.mem_append_left _ (List.mem_of_getElem? (i := 73) rfl)))
set_option maxRecDepth 20000 in
theorem tw_1026 : (.constant RX10 57 (134217728) : Cond) ∈ lw_tbl := (List.mem_append_right _ (List.mem_append_right _ (List.mem_append_right _ (List.mem_append_right _ (List.mem_append_right _ (List.mem_append_right _ (List.mem_append_right _ (List.mem_append_left _ (List.mem_of_getElem? (i := 138) rfl)))))))))
set_option maxRecDepth 20000 in
theorem tw_1027 : (.methodLink RX10 94 yJ6_compare_7cf53 : Cond) ∈ lw_tbl := (List.mem_append_right _ (List.mem_append_right _ (List.mem_append_right _ (List.mem_append_right _ (List.mem_append_right _ (List.mem_append_right _ (List.mem_append_right _ (List.mem_append_left _ (List.mem_of_getElem? (i := 143) rfl)))))))))
set_option maxRecDepth 20000 in
theorem tw_1028 : (.static yJ6_compare_7cf53 : Cond) ∈ lw_tbl := (List.mem_append_right _ (List.mem_append_right _ (List.mem_append_right _ (List.mem_append_right _ (List.mem_append_right _ (List.mem_append_right _ (List.mem_append_right _ (List.mem_append_left _ (List.mem_of_getElem? (i := 144) rfl)))))))))
set_option maxRecDepth 20000 in
theorem tw_1029 : (.initialized RJ6 : Cond) ∈ lw_tbl := (List.mem_append_right _ (List.mem_append_left _ (List.mem_of_getElem? (i := 26) rfl)))
set_option maxRecDepth 20000 in
theorem tw_1030 : (.constant RX10 99 (-2147483648) : Cond) ∈ lw_tbl := (List.mem_append_right _ (List.mem_append_right _ (List.mem_append_right _ (List.mem_append_right _ (List.mem_append_right _ (List.mem_append_right _ (List.mem_append_right _ (List.mem_append_left _ (List.mem_of_getElem? (i := 146) rfl)))))))))
set_option maxRecDepth 20000 in
theorem tw_1031 : (.code yJ6_compare_7cf53 cJ6_compare_7cf53 2 (some .int) : Cond) ∈ lw_tbl := (List.mem_append_right _ (List.mem_append_right _ (List.mem_append_right _ (List.mem_append_right _ (List.mem_append_right _ (List.mem_append_right _ (List.mem_append_right _ (List.mem_append_left _ (List.mem_of_getElem? (i := 145) rfl)))))))))
set_option maxRecDepth 20000 in
theorem tw_1032 : (.methodLink RX10 58 arraycopyName : Cond) ∈ lw_tbl := (List.mem_append_right _ (List.mem_append_right _ (List.mem_append_right _ (List.mem_append_right _ (List.mem_append_right _ (List.mem_append_right _ (List.mem_append_right _ (List.mem_append_left _ (List.mem_of_getElem? (i := 124) rfl)))))))))
set_option maxRecDepth 20000 in
theorem tw_1033 : (.methodLink RX10 64 yX10_load : Cond) ∈ lw_tbl := (List.mem_append_right _ (List.mem_append_right _ (List.mem_append_right _ (List.mem_append_right _ (List.mem_append_right _ (List.mem_append_right _ (List.mem_append_right _ (List.mem_append_left _ (List.mem_of_getElem? (i := 120) rfl)))))))))
set_option maxRecDepth 20000 in
theorem tw_1034 : (.instanceMethod yX10_load : Cond) ∈ lw_tbl := (List.mem_append_right _ (List.mem_append_right _ (List.mem_append_right _ (List.mem_append_right _ (List.mem_append_right _ (List.mem_append_right _ (List.mem_append_right _ (List.mem_append_left _ (List.mem_of_getElem? (i := 122) rfl)))))))))
set_option maxRecDepth 20000 in
theorem tw_1035 : (.selects RX10 yX10_load yX10_load : Cond) ∈ lw_tbl := (List.mem_append_left _ (List.mem_of_getElem? (i := 105) (by decide +kernel)))
set_option maxRecDepth 20000 in
theorem tw_1036 : (.methodLink RX10 68 yX10_isBelow : Cond) ∈ lw_tbl := (List.mem_append_right _ (List.mem_append_right _ (List.mem_append_right _ (List.mem_append_right _ (List.mem_append_right _ (List.mem_append_right _ (List.mem_append_right _ (List.mem_append_left _ (List.mem_of_getElem? (i := 125) rfl)))))))))
set_option maxRecDepth 20000 in
theorem tw_1037 : (.instanceMethod yX10_isBelow : Cond) ∈ lw_tbl := (List.mem_append_right _ (List.mem_append_right _ (List.mem_append_right _ (List.mem_append_right _ (List.mem_append_right _ (List.mem_append_right _ (List.mem_append_right _ (List.mem_append_left _ (List.mem_of_getElem? (i := 126) rfl)))))))))
set_option maxRecDepth 20000 in
theorem tw_1038 : (.selects RX10 yX10_isBelow yX10_isBelow : Cond) ∈ lw_tbl := (List.mem_append_right _ (List.mem_append_right _ (List.mem_append_right _ (List.mem_append_right _ (List.mem_append_right _ (List.mem_append_right _ (List.mem_append_right _ (List.mem_append_left _ (List.mem_of_getElem? (i := 127) rfl)))))))))
set_option maxRecDepth 20000 in
theorem tw_1039 : (.methodLink RX10 79 yX10_of : Cond) ∈ lw_tbl := (List.mem_append_right _ (List.mem_append_right _ (List.mem_append_right _ (List.mem_append_right _ (List.mem_append_right _ (List.mem_append_right _ (List.mem_append_right _ (List.mem_append_left _ (List.mem_of_getElem? (i := 109) rfl)))))))))
set_option maxRecDepth 20000 in
theorem tw_1040 : (.instanceMethod yX10_of : Cond) ∈ lw_tbl := (List.mem_append_right _ (List.mem_append_right _ (List.mem_append_right _ (List.mem_append_right _ (List.mem_append_right _ (List.mem_append_right _ (List.mem_append_right _ (List.mem_append_left _ (List.mem_of_getElem? (i := 110) rfl)))))))))
set_option maxRecDepth 20000 in
theorem tw_1041 : (.selects RX10 yX10_of yX10_of : Cond) ∈ lw_tbl := (List.mem_append_right _ (List.mem_append_right _ (List.mem_append_right _ (List.mem_append_right _ (List.mem_append_right _ (List.mem_append_right _ (List.mem_append_right _ (List.mem_append_left _ (List.mem_of_getElem? (i := 111) rfl)))))))))
set_option maxRecDepth 20000 in
theorem tw_1042 : (.methodLink RX10 83 yX10_addLimbs : Cond) ∈ lw_tbl := (List.mem_append_right _ (List.mem_append_right _ (List.mem_append_right _ (List.mem_append_right _ (List.mem_append_right _ (List.mem_append_right _ (List.mem_append_right _ (List.mem_append_left _ (List.mem_of_getElem? (i := 129) rfl)))))))))
set_option maxRecDepth 20000 in
theorem tw_1043 : (.instanceMethod yX10_addLimbs : Cond) ∈ lw_tbl := (List.mem_append_right _ (List.mem_append_right _ (List.mem_append_right _ (List.mem_append_right _ (List.mem_append_right _ (List.mem_append_right _ (List.mem_append_right _ (List.mem_append_left _ (List.mem_of_getElem? (i := 131) rfl)))))))))
set_option maxRecDepth 20000 in
theorem tw_1044 : (.selects RX10 yX10_addLimbs yX10_addLimbs : Cond) ∈ lw_tbl := (List.mem_append_left _ (List.mem_of_getElem? (i := 106) (by decide +kernel)))
set_option maxRecDepth 20000 in
theorem tw_1045 : (.methodLink RX10 72 yX10_made : Cond) ∈ lw_tbl := (List.mem_append_right _ (List.mem_append_right _ (List.mem_append_right _ (List.mem_append_right _ (List.mem_append_right _ (List.mem_append_right _ (List.mem_append_right _ (List.mem_append_left _ (List.mem_of_getElem? (i := 134) rfl)))))))))
set_option maxRecDepth 20000 in
theorem tw_1046 : (.instanceMethod yX10_made : Cond) ∈ lw_tbl := (List.mem_append_right _ (List.mem_append_right _ (List.mem_append_right _ (List.mem_append_right _ (List.mem_append_right _ (List.mem_append_right _ (List.mem_append_right _ (List.mem_append_left _ (List.mem_of_getElem? (i := 136) rfl)))))))))
set_option maxRecDepth 20000 in
theorem tw_1047 : (.selects RX10 yX10_made yX10_made : Cond) ∈ lw_tbl := (List.mem_append_left _ (List.mem_of_getElem? (i := 107) (by decide +kernel)))
set_option maxRecDepth 20000 in
theorem tw_1048 : (.methodLink RX10 87 yX10_compareLimbs : Cond) ∈ lw_tbl := (List.mem_append_right _ (List.mem_append_right _ (List.mem_append_right _ (List.mem_append_right _ (List.mem_append_right _ (List.mem_append_right _ (List.mem_append_right _ (List.mem_append_left _ (List.mem_of_getElem? (i := 139) rfl)))))))))
set_option maxRecDepth 20000 in
theorem tw_1049 : (.instanceMethod yX10_compareLimbs : Cond) ∈ lw_tbl := (List.mem_append_right _ (List.mem_append_right _ (List.mem_append_right _ (List.mem_append_right _ (List.mem_append_right _ (List.mem_append_right _ (List.mem_append_right _ (List.mem_append_left _ (List.mem_of_getElem? (i := 141) rfl)))))))))
set_option maxRecDepth 20000 in
theorem tw_1050 : (.selects RX10 yX10_compareLimbs yX10_compareLimbs : Cond) ∈ lw_tbl := (List.mem_append_left _ (List.mem_of_getElem? (i := 108) (by decide +kernel)))
set_option maxRecDepth 20000 in
theorem tw_1051 : (.methodLink RX10 90 yX10_takeLimbs : Cond) ∈ lw_tbl := (List.mem_append_right _ (List.mem_append_right _ (List.mem_append_right _ (List.mem_append_right _ (List.mem_append_right _ (List.mem_append_right _ (List.mem_append_right _ (List.mem_append_left _ (List.mem_of_getElem? (i := 147) rfl)))))))))
set_option maxRecDepth 20000 in
theorem tw_1052 : (.instanceMethod yX10_takeLimbs : Cond) ∈ lw_tbl := (List.mem_append_right _ (List.mem_append_right _ (List.mem_append_right _ (List.mem_append_right _ (List.mem_append_right _ (List.mem_append_right _ (List.mem_append_right _ (List.mem_append_left _ (List.mem_of_getElem? (i := 149) rfl)))))))))
set_option maxRecDepth 20000 in
theorem tw_1053 : (.selects RX10 yX10_takeLimbs yX10_takeLimbs : Cond) ∈ lw_tbl := (List.mem_append_left _ (List.mem_of_getElem? (i := 109) (by decide +kernel)))
set_option maxRecDepth 20000 in
theorem tw_1054 : (.code yX10_takeLimbs cX10_takeLimbs 8 (some .int) : Cond) ∈ lw_tbl := (List.mem_append_right _ (List.mem_append_right _ (List.mem_append_right _ (List.mem_append_right _ (List.mem_append_right _ (List.mem_append_right _ (List.mem_append_right _ (List.mem_append_left _ (List.mem_of_getElem? (i := 150) rfl)))))))))
set_option maxRecDepth 20000 in
theorem tw_1055 : (.code yX10_compareLimbs cX10_compareLimbs 5 (some .int) : Cond) ∈ lw_tbl := (List.mem_append_right _ (List.mem_append_right _ (List.mem_append_right _ (List.mem_append_right _ (List.mem_append_right _ (List.mem_append_right _ (List.mem_append_right _ (List.mem_append_left _ (List.mem_of_getElem? (i := 142) rfl)))))))))
set_option maxRecDepth 20000 in
theorem tw_1056 : (.code yX10_made cX10_made 5 (some .int) : Cond) ∈ lw_tbl := (List.mem_append_right _ (List.mem_append_right _ (List.mem_append_right _ (List.mem_append_right _ (List.mem_append_right _ (List.mem_append_right _ (List.mem_append_right _ (List.mem_append_left _ (List.mem_of_getElem? (i := 137) rfl)))))))))
set_option maxRecDepth 20000 in
theorem tw_1057 : (.code yX10_addLimbs cX10_addLimbs 7 (some .int) : Cond) ∈ lw_tbl := (List.mem_append_right _ (List.mem_append_right _ (List.mem_append_right _ (List.mem_append_right _ (List.mem_append_right _ (List.mem_append_right _ (List.mem_append_right _ (List.mem_append_left _ (List.mem_of_getElem? (i := 132) rfl)))))))))
set_option maxRecDepth 20000 in
theorem tw_1058 : (.code yX10_of cX10_of 5 (some .int) : Cond) ∈ lw_tbl := (List.mem_append_right _ (List.mem_append_right _ (List.mem_append_right _ (List.mem_append_right _ (List.mem_append_right _ (List.mem_append_right _ (List.mem_append_right _ (List.mem_append_left _ (List.mem_of_getElem? (i := 112) rfl)))))))))
set_option maxRecDepth 20000 in
theorem tw_1059 : (.code yX10_isBelow cX10_isBelow 2 (some .boolean) : Cond) ∈ lw_tbl := (List.mem_append_right _ (List.mem_append_right _ (List.mem_append_right _ (List.mem_append_right _ (List.mem_append_right _ (List.mem_append_right _ (List.mem_append_right _ (List.mem_append_left _ (List.mem_of_getElem? (i := 128) rfl)))))))))
set_option maxRecDepth 20000 in
theorem tw_1060 : (.code yX10_load cX10_load 4 (some .int) : Cond) ∈ lw_tbl := (List.mem_append_right _ (List.mem_append_right _ (List.mem_append_right _ (List.mem_append_right _ (List.mem_append_right _ (List.mem_append_right _ (List.mem_append_right _ (List.mem_append_left _ (List.mem_of_getElem? (i := 123) rfl)))))))))
set_option maxRecDepth 20000 in
theorem tw_1061 : (.constant RX1 33 (-268435456) : Cond) ∈ lw_tbl := (List.mem_append_right _ (List.mem_append_right _ (List.mem_append_right _ (List.mem_append_right _ (List.mem_append_right _ (List.mem_append_right _ (List.mem_append_left _ (List.mem_of_getElem? (i := 236) rfl))))))))
set_option maxRecDepth 20000 in
theorem tw_1062 : (.constant RX1 34 (-1073741824) : Cond) ∈ lw_tbl := (List.mem_append_right _ (List.mem_append_right _ (List.mem_append_right _ (List.mem_append_right _ (List.mem_append_right _ (List.mem_append_right _ (List.mem_append_left _ (List.mem_of_getElem? (i := 237) rfl))))))))
set_option maxRecDepth 20000 in
theorem tw_1063 : (.methodLink RX1 29 yX1_header : Cond) ∈ lw_tbl := (List.mem_append_right _ (List.mem_append_left _ (List.mem_of_getElem? (i := 45) rfl)))
set_option maxRecDepth 20000 in
theorem tw_1064 : (.static yX1_header : Cond) ∈ lw_tbl := (List.mem_append_right _ (List.mem_append_left _ (List.mem_of_getElem? (i := 46) rfl)))
set_option maxRecDepth 20000 in
theorem tw_1065 : (.code yX1_header cX1_header 5 (some .int) : Cond) ∈ lw_tbl := (List.mem_append_right _ (List.mem_append_left _ (List.mem_of_getElem? (i := 47) rfl)))
set_option maxRecDepth 20000 in
theorem tw_1066 : (.fieldLink RX0 22 "SetHouse$Algebra" "heap" "LSetHouse$Heap;" : Cond) ∈ lw_tbl := (List.mem_append_right _ (List.mem_append_left _ (List.mem_of_getElem? (i := 129) rfl)))
set_option maxRecDepth 20000 in
theorem tw_1067 : (.methodLink RX0 100 yX1_length : Cond) ∈ lw_tbl := (List.mem_append_right _ (List.mem_append_right _ (List.mem_append_right _ (List.mem_append_right _ (List.mem_append_right _ (List.mem_append_right _ (List.mem_append_right _ (List.mem_append_right _ (List.mem_append_left _ (List.mem_of_getElem? (i := 33) rfl))))))))))
set_option maxRecDepth 20000 in
theorem tw_1068 : (.instanceMethod yX1_length : Cond) ∈ lw_tbl := (List.mem_append_right _ (List.mem_append_right _ (List.mem_append_right _ (List.mem_append_right _ (List.mem_append_right _ (List.mem_append_right _ (List.mem_append_right _ (List.mem_append_left _ (List.mem_of_getElem? (i := 174) rfl)))))))))
set_option maxRecDepth 20000 in
theorem tw_1069 : (.selects RX1 yX1_length yX1_length : Cond) ∈ lw_tbl := (List.mem_append_right _ (List.mem_append_right _ (List.mem_append_right _ (List.mem_append_right _ (List.mem_append_right _ (List.mem_append_right _ (List.mem_append_right _ (List.mem_append_left _ (List.mem_of_getElem? (i := 175) rfl)))))))))
set_option maxRecDepth 20000 in
theorem tw_1070 : (.fieldLink RX0 9 "SetHouse$Algebra" "bytes" "[B" : Cond) ∈ lw_tbl := (List.mem_append_right _ (List.mem_append_left _ (List.mem_of_getElem? (i := 132) rfl)))
set_option maxRecDepth 20000 in
theorem tw_1071 : (.methodLink RX0 114 yX1_copyBytes : Cond) ∈ lw_tbl := (List.mem_append_right _ (List.mem_append_right _ (List.mem_append_right _ (List.mem_append_right _ (List.mem_append_right _ (List.mem_append_right _ (List.mem_append_right _ (List.mem_append_right _ (List.mem_append_left _ (List.mem_of_getElem? (i := 60) rfl))))))))))
set_option maxRecDepth 20000 in
theorem tw_1072 : (.instanceMethod yX1_copyBytes : Cond) ∈ lw_tbl := (List.mem_append_right _ (List.mem_append_right _ (List.mem_append_right _ (List.mem_append_right _ (List.mem_append_right _ (List.mem_append_right _ (List.mem_append_right _ (List.mem_append_right _ (List.mem_append_left _ (List.mem_of_getElem? (i := 61) rfl))))))))))
set_option maxRecDepth 20000 in
theorem tw_1073 : (.selects RX1 yX1_copyBytes yX1_copyBytes : Cond) ∈ lw_tbl := (List.mem_append_right _ (List.mem_append_right _ (List.mem_append_right _ (List.mem_append_right _ (List.mem_append_right _ (List.mem_append_right _ (List.mem_append_right _ (List.mem_append_right _ (List.mem_append_left _ (List.mem_of_getElem? (i := 62) rfl))))))))))
set_option maxRecDepth 20000 in
theorem tw_1074 : (.methodLink RX0 118 yX1_makeString : Cond) ∈ lw_tbl := (List.mem_append_right _ (List.mem_append_right _ (List.mem_append_right _ (List.mem_append_right _ (List.mem_append_right _ (List.mem_append_right _ (List.mem_append_right _ (List.mem_append_right _ (List.mem_append_left _ (List.mem_of_getElem? (i := 64) rfl))))))))))
set_option maxRecDepth 20000 in
theorem tw_1075 : (.instanceMethod yX1_makeString : Cond) ∈ lw_tbl := (List.mem_append_right _ (List.mem_append_right _ (List.mem_append_right _ (List.mem_append_right _ (List.mem_append_right _ (List.mem_append_right _ (List.mem_append_right _ (List.mem_append_right _ (List.mem_append_left _ (List.mem_of_getElem? (i := 65) rfl))))))))))
set_option maxRecDepth 20000 in
theorem tw_1076 : (.selects RX1 yX1_makeString yX1_makeString : Cond) ∈ lw_tbl := (List.mem_append_right _ (List.mem_append_right _ (List.mem_append_right _ (List.mem_append_right _ (List.mem_append_right _ (List.mem_append_right _ (List.mem_append_right _ (List.mem_append_right _ (List.mem_append_left _ (List.mem_of_getElem? (i := 66) rfl))))))))))
set_option maxRecDepth 20000 in
theorem tw_1077 : (.code yX1_makeString cX1_makeString 9 (some .int) : Cond) ∈ lw_tbl := (List.mem_append_right _ (List.mem_append_right _ (List.mem_append_right _ (List.mem_append_right _ (List.mem_append_right _ (List.mem_append_right _ (List.mem_append_right _ (List.mem_append_right _ (List.mem_append_left _ (List.mem_of_getElem? (i := 67) rfl))))))))))
set_option maxRecDepth 20000 in
theorem tw_1078 : (.code yX1_copyBytes cX1_copyBytes 8 (some .int) : Cond) ∈ lw_tbl := (List.mem_append_right _ (List.mem_append_right _ (List.mem_append_right _ (List.mem_append_right _ (List.mem_append_right _ (List.mem_append_right _ (List.mem_append_right _ (List.mem_append_right _ (List.mem_append_left _ (List.mem_of_getElem? (i := 63) rfl))))))))))
set_option maxRecDepth 20000 in
theorem tw_1079 : (.code yX1_length cX1_length 2 (some .int) : Cond) ∈ lw_tbl := (List.mem_append_right _ (List.mem_append_right _ (List.mem_append_right _ (List.mem_append_right _ (List.mem_append_right _ (List.mem_append_right _ (List.mem_append_right _ (List.mem_append_left _ (List.mem_of_getElem? (i := 176) rfl)))))))))
set_option maxRecDepth 20000 in
theorem tw_1080 : (.fieldLink RX0 15 "SetHouse$Algebra" "row" "[I" : Cond) ∈ lw_tbl := (List.mem_append_right _ (List.mem_append_left _ (List.mem_of_getElem? (i := 133) rfl)))
set_option maxRecDepth 20000 in
theorem tw_1081 : (.methodLink RX0 140 Lib.Math.min.name : Cond) ∈ lw_tbl := (List.mem_append_right _ (List.mem_append_right _ (List.mem_append_right _ (List.mem_append_right _ (List.mem_append_right _ (List.mem_append_right _ (List.mem_append_right _ (List.mem_append_right _ (List.mem_append_left _ (List.mem_of_getElem? (i := 72) rfl))))))))))
set_option maxRecDepth 20000 in
theorem tw_1082 : (.static Lib.Math.min.name : Cond) ∈ lw_tbl := (List.mem_append_right _ (List.mem_append_right _ (List.mem_append_right _ (List.mem_append_right _ (List.mem_append_left _ (List.mem_of_getElem? (i := 3) rfl))))))
set_option maxRecDepth 20000 in
theorem tw_1083 : (.code Lib.Math.min.name Lib.Math.min.code 2 (some .int) : Cond) ∈ lw_tbl := (List.mem_append_right _ (List.mem_append_right _ (List.mem_append_right _ (List.mem_append_right _ (List.mem_append_left _ (List.mem_of_getElem? (i := 4) rfl))))))
set_option maxRecDepth 20000 in
theorem tw_1084 : (.methodLink RX0 148 arraycopyName : Cond) ∈ lw_tbl := (List.mem_append_right _ (List.mem_append_right _ (List.mem_append_right _ (List.mem_append_right _ (List.mem_append_right _ (List.mem_append_right _ (List.mem_append_right _ (List.mem_append_left _ (List.mem_of_getElem? (i := 77) rfl)))))))))
set_option maxRecDepth 20000 in
theorem tw_1085 : (.constant RX1 44 (-2147483648) : Cond) ∈ lw_tbl := (List.mem_append_right _ (List.mem_append_right _ (List.mem_append_right _ (List.mem_append_right _ (List.mem_append_right _ (List.mem_append_left _ (List.mem_of_getElem? (i := 220) rfl)))))))
set_option maxRecDepth 20000 in
theorem tw_1086 : (.code yX1_compare cX1_compare 9 (some .int) : Cond) ∈ lw_tbl := (List.mem_append_right _ (List.mem_append_right _ (List.mem_append_right _ (List.mem_append_right _ (List.mem_append_right _ (List.mem_append_left _ (List.mem_of_getElem? (i := 215) rfl)))))))
set_option maxRecDepth 20000 in
theorem tw_1087 : (.methodLink RX1 68 yX1_compareWholes : Cond) ∈ lw_tbl := (List.mem_append_right _ (List.mem_append_right _ (List.mem_append_right _ (List.mem_append_right _ (List.mem_append_right _ (List.mem_append_left _ (List.mem_of_getElem? (i := 216) rfl)))))))
set_option maxRecDepth 20000 in
theorem tw_1088 : (.instanceMethod yX1_compareWholes : Cond) ∈ lw_tbl := (List.mem_append_right _ (List.mem_append_right _ (List.mem_append_right _ (List.mem_append_right _ (List.mem_append_right _ (List.mem_append_left _ (List.mem_of_getElem? (i := 218) rfl)))))))
set_option maxRecDepth 20000 in
theorem tw_1089 : (.selects RX1 yX1_compareWholes yX1_compareWholes : Cond) ∈ lw_tbl := (List.mem_append_left _ (List.mem_of_getElem? (i := 70) (by decide +kernel)))
set_option maxRecDepth 20000 in
theorem tw_1090 : (.methodLink RX1 71 yX1_compareStrings : Cond) ∈ lw_tbl := (List.mem_append_right _ (List.mem_append_right _ (List.mem_append_right _ (List.mem_append_right _ (List.mem_append_right _ (List.mem_append_left _ (List.mem_of_getElem? (i := 221) rfl)))))))
set_option maxRecDepth 20000 in
theorem tw_1091 : (.instanceMethod yX1_compareStrings : Cond) ∈ lw_tbl := (List.mem_append_right _ (List.mem_append_right _ (List.mem_append_right _ (List.mem_append_right _ (List.mem_append_right _ (List.mem_append_left _ (List.mem_of_getElem? (i := 223) rfl)))))))
set_option maxRecDepth 20000 in
theorem tw_1092 : (.selects RX1 yX1_compareStrings yX1_compareStrings : Cond) ∈ lw_tbl := (List.mem_append_left _ (List.mem_of_getElem? (i := 71) (by decide +kernel)))
set_option maxRecDepth 20000 in
theorem tw_1093 : (.methodLink RX1 65 yX1_compare : Cond) ∈ lw_tbl := (List.mem_append_right _ (List.mem_append_right _ (List.mem_append_right _ (List.mem_append_right _ (List.mem_append_right _ (List.mem_append_left _ (List.mem_of_getElem? (i := 225) rfl)))))))
set_option maxRecDepth 20000 in
theorem tw_1094 : (.instanceMethod yX1_compare : Cond) ∈ lw_tbl := (List.mem_append_right _ (List.mem_append_right _ (List.mem_append_right _ (List.mem_append_right _ (List.mem_append_right _ (List.mem_append_left _ (List.mem_of_getElem? (i := 213) rfl)))))))
set_option maxRecDepth 20000 in
theorem tw_1095 : (.selects RX1 yX1_compare yX1_compare : Cond) ∈ lw_tbl := (List.mem_append_right _ (List.mem_append_right _ (List.mem_append_right _ (List.mem_append_right _ (List.mem_append_right _ (List.mem_append_left _ (List.mem_of_getElem? (i := 214) rfl)))))))
set_option maxRecDepth 20000 in
theorem tw_1096 : (.code yX1_compareStrings cX1_compareStrings 8 (some .int) : Cond) ∈ lw_tbl := (List.mem_append_right _ (List.mem_append_right _ (List.mem_append_right _ (List.mem_append_right _ (List.mem_append_right _ (List.mem_append_left _ (List.mem_of_getElem? (i := 224) rfl)))))))
set_option maxRecDepth 20000 in
theorem tw_1097 : (.code yX1_compareWholes cX1_compareWholes 11 (some .int) : Cond) ∈ lw_tbl := (List.mem_append_right _ (List.mem_append_right _ (List.mem_append_right _ (List.mem_append_right _ (List.mem_append_right _ (List.mem_append_left _ (List.mem_of_getElem? (i := 219) rfl)))))))
set_option maxRecDepth 20000 in
theorem tw_1098 : (.methodLink RX0 154 yX1_member : Cond) ∈ lw_tbl := (List.mem_append_right _ (List.mem_append_right _ (List.mem_append_right _ (List.mem_append_right _ (List.mem_append_right _ (List.mem_append_right _ (List.mem_append_right _ (List.mem_append_right _ (List.mem_append_left _ (List.mem_of_getElem? (i := 47) rfl))))))))))
set_option maxRecDepth 20000 in
theorem tw_1099 : (.instanceMethod yX1_member : Cond) ∈ lw_tbl := (List.mem_append_right _ (List.mem_append_right _ (List.mem_append_right _ (List.mem_append_right _ (List.mem_append_right _ (List.mem_append_right _ (List.mem_append_right _ (List.mem_append_left _ (List.mem_of_getElem? (i := 193) rfl)))))))))
set_option maxRecDepth 20000 in
theorem tw_1100 : (.selects RX1 yX1_member yX1_member : Cond) ∈ lw_tbl := (List.mem_append_right _ (List.mem_append_right _ (List.mem_append_right _ (List.mem_append_right _ (List.mem_append_right _ (List.mem_append_right _ (List.mem_append_right _ (List.mem_append_left _ (List.mem_of_getElem? (i := 194) rfl)))))))))
set_option maxRecDepth 20000 in
theorem tw_1101 : (.methodLink RX0 91 yX1_compare : Cond) ∈ lw_tbl := (List.mem_append_right _ (List.mem_append_right _ (List.mem_append_right _ (List.mem_append_right _ (List.mem_append_right _ (List.mem_append_right _ (List.mem_append_right _ (List.mem_append_left _ (List.mem_of_getElem? (i := 72) rfl)))))))))
set_option maxRecDepth 20000 in
theorem tw_1102 : (.code yX1_member cX1_member 3 (some .int) : Cond) ∈ lw_tbl := (List.mem_append_right _ (List.mem_append_right _ (List.mem_append_right _ (List.mem_append_right _ (List.mem_append_right _ (List.mem_append_right _ (List.mem_append_right _ (List.mem_append_left _ (List.mem_of_getElem? (i := 195) rfl)))))))))
set_option maxRecDepth 20000 in
theorem tw_1103 : (.constant RX1 35 (-1610612736) : Cond) ∈ lw_tbl := (List.mem_append_right _ (List.mem_append_right _ (List.mem_append_right _ (List.mem_append_right _ (List.mem_append_right _ (List.mem_append_right _ (List.mem_append_left _ (List.mem_of_getElem? (i := 238) rfl))))))))
set_option maxRecDepth 20000 in
theorem tw_1104 : (.constant RX1 64 (65535) : Cond) ∈ lw_tbl := (List.mem_append_right _ (List.mem_append_right _ (List.mem_append_right _ (List.mem_append_right _ (List.mem_append_right _ (List.mem_append_right _ (List.mem_append_right _ (List.mem_append_left _ (List.mem_of_getElem? (i := 84) rfl)))))))))
set_option maxRecDepth 20000 in
theorem tw_1105 : (.methodLink RX0 157 yX0_placeOf : Cond) ∈ lw_tbl := (List.mem_append_right _ (List.mem_append_right _ (List.mem_append_right _ (List.mem_append_right _ (List.mem_append_right _ (List.mem_append_right _ (List.mem_append_right _ (List.mem_append_right _ (List.mem_append_left _ (List.mem_of_getElem? (i := 105) rfl))))))))))
set_option maxRecDepth 20000 in
theorem tw_1106 : (.instanceMethod yX0_placeOf : Cond) ∈ lw_tbl := (List.mem_append_right _ (List.mem_append_right _ (List.mem_append_right _ (List.mem_append_right _ (List.mem_append_right _ (List.mem_append_right _ (List.mem_append_right _ (List.mem_append_right _ (List.mem_append_left _ (List.mem_of_getElem? (i := 107) rfl))))))))))
set_option maxRecDepth 20000 in
theorem tw_1107 : (.selects RX0 yX0_placeOf yX0_placeOf : Cond) ∈ lw_tbl := (List.mem_append_left _ (List.mem_of_getElem? (i := 140) (by decide +kernel)))
set_option maxRecDepth 20000 in
theorem tw_1108 : (.initialized RX0 : Cond) ∈ lw_tbl := (List.mem_append_right _ (List.mem_append_left _ (List.mem_of_getElem? (i := 5) rfl)))
set_option maxRecDepth 20000 in
theorem tw_1109 : (.methodLink RX0 103 yX0_load : Cond) ∈ lw_tbl := (List.mem_append_right _ (List.mem_append_right _ (List.mem_append_right _ (List.mem_append_right _ (List.mem_append_right _ (List.mem_append_right _ (List.mem_append_right _ (List.mem_append_right _ (List.mem_append_left _ (List.mem_of_getElem? (i := 68) rfl))))))))))
set_option maxRecDepth 20000 in
theorem tw_1110 : (.instanceMethod yX0_load : Cond) ∈ lw_tbl := (List.mem_append_right _ (List.mem_append_right _ (List.mem_append_right _ (List.mem_append_right _ (List.mem_append_right _ (List.mem_append_right _ (List.mem_append_right _ (List.mem_append_right _ (List.mem_append_left _ (List.mem_of_getElem? (i := 70) rfl))))))))))
set_option maxRecDepth 20000 in
theorem tw_1111 : (.selects RX0 yX0_load yX0_load : Cond) ∈ lw_tbl := (List.mem_append_left _ (List.mem_of_getElem? (i := 133) (by decide +kernel)))
set_option maxRecDepth 20000 in
theorem tw_1112 : (.methodLink RX0 60 yX1_same : Cond) ∈ lw_tbl := (List.mem_append_right _ (List.mem_append_right _ (List.mem_append_right _ (List.mem_append_right _ (List.mem_append_right _ (List.mem_append_right _ (List.mem_append_right _ (List.mem_append_left _ (List.mem_of_getElem? (i := 73) rfl)))))))))
set_option maxRecDepth 20000 in
theorem tw_1113 : (.instanceMethod yX1_same : Cond) ∈ lw_tbl := (List.mem_append_right _ (List.mem_append_right _ (List.mem_append_right _ (List.mem_append_right _ (List.mem_append_right _ (List.mem_append_right _ (List.mem_append_right _ (List.mem_append_left _ (List.mem_of_getElem? (i := 74) rfl)))))))))
set_option maxRecDepth 20000 in
theorem tw_1114 : (.selects RX1 yX1_same yX1_same : Cond) ∈ lw_tbl := (List.mem_append_right _ (List.mem_append_right _ (List.mem_append_right _ (List.mem_append_right _ (List.mem_append_right _ (List.mem_append_right _ (List.mem_append_right _ (List.mem_append_left _ (List.mem_of_getElem? (i := 75) rfl)))))))))
set_option maxRecDepth 20000 in
theorem tw_1115 : (.methodLink RX0 160 yX1_makeRow : Cond) ∈ lw_tbl := (List.mem_append_right _ (List.mem_append_right _ (List.mem_append_right _ (List.mem_append_right _ (List.mem_append_right _ (List.mem_append_right _ (List.mem_append_right _ (List.mem_append_left _ (List.mem_of_getElem? (i := 80) rfl)))))))))
set_option maxRecDepth 20000 in
theorem tw_1116 : (.instanceMethod yX1_makeRow : Cond) ∈ lw_tbl := (List.mem_append_right _ (List.mem_append_right _ (List.mem_append_right _ (List.mem_append_right _ (List.mem_append_right _ (List.mem_append_right _ (List.mem_append_right _ (List.mem_append_left _ (List.mem_of_getElem? (i := 81) rfl)))))))))
set_option maxRecDepth 20000 in
theorem tw_1117 : (.selects RX1 yX1_makeRow yX1_makeRow : Cond) ∈ lw_tbl := (List.mem_append_right _ (List.mem_append_right _ (List.mem_append_right _ (List.mem_append_right _ (List.mem_append_right _ (List.mem_append_right _ (List.mem_append_right _ (List.mem_append_left _ (List.mem_of_getElem? (i := 82) rfl)))))))))
set_option maxRecDepth 20000 in
theorem tw_1118 : (.code yX1_makeRow cX1_makeRow 11 (some .int) : Cond) ∈ lw_tbl := (List.mem_append_right _ (List.mem_append_right _ (List.mem_append_right _ (List.mem_append_right _ (List.mem_append_right _ (List.mem_append_right _ (List.mem_append_right _ (List.mem_append_left _ (List.mem_of_getElem? (i := 83) rfl)))))))))
set_option maxRecDepth 20000 in
theorem tw_1119 : (.code yX1_same cX1_same 3 (some .boolean) : Cond) ∈ lw_tbl := (List.mem_append_right _ (List.mem_append_right _ (List.mem_append_right _ (List.mem_append_right _ (List.mem_append_right _ (List.mem_append_right _ (List.mem_append_right _ (List.mem_append_left _ (List.mem_of_getElem? (i := 76) rfl)))))))))
set_option maxRecDepth 20000 in
theorem tw_1120 : (.code yX0_load cX0_load 6 (some .int) : Cond) ∈ lw_tbl := (List.mem_append_right _ (List.mem_append_right _ (List.mem_append_right _ (List.mem_append_right _ (List.mem_append_right _ (List.mem_append_right _ (List.mem_append_right _ (List.mem_append_right _ (List.mem_append_left _ (List.mem_of_getElem? (i := 71) rfl))))))))))
set_option maxRecDepth 20000 in
theorem tw_1121 : (.code yX0_placeOf cX0_placeOf 8 (some .int) : Cond) ∈ lw_tbl := (List.mem_append_right _ (List.mem_append_right _ (List.mem_append_right _ (List.mem_append_right _ (List.mem_append_right _ (List.mem_append_right _ (List.mem_append_right _ (List.mem_append_right _ (List.mem_append_left _ (List.mem_of_getElem? (i := 108) rfl))))))))))
set_option maxRecDepth 20000 in
theorem tw_1122 : (.methodLink RX1 60 yX1_makeRow : Cond) ∈ lw_tbl := (List.mem_append_right _ (List.mem_append_right _ (List.mem_append_right _ (List.mem_append_right _ (List.mem_append_right _ (List.mem_append_right _ (List.mem_append_right _ (List.mem_append_left _ (List.mem_of_getElem? (i := 90) rfl)))))))))
set_option maxRecDepth 20000 in
theorem tw_1123 : (.methodLink RX0 87 yX1_kind : Cond) ∈ lw_tbl := (List.mem_append_right _ (List.mem_append_right _ (List.mem_append_right _ (List.mem_append_right _ (List.mem_append_right _ (List.mem_append_right _ (List.mem_append_right _ (List.mem_append_left _ (List.mem_of_getElem? (i := 99) rfl)))))))))
set_option maxRecDepth 20000 in
theorem tw_1124 : (.instanceMethod yX1_kind : Cond) ∈ lw_tbl := (List.mem_append_right _ (List.mem_append_right _ (List.mem_append_right _ (List.mem_append_right _ (List.mem_append_right _ (List.mem_append_right _ (List.mem_append_right _ (List.mem_append_left _ (List.mem_of_getElem? (i := 100) rfl)))))))))
set_option maxRecDepth 20000 in
theorem tw_1125 : (.selects RX1 yX1_kind yX1_kind : Cond) ∈ lw_tbl := (List.mem_append_right _ (List.mem_append_right _ (List.mem_append_right _ (List.mem_append_right _ (List.mem_append_right _ (List.mem_append_right _ (List.mem_append_right _ (List.mem_append_left _ (List.mem_of_getElem? (i := 101) rfl)))))))))
set_option maxRecDepth 20000 in
theorem tw_1126 : (.constant RX0 56 (-268435455) : Cond) ∈ lw_tbl := (List.mem_append_right _ (List.mem_append_right _ (List.mem_append_right _ (List.mem_append_right _ (List.mem_append_right _ (List.mem_append_right _ (List.mem_append_right _ (List.mem_append_left _ (List.mem_of_getElem? (i := 103) rfl)))))))))
set_option maxRecDepth 20000 in
theorem tw_1127 : (.fieldLink RX0 26 "SetHouse$Algebra" "wholes" "LSetHouse$Wholes;" : Cond) ∈ lw_tbl := (List.mem_append_right _ (List.mem_append_left _ (List.mem_of_getElem? (i := 130) rfl)))
set_option maxRecDepth 20000 in
theorem tw_1128 : (.methodLink RX0 94 yX10_added : Cond) ∈ lw_tbl := (List.mem_append_right _ (List.mem_append_right _ (List.mem_append_right _ (List.mem_append_right _ (List.mem_append_right _ (List.mem_append_right _ (List.mem_append_right _ (List.mem_append_left _ (List.mem_of_getElem? (i := 105) rfl)))))))))
set_option maxRecDepth 20000 in
theorem tw_1129 : (.instanceMethod yX10_added : Cond) ∈ lw_tbl := (List.mem_append_right _ (List.mem_append_right _ (List.mem_append_right _ (List.mem_append_right _ (List.mem_append_right _ (List.mem_append_right _ (List.mem_append_right _ (List.mem_append_left _ (List.mem_of_getElem? (i := 106) rfl)))))))))
set_option maxRecDepth 20000 in
theorem tw_1130 : (.selects RX10 yX10_added yX10_added : Cond) ∈ lw_tbl := (List.mem_append_right _ (List.mem_append_right _ (List.mem_append_right _ (List.mem_append_right _ (List.mem_append_right _ (List.mem_append_right _ (List.mem_append_right _ (List.mem_append_left _ (List.mem_of_getElem? (i := 107) rfl)))))))))
set_option maxRecDepth 20000 in
theorem tw_1131 : (.methodLink RX0 97 yX0_joined : Cond) ∈ lw_tbl := (List.mem_append_right _ (List.mem_append_right _ (List.mem_append_right _ (List.mem_append_right _ (List.mem_append_right _ (List.mem_append_right _ (List.mem_append_right _ (List.mem_append_right _ (List.mem_append_left _ (List.mem_of_getElem? (i := 97) rfl))))))))))
set_option maxRecDepth 20000 in
theorem tw_1132 : (.instanceMethod yX0_joined : Cond) ∈ lw_tbl := (List.mem_append_right _ (List.mem_append_right _ (List.mem_append_right _ (List.mem_append_right _ (List.mem_append_right _ (List.mem_append_right _ (List.mem_append_right _ (List.mem_append_right _ (List.mem_append_left _ (List.mem_of_getElem? (i := 99) rfl))))))))))
set_option maxRecDepth 20000 in
theorem tw_1133 : (.selects RX0 yX0_joined yX0_joined : Cond) ∈ lw_tbl := (List.mem_append_left _ (List.mem_of_getElem? (i := 138) (by decide +kernel)))
set_option maxRecDepth 20000 in
theorem tw_1134 : (.methodLink RX0 107 yX1_makeTuple : Cond) ∈ lw_tbl := (List.mem_append_right _ (List.mem_append_right _ (List.mem_append_right _ (List.mem_append_right _ (List.mem_append_right _ (List.mem_append_right _ (List.mem_append_right _ (List.mem_append_left _ (List.mem_of_getElem? (i := 160) rfl)))))))))
set_option maxRecDepth 20000 in
theorem tw_1135 : (.instanceMethod yX1_makeTuple : Cond) ∈ lw_tbl := (List.mem_append_right _ (List.mem_append_right _ (List.mem_append_right _ (List.mem_append_right _ (List.mem_append_right _ (List.mem_append_right _ (List.mem_append_right _ (List.mem_append_left _ (List.mem_of_getElem? (i := 87) rfl)))))))))
set_option maxRecDepth 20000 in
theorem tw_1136 : (.selects RX1 yX1_makeTuple yX1_makeTuple : Cond) ∈ lw_tbl := (List.mem_append_right _ (List.mem_append_right _ (List.mem_append_right _ (List.mem_append_right _ (List.mem_append_right _ (List.mem_append_right _ (List.mem_append_right _ (List.mem_append_left _ (List.mem_of_getElem? (i := 88) rfl)))))))))
set_option maxRecDepth 20000 in
theorem tw_1137 : (.methodLink RX0 111 yX0_union : Cond) ∈ lw_tbl := (List.mem_append_right _ (List.mem_append_right _ (List.mem_append_right _ (List.mem_append_right _ (List.mem_append_right _ (List.mem_append_right _ (List.mem_append_right _ (List.mem_append_right _ (List.mem_append_left _ (List.mem_of_getElem? (i := 101) rfl))))))))))
set_option maxRecDepth 20000 in
theorem tw_1138 : (.instanceMethod yX0_union : Cond) ∈ lw_tbl := (List.mem_append_right _ (List.mem_append_right _ (List.mem_append_right _ (List.mem_append_right _ (List.mem_append_right _ (List.mem_append_right _ (List.mem_append_right _ (List.mem_append_right _ (List.mem_append_left _ (List.mem_of_getElem? (i := 103) rfl))))))))))
set_option maxRecDepth 20000 in
theorem tw_1139 : (.selects RX0 yX0_union yX0_union : Cond) ∈ lw_tbl := (List.mem_append_left _ (List.mem_of_getElem? (i := 139) (by decide +kernel)))
set_option maxRecDepth 20000 in
theorem tw_1140 : (.code yX0_union cX0_union 8 (some .int) : Cond) ∈ lw_tbl := (List.mem_append_right _ (List.mem_append_right _ (List.mem_append_right _ (List.mem_append_right _ (List.mem_append_right _ (List.mem_append_right _ (List.mem_append_right _ (List.mem_append_right _ (List.mem_append_left _ (List.mem_of_getElem? (i := 104) rfl))))))))))
set_option maxRecDepth 20000 in
theorem tw_1141 : (.code yX1_makeTuple cX1_makeTuple 6 (some .int) : Cond) ∈ lw_tbl := (List.mem_append_right _ (List.mem_append_right _ (List.mem_append_right _ (List.mem_append_right _ (List.mem_append_right _ (List.mem_append_right _ (List.mem_append_right _ (List.mem_append_left _ (List.mem_of_getElem? (i := 89) rfl)))))))))
set_option maxRecDepth 20000 in
theorem tw_1142 : (.code yX0_joined cX0_joined 4 (some .int) : Cond) ∈ lw_tbl := (List.mem_append_right _ (List.mem_append_right _ (List.mem_append_right _ (List.mem_append_right _ (List.mem_append_right _ (List.mem_append_right _ (List.mem_append_right _ (List.mem_append_right _ (List.mem_append_left _ (List.mem_of_getElem? (i := 100) rfl))))))))))
set_option maxRecDepth 20000 in
theorem tw_1143 : (.code yX10_added cX10_added 9 (some .int) : Cond) ∈ lw_tbl := (List.mem_append_right _ (List.mem_append_right _ (List.mem_append_right _ (List.mem_append_right _ (List.mem_append_right _ (List.mem_append_right _ (List.mem_append_right _ (List.mem_append_left _ (List.mem_of_getElem? (i := 108) rfl)))))))))
set_option maxRecDepth 20000 in
theorem tw_1144 : (.code yX1_kind cX1_kind 2 (some .int) : Cond) ∈ lw_tbl := (List.mem_append_right _ (List.mem_append_right _ (List.mem_append_right _ (List.mem_append_right _ (List.mem_append_right _ (List.mem_append_right _ (List.mem_append_right _ (List.mem_append_left _ (List.mem_of_getElem? (i := 102) rfl)))))))))
set_option maxRecDepth 20000 in
theorem tw_1145 : (.methodLink RX0 44 yX0_areWholes : Cond) ∈ lw_tbl := (List.mem_append_right _ (List.mem_append_right _ (List.mem_append_right _ (List.mem_append_right _ (List.mem_append_right _ (List.mem_append_right _ (List.mem_append_right _ (List.mem_append_left _ (List.mem_of_getElem? (i := 95) rfl)))))))))
set_option maxRecDepth 20000 in
theorem tw_1146 : (.instanceMethod yX0_areWholes : Cond) ∈ lw_tbl := (List.mem_append_right _ (List.mem_append_right _ (List.mem_append_right _ (List.mem_append_right _ (List.mem_append_right _ (List.mem_append_right _ (List.mem_append_right _ (List.mem_append_left _ (List.mem_of_getElem? (i := 97) rfl)))))))))
set_option maxRecDepth 20000 in
theorem tw_1147 : (.selects RX0 yX0_areWholes yX0_areWholes : Cond) ∈ lw_tbl := (List.mem_append_left _ (List.mem_of_getElem? (i := 104) (by decide +kernel)))
set_option maxRecDepth 20000 in
theorem tw_1148 : (.methodLink RX0 77 yX0_areSets : Cond) ∈ lw_tbl := (List.mem_append_right _ (List.mem_append_right _ (List.mem_append_right _ (List.mem_append_right _ (List.mem_append_right _ (List.mem_append_right _ (List.mem_append_right _ (List.mem_append_right _ (List.mem_append_left _ (List.mem_of_getElem? (i := 118) rfl))))))))))
set_option maxRecDepth 20000 in
theorem tw_1149 : (.instanceMethod yX0_areSets : Cond) ∈ lw_tbl := (List.mem_append_right _ (List.mem_append_right _ (List.mem_append_right _ (List.mem_append_right _ (List.mem_append_right _ (List.mem_append_right _ (List.mem_append_right _ (List.mem_append_right _ (List.mem_append_left _ (List.mem_of_getElem? (i := 120) rfl))))))))))
set_option maxRecDepth 20000 in
theorem tw_1150 : (.selects RX0 yX0_areSets yX0_areSets : Cond) ∈ lw_tbl := (List.mem_append_left _ (List.mem_of_getElem? (i := 141) (by decide +kernel)))
set_option maxRecDepth 20000 in
theorem tw_1151 : (.methodLink RX0 122 yX0_chosen : Cond) ∈ lw_tbl := (List.mem_append_right _ (List.mem_append_right _ (List.mem_append_right _ (List.mem_append_right _ (List.mem_append_right _ (List.mem_append_right _ (List.mem_append_right _ (List.mem_append_right _ (List.mem_append_left _ (List.mem_of_getElem? (i := 122) rfl))))))))))
set_option maxRecDepth 20000 in
theorem tw_1152 : (.instanceMethod yX0_chosen : Cond) ∈ lw_tbl := (List.mem_append_right _ (List.mem_append_right _ (List.mem_append_right _ (List.mem_append_right _ (List.mem_append_right _ (List.mem_append_right _ (List.mem_append_right _ (List.mem_append_right _ (List.mem_append_left _ (List.mem_of_getElem? (i := 124) rfl))))))))))
set_option maxRecDepth 20000 in
theorem tw_1153 : (.selects RX0 yX0_chosen yX0_chosen : Cond) ∈ lw_tbl := (List.mem_append_left _ (List.mem_of_getElem? (i := 142) (by decide +kernel)))
set_option maxRecDepth 20000 in
theorem tw_1154 : (.methodLink RX0 125 yX0_without : Cond) ∈ lw_tbl := (List.mem_append_right _ (List.mem_append_right _ (List.mem_append_right _ (List.mem_append_right _ (List.mem_append_right _ (List.mem_append_right _ (List.mem_append_right _ (List.mem_append_right _ (List.mem_append_left _ (List.mem_of_getElem? (i := 150) rfl))))))))))
set_option maxRecDepth 20000 in
theorem tw_1155 : (.instanceMethod yX0_without : Cond) ∈ lw_tbl := (List.mem_append_right _ (List.mem_append_right _ (List.mem_append_right _ (List.mem_append_right _ (List.mem_append_right _ (List.mem_append_right _ (List.mem_append_right _ (List.mem_append_right _ (List.mem_append_left _ (List.mem_of_getElem? (i := 152) rfl))))))))))
set_option maxRecDepth 20000 in
theorem tw_1156 : (.selects RX0 yX0_without yX0_without : Cond) ∈ lw_tbl := (List.mem_append_left _ (List.mem_of_getElem? (i := 146) (by decide +kernel)))
set_option maxRecDepth 20000 in
theorem tw_1157 : (.code yX0_without cX0_without 8 (some .int) : Cond) ∈ lw_tbl := (List.mem_append_right _ (List.mem_append_right _ (List.mem_append_right _ (List.mem_append_right _ (List.mem_append_right _ (List.mem_append_right _ (List.mem_append_right _ (List.mem_append_right _ (List.mem_append_left _ (List.mem_of_getElem? (i := 153) rfl))))))))))
set_option maxRecDepth 20000 in
theorem tw_1158 : (.code yX0_chosen cX0_chosen 8 (some .int) : Cond) ∈ lw_tbl := (List.mem_append_right _ (List.mem_append_right _ (List.mem_append_right _ (List.mem_append_right _ (List.mem_append_right _ (List.mem_append_right _ (List.mem_append_right _ (List.mem_append_right _ (List.mem_append_left _ (List.mem_of_getElem? (i := 125) rfl))))))))))
set_option maxRecDepth 20000 in
theorem tw_1159 : (.code yX0_areSets cX0_areSets 3 (some .boolean) : Cond) ∈ lw_tbl := (List.mem_append_right _ (List.mem_append_right _ (List.mem_append_right _ (List.mem_append_right _ (List.mem_append_right _ (List.mem_append_right _ (List.mem_append_right _ (List.mem_append_right _ (List.mem_append_left _ (List.mem_of_getElem? (i := 121) rfl))))))))))
set_option maxRecDepth 20000 in
theorem tw_1160 : (.code yX0_areWholes cX0_areWholes 3 (some .boolean) : Cond) ∈ lw_tbl := (List.mem_append_right _ (List.mem_append_right _ (List.mem_append_right _ (List.mem_append_right _ (List.mem_append_right _ (List.mem_append_right _ (List.mem_append_right _ (List.mem_append_left _ (List.mem_of_getElem? (i := 98) rfl)))))))))
set_option maxRecDepth 20000 in
theorem tw_1161 : (.constant RX10 107 (-268435451) : Cond) ∈ lw_tbl := (List.mem_append_right _ (List.mem_append_right _ (List.mem_append_right _ (List.mem_append_right _ (List.mem_append_right _ (List.mem_append_right _ (List.mem_append_right _ (List.mem_append_right _ (List.mem_append_left _ (List.mem_of_getElem? (i := 117) rfl))))))))))
set_option maxRecDepth 20000 in
theorem tw_1162 : (.constant RX10 56 (-134217728) : Cond) ∈ lw_tbl := (List.mem_append_right _ (List.mem_append_right _ (List.mem_append_right _ (List.mem_append_right _ (List.mem_append_right _ (List.mem_append_right _ (List.mem_append_right _ (List.mem_append_right _ (List.mem_append_left _ (List.mem_of_getElem? (i := 31) rfl))))))))))
set_option maxRecDepth 20000 in
theorem tw_1163 : (.constant RX0 139 (-268435451) : Cond) ∈ lw_tbl := (List.mem_append_right _ (List.mem_append_right _ (List.mem_append_right _ (List.mem_append_right _ (List.mem_append_right _ (List.mem_append_right _ (List.mem_append_right _ (List.mem_append_left _ (List.mem_of_getElem? (i := 79) rfl)))))))))
set_option maxRecDepth 20000 in
theorem tw_1164 : (.methodLink RX0 128 yX10_product : Cond) ∈ lw_tbl := (List.mem_append_right _ (List.mem_append_right _ (List.mem_append_right _ (List.mem_append_right _ (List.mem_append_right _ (List.mem_append_right _ (List.mem_append_right _ (List.mem_append_right _ (List.mem_append_left _ (List.mem_of_getElem? (i := 113) rfl))))))))))
set_option maxRecDepth 20000 in
theorem tw_1165 : (.instanceMethod yX10_product : Cond) ∈ lw_tbl := (List.mem_append_right _ (List.mem_append_right _ (List.mem_append_right _ (List.mem_append_right _ (List.mem_append_right _ (List.mem_append_right _ (List.mem_append_right _ (List.mem_append_right _ (List.mem_append_left _ (List.mem_of_getElem? (i := 114) rfl))))))))))
set_option maxRecDepth 20000 in
theorem tw_1166 : (.selects RX10 yX10_product yX10_product : Cond) ∈ lw_tbl := (List.mem_append_right _ (List.mem_append_right _ (List.mem_append_right _ (List.mem_append_right _ (List.mem_append_right _ (List.mem_append_right _ (List.mem_append_right _ (List.mem_append_right _ (List.mem_append_left _ (List.mem_of_getElem? (i := 115) rfl))))))))))
set_option maxRecDepth 20000 in
theorem tw_1167 : (.methodLink RX0 129 yX10_isBelow : Cond) ∈ lw_tbl := (List.mem_append_right _ (List.mem_append_right _ (List.mem_append_right _ (List.mem_append_right _ (List.mem_append_right _ (List.mem_append_right _ (List.mem_append_right _ (List.mem_append_right _ (List.mem_append_left _ (List.mem_of_getElem? (i := 126) rfl))))))))))
set_option maxRecDepth 20000 in
theorem tw_1168 : (.constant RX0 132 (-268435452) : Cond) ∈ lw_tbl := (List.mem_append_right _ (List.mem_append_right _ (List.mem_append_right _ (List.mem_append_right _ (List.mem_append_right _ (List.mem_append_right _ (List.mem_append_right _ (List.mem_append_right _ (List.mem_append_left _ (List.mem_of_getElem? (i := 32) rfl))))))))))
set_option maxRecDepth 20000 in
theorem tw_1169 : (.methodLink RX0 133 yX10_clamped : Cond) ∈ lw_tbl := (List.mem_append_right _ (List.mem_append_right _ (List.mem_append_right _ (List.mem_append_right _ (List.mem_append_right _ (List.mem_append_right _ (List.mem_append_right _ (List.mem_append_right _ (List.mem_append_left _ (List.mem_of_getElem? (i := 27) rfl))))))))))
set_option maxRecDepth 20000 in
theorem tw_1170 : (.instanceMethod yX10_clamped : Cond) ∈ lw_tbl := (List.mem_append_right _ (List.mem_append_right _ (List.mem_append_right _ (List.mem_append_right _ (List.mem_append_right _ (List.mem_append_right _ (List.mem_append_right _ (List.mem_append_right _ (List.mem_append_left _ (List.mem_of_getElem? (i := 28) rfl))))))))))
set_option maxRecDepth 20000 in
theorem tw_1171 : (.selects RX10 yX10_clamped yX10_clamped : Cond) ∈ lw_tbl := (List.mem_append_right _ (List.mem_append_right _ (List.mem_append_right _ (List.mem_append_right _ (List.mem_append_right _ (List.mem_append_right _ (List.mem_append_right _ (List.mem_append_right _ (List.mem_append_left _ (List.mem_of_getElem? (i := 29) rfl))))))))))
set_option maxRecDepth 20000 in
theorem tw_1172 : (.methodLink RX0 136 yX0_repeated : Cond) ∈ lw_tbl := (List.mem_append_right _ (List.mem_append_right _ (List.mem_append_right _ (List.mem_append_right _ (List.mem_append_right _ (List.mem_append_right _ (List.mem_append_right _ (List.mem_append_right _ (List.mem_append_left _ (List.mem_of_getElem? (i := 127) rfl))))))))))
set_option maxRecDepth 20000 in
theorem tw_1173 : (.instanceMethod yX0_repeated : Cond) ∈ lw_tbl := (List.mem_append_right _ (List.mem_append_right _ (List.mem_append_right _ (List.mem_append_right _ (List.mem_append_right _ (List.mem_append_right _ (List.mem_append_right _ (List.mem_append_right _ (List.mem_append_left _ (List.mem_of_getElem? (i := 129) rfl))))))))))
set_option maxRecDepth 20000 in
theorem tw_1174 : (.selects RX0 yX0_repeated yX0_repeated : Cond) ∈ lw_tbl := (List.mem_append_left _ (List.mem_of_getElem? (i := 143) (by decide +kernel)))
set_option maxRecDepth 20000 in
theorem tw_1175 : (.code yX0_repeated cX0_repeated 7 (some .int) : Cond) ∈ lw_tbl := (List.mem_append_right _ (List.mem_append_right _ (List.mem_append_right _ (List.mem_append_right _ (List.mem_append_right _ (List.mem_append_right _ (List.mem_append_right _ (List.mem_append_right _ (List.mem_append_left _ (List.mem_of_getElem? (i := 130) rfl))))))))))
set_option maxRecDepth 20000 in
theorem tw_1176 : (.code yX10_clamped cX10_clamped 2 (some .int) : Cond) ∈ lw_tbl := (List.mem_append_right _ (List.mem_append_right _ (List.mem_append_right _ (List.mem_append_right _ (List.mem_append_right _ (List.mem_append_right _ (List.mem_append_right _ (List.mem_append_right _ (List.mem_append_left _ (List.mem_of_getElem? (i := 30) rfl))))))))))
set_option maxRecDepth 20000 in
theorem tw_1177 : (.code yX10_product cX10_product 11 (some .int) : Cond) ∈ lw_tbl := (List.mem_append_right _ (List.mem_append_right _ (List.mem_append_right _ (List.mem_append_right _ (List.mem_append_right _ (List.mem_append_right _ (List.mem_append_right _ (List.mem_append_right _ (List.mem_append_left _ (List.mem_of_getElem? (i := 116) rfl))))))))))
set_option maxRecDepth 20000 in
theorem tw_1178 : (.constant RX10 122 (-268435454) : Cond) ∈ lw_tbl := (List.mem_append_right _ (List.mem_append_right _ (List.mem_append_right _ (List.mem_append_right _ (List.mem_append_right _ (List.mem_append_right _ (List.mem_append_right _ (List.mem_append_right _ (List.mem_append_left _ (List.mem_of_getElem? (i := 159) rfl))))))))))
set_option maxRecDepth 20000 in
theorem tw_1179 : (.fieldLink RX10 21 "SetHouse$Wholes" "dividend" "[I" : Cond) ∈ lw_tbl := (List.mem_append_right _ (List.mem_append_left _ (List.mem_of_getElem? (i := 76) rfl)))
set_option maxRecDepth 20000 in
theorem tw_1180 : (.fieldLink RX10 24 "SetHouse$Wholes" "divisor" "[I" : Cond) ∈ lw_tbl := (List.mem_append_right _ (List.mem_append_left _ (List.mem_of_getElem? (i := 77) rfl)))
set_option maxRecDepth 20000 in
theorem tw_1181 : (.constant RX10 149 (65535) : Cond) ∈ lw_tbl := (List.mem_append_right _ (List.mem_append_right _ (List.mem_append_right _ (List.mem_append_right _ (List.mem_append_right _ (List.mem_append_right _ (List.mem_append_right _ (List.mem_append_right _ (List.mem_append_left _ (List.mem_of_getElem? (i := 170) rfl))))))))))
set_option maxRecDepth 20000 in
theorem tw_1182 : (.constantLong RX10 161 (65535) : Cond) ∈ lw_tbl := (List.mem_append_right _ (List.mem_append_right _ (List.mem_append_right _ (List.mem_append_right _ (List.mem_append_right _ (List.mem_append_right _ (List.mem_append_right _ (List.mem_append_right _ (List.mem_append_left _ (List.mem_of_getElem? (i := 179) rfl))))))))))
set_option maxRecDepth 20000 in
theorem tw_1183 : (.methodLink RX10 163 yX10_addBack : Cond) ∈ lw_tbl := (List.mem_append_right _ (List.mem_append_right _ (List.mem_append_right _ (List.mem_append_right _ (List.mem_append_right _ (List.mem_append_right _ (List.mem_append_right _ (List.mem_append_right _ (List.mem_append_left _ (List.mem_of_getElem? (i := 180) rfl))))))))))
set_option maxRecDepth 20000 in
theorem tw_1184 : (.instanceMethod yX10_addBack : Cond) ∈ lw_tbl := (List.mem_append_right _ (List.mem_append_right _ (List.mem_append_right _ (List.mem_append_right _ (List.mem_append_right _ (List.mem_append_right _ (List.mem_append_right _ (List.mem_append_right _ (List.mem_append_left _ (List.mem_of_getElem? (i := 182) rfl))))))))))
set_option maxRecDepth 20000 in
theorem tw_1185 : (.selects RX10 yX10_addBack yX10_addBack : Cond) ∈ lw_tbl := (List.mem_append_left _ (List.mem_of_getElem? (i := 150) (by decide +kernel)))
set_option maxRecDepth 20000 in
theorem tw_1186 : (.code yX10_addBack cX10_addBack 5 none : Cond) ∈ lw_tbl := (List.mem_append_right _ (List.mem_append_right _ (List.mem_append_right _ (List.mem_append_right _ (List.mem_append_right _ (List.mem_append_right _ (List.mem_append_right _ (List.mem_append_right _ (List.mem_append_left _ (List.mem_of_getElem? (i := 183) rfl))))))))))
set_option maxRecDepth 20000 in
theorem tw_1187 : (.fieldLink RX10 27 "SetHouse$Wholes" "quotient" "[I" : Cond) ∈ lw_tbl := (List.mem_append_right _ (List.mem_append_left _ (List.mem_of_getElem? (i := 78) rfl)))
set_option maxRecDepth 20000 in
theorem tw_1188 : (.methodLink RX10 143 yJ7_fill_53178 : Cond) ∈ lw_tbl := (List.mem_append_right _ (List.mem_append_right _ (List.mem_append_right _ (List.mem_append_right _ (List.mem_append_right _ (List.mem_append_right _ (List.mem_append_right _ (List.mem_append_right _ (List.mem_append_left _ (List.mem_of_getElem? (i := 169) rfl))))))))))
set_option maxRecDepth 20000 in
theorem tw_1189 : (.static yJ7_fill_53178 : Cond) ∈ lw_tbl := (List.mem_append_right _ (List.mem_append_right _ (List.mem_append_right _ (List.mem_append_left _ (List.mem_of_getElem? (i := 136) rfl)))))
set_option maxRecDepth 20000 in
theorem tw_1190 : (.initialized RJ7 : Cond) ∈ lw_tbl := (List.mem_append_right _ (List.mem_append_left _ (List.mem_of_getElem? (i := 16) rfl)))
set_option maxRecDepth 20000 in
theorem tw_1191 : (.constant RX10 150 (32768) : Cond) ∈ lw_tbl := (List.mem_append_right _ (List.mem_append_right _ (List.mem_append_right _ (List.mem_append_right _ (List.mem_append_right _ (List.mem_append_right _ (List.mem_append_right _ (List.mem_append_right _ (List.mem_append_left _ (List.mem_of_getElem? (i := 171) rfl))))))))))
set_option maxRecDepth 20000 in
theorem tw_1192 : (.methodLink RX10 151 yX10_shiftUp : Cond) ∈ lw_tbl := (List.mem_append_right _ (List.mem_append_right _ (List.mem_append_right _ (List.mem_append_right _ (List.mem_append_right _ (List.mem_append_right _ (List.mem_append_right _ (List.mem_append_right _ (List.mem_append_left _ (List.mem_of_getElem? (i := 172) rfl))))))))))
set_option maxRecDepth 20000 in
theorem tw_1193 : (.static yX10_shiftUp : Cond) ∈ lw_tbl := (List.mem_append_right _ (List.mem_append_right _ (List.mem_append_right _ (List.mem_append_right _ (List.mem_append_right _ (List.mem_append_right _ (List.mem_append_right _ (List.mem_append_right _ (List.mem_append_left _ (List.mem_of_getElem? (i := 173) rfl))))))))))
set_option maxRecDepth 20000 in
theorem tw_1194 : (.methodLink RX10 155 yX10_quotientDigit : Cond) ∈ lw_tbl := (List.mem_append_right _ (List.mem_append_right _ (List.mem_append_right _ (List.mem_append_right _ (List.mem_append_right _ (List.mem_append_right _ (List.mem_append_right _ (List.mem_append_right _ (List.mem_append_left _ (List.mem_of_getElem? (i := 175) rfl))))))))))
set_option maxRecDepth 20000 in
theorem tw_1195 : (.instanceMethod yX10_quotientDigit : Cond) ∈ lw_tbl := (List.mem_append_right _ (List.mem_append_right _ (List.mem_append_right _ (List.mem_append_right _ (List.mem_append_right _ (List.mem_append_right _ (List.mem_append_right _ (List.mem_append_right _ (List.mem_append_left _ (List.mem_of_getElem? (i := 177) rfl))))))))))
set_option maxRecDepth 20000 in
theorem tw_1196 : (.selects RX10 yX10_quotientDigit yX10_quotientDigit : Cond) ∈ lw_tbl := (List.mem_append_left _ (List.mem_of_getElem? (i := 149) (by decide +kernel)))
set_option maxRecDepth 20000 in
theorem tw_1197 : (.methodLink RX10 158 yX10_shiftDown : Cond) ∈ lw_tbl := (List.mem_append_right _ (List.mem_append_right _ (List.mem_append_right _ (List.mem_append_right _ (List.mem_append_right _ (List.mem_append_right _ (List.mem_append_right _ (List.mem_append_right _ (List.mem_append_left _ (List.mem_of_getElem? (i := 184) rfl))))))))))
set_option maxRecDepth 20000 in
theorem tw_1198 : (.static yX10_shiftDown : Cond) ∈ lw_tbl := (List.mem_append_right _ (List.mem_append_right _ (List.mem_append_right _ (List.mem_append_right _ (List.mem_append_right _ (List.mem_append_right _ (List.mem_append_right _ (List.mem_append_right _ (List.mem_append_left _ (List.mem_of_getElem? (i := 185) rfl))))))))))
set_option maxRecDepth 20000 in
theorem tw_1199 : (.code yX10_shiftDown cX10_shiftDown 4 none : Cond) ∈ lw_tbl := (List.mem_append_right _ (List.mem_append_right _ (List.mem_append_right _ (List.mem_append_right _ (List.mem_append_right _ (List.mem_append_right _ (List.mem_append_right _ (List.mem_append_right _ (List.mem_append_left _ (List.mem_of_getElem? (i := 186) rfl))))))))))
set_option maxRecDepth 20000 in
theorem tw_1200 : (.code yX10_quotientDigit cX10_quotientDigit 18 (some .int) : Cond) ∈ lw_tbl := (List.mem_append_right _ (List.mem_append_right _ (List.mem_append_right _ (List.mem_append_right _ (List.mem_append_right _ (List.mem_append_right _ (List.mem_append_right _ (List.mem_append_right _ (List.mem_append_left _ (List.mem_of_getElem? (i := 178) rfl))))))))))
set_option maxRecDepth 20000 in
theorem tw_1201 : (.code yX10_shiftUp cX10_shiftUp 6 none : Cond) ∈ lw_tbl := (List.mem_append_right _ (List.mem_append_right _ (List.mem_append_right _ (List.mem_append_right _ (List.mem_append_right _ (List.mem_append_right _ (List.mem_append_right _ (List.mem_append_right _ (List.mem_append_left _ (List.mem_of_getElem? (i := 174) rfl))))))))))
set_option maxRecDepth 20000 in
theorem tw_1202 : (.code yJ7_fill_53178 cJ7_fill_53178 4 none : Cond) ∈ lw_tbl := (List.mem_append_right _ (List.mem_append_right _ (List.mem_append_right _ (List.mem_append_left _ (List.mem_of_getElem? (i := 137) rfl)))))
set_option maxRecDepth 20000 in
theorem tw_1203 : (.methodLink RX10 113 yX10_number : Cond) ∈ lw_tbl := (List.mem_append_right _ (List.mem_append_right _ (List.mem_append_right _ (List.mem_append_right _ (List.mem_append_right _ (List.mem_append_right _ (List.mem_append_right _ (List.mem_append_right _ (List.mem_append_left _ (List.mem_of_getElem? (i := 160) rfl))))))))))
set_option maxRecDepth 20000 in
theorem tw_1204 : (.static yX10_number : Cond) ∈ lw_tbl := (List.mem_append_right _ (List.mem_append_right _ (List.mem_append_right _ (List.mem_append_right _ (List.mem_append_right _ (List.mem_append_right _ (List.mem_append_right _ (List.mem_append_left _ (List.mem_of_getElem? (i := 153) rfl)))))))))
set_option maxRecDepth 20000 in
theorem tw_1205 : (.methodLink RX10 123 yX10_dividedSmall : Cond) ∈ lw_tbl := (List.mem_append_right _ (List.mem_append_right _ (List.mem_append_right _ (List.mem_append_right _ (List.mem_append_right _ (List.mem_append_right _ (List.mem_append_right _ (List.mem_append_right _ (List.mem_append_left _ (List.mem_of_getElem? (i := 161) rfl))))))))))
set_option maxRecDepth 20000 in
theorem tw_1206 : (.instanceMethod yX10_dividedSmall : Cond) ∈ lw_tbl := (List.mem_append_right _ (List.mem_append_right _ (List.mem_append_right _ (List.mem_append_right _ (List.mem_append_right _ (List.mem_append_right _ (List.mem_append_right _ (List.mem_append_right _ (List.mem_append_left _ (List.mem_of_getElem? (i := 163) rfl))))))))))
set_option maxRecDepth 20000 in
theorem tw_1207 : (.selects RX10 yX10_dividedSmall yX10_dividedSmall : Cond) ∈ lw_tbl := (List.mem_append_left _ (List.mem_of_getElem? (i := 147) (by decide +kernel)))
set_option maxRecDepth 20000 in
theorem tw_1208 : (.methodLink RX10 127 yX10_divideLimbs : Cond) ∈ lw_tbl := (List.mem_append_right _ (List.mem_append_right _ (List.mem_append_right _ (List.mem_append_right _ (List.mem_append_right _ (List.mem_append_right _ (List.mem_append_right _ (List.mem_append_right _ (List.mem_append_left _ (List.mem_of_getElem? (i := 165) rfl))))))))))
set_option maxRecDepth 20000 in
theorem tw_1209 : (.instanceMethod yX10_divideLimbs : Cond) ∈ lw_tbl := (List.mem_append_right _ (List.mem_append_right _ (List.mem_append_right _ (List.mem_append_right _ (List.mem_append_right _ (List.mem_append_right _ (List.mem_append_right _ (List.mem_append_right _ (List.mem_append_left _ (List.mem_of_getElem? (i := 167) rfl))))))))))
set_option maxRecDepth 20000 in
theorem tw_1210 : (.selects RX10 yX10_divideLimbs yX10_divideLimbs : Cond) ∈ lw_tbl := (List.mem_append_left _ (List.mem_of_getElem? (i := 148) (by decide +kernel)))
set_option maxRecDepth 20000 in
theorem tw_1211 : (.methodLink RX10 130 yX10_unpackRest : Cond) ∈ lw_tbl := (List.mem_append_right _ (List.mem_append_right _ (List.mem_append_right _ (List.mem_append_right _ (List.mem_append_right _ (List.mem_append_right _ (List.mem_append_right _ (List.mem_append_right _ (List.mem_append_left _ (List.mem_of_getElem? (i := 187) rfl))))))))))
set_option maxRecDepth 20000 in
theorem tw_1212 : (.instanceMethod yX10_unpackRest : Cond) ∈ lw_tbl := (List.mem_append_right _ (List.mem_append_right _ (List.mem_append_right _ (List.mem_append_right _ (List.mem_append_right _ (List.mem_append_right _ (List.mem_append_right _ (List.mem_append_right _ (List.mem_append_left _ (List.mem_of_getElem? (i := 189) rfl))))))))))
set_option maxRecDepth 20000 in
theorem tw_1213 : (.selects RX10 yX10_unpackRest yX10_unpackRest : Cond) ∈ lw_tbl := (List.mem_append_left _ (List.mem_of_getElem? (i := 151) (by decide +kernel)))
set_option maxRecDepth 20000 in
theorem tw_1214 : (.methodLink RX10 137 yX10_unpackQuotient : Cond) ∈ lw_tbl := (List.mem_append_right _ (List.mem_append_right _ (List.mem_append_right _ (List.mem_append_right _ (List.mem_append_right _ (List.mem_append_right _ (List.mem_append_right _ (List.mem_append_right _ (List.mem_append_left _ (List.mem_of_getElem? (i := 195) rfl))))))))))
set_option maxRecDepth 20000 in
theorem tw_1215 : (.instanceMethod yX10_unpackQuotient : Cond) ∈ lw_tbl := (List.mem_append_right _ (List.mem_append_right _ (List.mem_append_right _ (List.mem_append_right _ (List.mem_append_right _ (List.mem_append_right _ (List.mem_append_right _ (List.mem_append_right _ (List.mem_append_left _ (List.mem_of_getElem? (i := 197) rfl))))))))))
set_option maxRecDepth 20000 in
theorem tw_1216 : (.selects RX10 yX10_unpackQuotient yX10_unpackQuotient : Cond) ∈ lw_tbl := (List.mem_append_left _ (List.mem_of_getElem? (i := 153) (by decide +kernel)))
set_option maxRecDepth 20000 in
theorem tw_1217 : (.methodLink RX10 140 yX10_addOne : Cond) ∈ lw_tbl := (List.mem_append_right _ (List.mem_append_right _ (List.mem_append_right _ (List.mem_append_right _ (List.mem_append_right _ (List.mem_append_right _ (List.mem_append_right _ (List.mem_append_right _ (List.mem_append_left _ (List.mem_of_getElem? (i := 199) rfl))))))))))
set_option maxRecDepth 20000 in
theorem tw_1218 : (.instanceMethod yX10_addOne : Cond) ∈ lw_tbl := (List.mem_append_right _ (List.mem_append_right _ (List.mem_append_right _ (List.mem_append_right _ (List.mem_append_right _ (List.mem_append_right _ (List.mem_append_right _ (List.mem_append_right _ (List.mem_append_left _ (List.mem_of_getElem? (i := 201) rfl))))))))))
set_option maxRecDepth 20000 in
theorem tw_1219 : (.selects RX10 yX10_addOne yX10_addOne : Cond) ∈ lw_tbl := (List.mem_append_left _ (List.mem_of_getElem? (i := 154) (by decide +kernel)))
set_option maxRecDepth 20000 in
theorem tw_1220 : (.methodLink RX10 134 yX10_restLimbs : Cond) ∈ lw_tbl := (List.mem_append_right _ (List.mem_append_right _ (List.mem_append_right _ (List.mem_append_right _ (List.mem_append_right _ (List.mem_append_right _ (List.mem_append_right _ (List.mem_append_right _ (List.mem_append_left _ (List.mem_of_getElem? (i := 191) rfl))))))))))
set_option maxRecDepth 20000 in
theorem tw_1221 : (.instanceMethod yX10_restLimbs : Cond) ∈ lw_tbl := (List.mem_append_right _ (List.mem_append_right _ (List.mem_append_right _ (List.mem_append_right _ (List.mem_append_right _ (List.mem_append_right _ (List.mem_append_right _ (List.mem_append_right _ (List.mem_append_left _ (List.mem_of_getElem? (i := 193) rfl))))))))))
set_option maxRecDepth 20000 in
theorem tw_1222 : (.selects RX10 yX10_restLimbs yX10_restLimbs : Cond) ∈ lw_tbl := (List.mem_append_left _ (List.mem_of_getElem? (i := 152) (by decide +kernel)))
set_option maxRecDepth 20000 in
theorem tw_1223 : (.code yX10_restLimbs cX10_restLimbs 4 (some .int) : Cond) ∈ lw_tbl := (List.mem_append_right _ (List.mem_append_right _ (List.mem_append_right _ (List.mem_append_right _ (List.mem_append_right _ (List.mem_append_right _ (List.mem_append_right _ (List.mem_append_right _ (List.mem_append_left _ (List.mem_of_getElem? (i := 194) rfl))))))))))
set_option maxRecDepth 20000 in
theorem tw_1224 : (.code yX10_addOne cX10_addOne 3 (some .int) : Cond) ∈ lw_tbl := (List.mem_append_right _ (List.mem_append_right _ (List.mem_append_right _ (List.mem_append_right _ (List.mem_append_right _ (List.mem_append_right _ (List.mem_append_right _ (List.mem_append_right _ (List.mem_append_left _ (List.mem_of_getElem? (i := 202) rfl))))))))))
set_option maxRecDepth 20000 in
theorem tw_1225 : (.code yX10_unpackQuotient cX10_unpackQuotient 3 (some .int) : Cond) ∈ lw_tbl := (List.mem_append_right _ (List.mem_append_right _ (List.mem_append_right _ (List.mem_append_right _ (List.mem_append_right _ (List.mem_append_right _ (List.mem_append_right _ (List.mem_append_right _ (List.mem_append_left _ (List.mem_of_getElem? (i := 198) rfl))))))))))
set_option maxRecDepth 20000 in
theorem tw_1226 : (.code yX10_unpackRest cX10_unpackRest 3 none : Cond) ∈ lw_tbl := (List.mem_append_right _ (List.mem_append_right _ (List.mem_append_right _ (List.mem_append_right _ (List.mem_append_right _ (List.mem_append_right _ (List.mem_append_right _ (List.mem_append_right _ (List.mem_append_left _ (List.mem_of_getElem? (i := 190) rfl))))))))))
set_option maxRecDepth 20000 in
theorem tw_1227 : (.code yX10_divideLimbs cX10_divideLimbs 7 (some .int) : Cond) ∈ lw_tbl := (List.mem_append_right _ (List.mem_append_right _ (List.mem_append_right _ (List.mem_append_right _ (List.mem_append_right _ (List.mem_append_right _ (List.mem_append_right _ (List.mem_append_right _ (List.mem_append_left _ (List.mem_of_getElem? (i := 168) rfl))))))))))
set_option maxRecDepth 20000 in
theorem tw_1228 : (.code yX10_dividedSmall cX10_dividedSmall 8 (some .int) : Cond) ∈ lw_tbl := (List.mem_append_right _ (List.mem_append_right _ (List.mem_append_right _ (List.mem_append_right _ (List.mem_append_right _ (List.mem_append_right _ (List.mem_append_right _ (List.mem_append_right _ (List.mem_append_left _ (List.mem_of_getElem? (i := 164) rfl))))))))))
set_option maxRecDepth 20000 in
theorem tw_1229 : (.code yX10_number cX10_number 1 (some .int) : Cond) ∈ lw_tbl := (List.mem_append_right _ (List.mem_append_right _ (List.mem_append_right _ (List.mem_append_right _ (List.mem_append_right _ (List.mem_append_right _ (List.mem_append_right _ (List.mem_append_left _ (List.mem_of_getElem? (i := 154) rfl)))))))))
set_option maxRecDepth 20000 in
theorem tw_1230 : (.constant RX11 3 (-268435456) : Cond) ∈ lw_tbl := (List.mem_append_right _ (List.mem_append_right _ (List.mem_append_right _ (List.mem_append_right _ (List.mem_append_right _ (List.mem_append_right _ (List.mem_append_left _ (List.mem_of_getElem? (i := 231) rfl))))))))
set_option maxRecDepth 20000 in
theorem tw_1231 : (.constant RX10 108 (-268435452) : Cond) ∈ lw_tbl := (List.mem_append_right _ (List.mem_append_right _ (List.mem_append_right _ (List.mem_append_right _ (List.mem_append_right _ (List.mem_append_right _ (List.mem_append_right _ (List.mem_append_right _ (List.mem_append_left _ (List.mem_of_getElem? (i := 207) rfl))))))))))
set_option maxRecDepth 20000 in
theorem tw_1232 : (.constant RX10 109 (-1610612735) : Cond) ∈ lw_tbl := (List.mem_append_right _ (List.mem_append_right _ (List.mem_append_right _ (List.mem_append_right _ (List.mem_append_right _ (List.mem_append_right _ (List.mem_append_right _ (List.mem_append_right _ (List.mem_append_left _ (List.mem_of_getElem? (i := 208) rfl))))))))))
set_option maxRecDepth 20000 in
theorem tw_1233 : (.methodLink RX10 110 yX10_clamped : Cond) ∈ lw_tbl := (List.mem_append_right _ (List.mem_append_right _ (List.mem_append_right _ (List.mem_append_right _ (List.mem_append_right _ (List.mem_append_right _ (List.mem_append_right _ (List.mem_append_right _ (List.mem_append_left _ (List.mem_of_getElem? (i := 209) rfl))))))))))
set_option maxRecDepth 20000 in
theorem tw_1234 : (.initialized RX11 : Cond) ∈ lw_tbl := (List.mem_append_right _ (List.mem_append_left _ (List.mem_of_getElem? (i := 1) rfl)))
set_option maxRecDepth 20000 in
theorem tw_1235 : (.static yX11_isError : Cond) ∈ lw_tbl := (List.mem_append_right _ (List.mem_append_right _ (List.mem_append_right _ (List.mem_append_right _ (List.mem_append_right _ (List.mem_append_right _ (List.mem_append_left _ (List.mem_of_getElem? (i := 229) rfl))))))))
set_option maxRecDepth 20000 in
theorem tw_1236 : (.methodLink RX10 119 yX10_product : Cond) ∈ lw_tbl := (List.mem_append_right _ (List.mem_append_right _ (List.mem_append_right _ (List.mem_append_right _ (List.mem_append_right _ (List.mem_append_right _ (List.mem_append_right _ (List.mem_append_right _ (List.mem_append_left _ (List.mem_of_getElem? (i := 211) rfl))))))))))
set_option maxRecDepth 20000 in
theorem tw_1237 : (.code yX11_isError cX11_isError 1 (some .boolean) : Cond) ∈ lw_tbl := (List.mem_append_right _ (List.mem_append_right _ (List.mem_append_right _ (List.mem_append_right _ (List.mem_append_right _ (List.mem_append_right _ (List.mem_append_left _ (List.mem_of_getElem? (i := 230) rfl))))))))
set_option maxRecDepth 20000 in
theorem tw_1238 : (.constant RX11 5 (-1879048191) : Cond) ∈ lw_tbl := (List.mem_append_right _ (List.mem_append_right _ (List.mem_append_right _ (List.mem_append_right _ (List.mem_append_left _ (List.mem_of_getElem? (i := 239) rfl))))))
set_option maxRecDepth 20000 in
theorem tw_1239 : (.constant RX11 6 (-1879048192) : Cond) ∈ lw_tbl := (List.mem_append_right _ (List.mem_append_right _ (List.mem_append_right _ (List.mem_append_right _ (List.mem_append_right _ (List.mem_append_left _ (List.mem_of_getElem? (i := 0) rfl)))))))
set_option maxRecDepth 20000 in
theorem tw_1240 : (.methodLink RX0 171 yX1_byteAt : Cond) ∈ lw_tbl := (List.mem_append_right _ (List.mem_append_right _ (List.mem_append_right _ (List.mem_append_right _ (List.mem_append_right _ (List.mem_append_right _ (List.mem_append_right _ (List.mem_append_right _ (List.mem_append_left _ (List.mem_of_getElem? (i := 224) rfl))))))))))
set_option maxRecDepth 20000 in
theorem tw_1241 : (.instanceMethod yX1_byteAt : Cond) ∈ lw_tbl := (List.mem_append_right _ (List.mem_append_right _ (List.mem_append_right _ (List.mem_append_right _ (List.mem_append_right _ (List.mem_append_right _ (List.mem_append_right _ (List.mem_append_left _ (List.mem_of_getElem? (i := 189) rfl)))))))))
set_option maxRecDepth 20000 in
theorem tw_1242 : (.selects RX1 yX1_byteAt yX1_byteAt : Cond) ∈ lw_tbl := (List.mem_append_right _ (List.mem_append_right _ (List.mem_append_right _ (List.mem_append_right _ (List.mem_append_right _ (List.mem_append_right _ (List.mem_append_right _ (List.mem_append_left _ (List.mem_of_getElem? (i := 190) rfl)))))))))
set_option maxRecDepth 20000 in
theorem tw_1243 : (.code yX1_byteAt cX1_byteAt 3 (some .int) : Cond) ∈ lw_tbl := (List.mem_append_right _ (List.mem_append_right _ (List.mem_append_right _ (List.mem_append_right _ (List.mem_append_right _ (List.mem_append_right _ (List.mem_append_right _ (List.mem_append_left _ (List.mem_of_getElem? (i := 191) rfl)))))))))
set_option maxRecDepth 20000 in
theorem tw_1244 : (.methodLink RX0 168 yX0_standsIn : Cond) ∈ lw_tbl := (List.mem_append_right _ (List.mem_append_right _ (List.mem_append_right _ (List.mem_append_right _ (List.mem_append_right _ (List.mem_append_right _ (List.mem_append_right _ (List.mem_append_right _ (List.mem_append_left _ (List.mem_of_getElem? (i := 220) rfl))))))))))
set_option maxRecDepth 20000 in
theorem tw_1245 : (.instanceMethod yX0_standsIn : Cond) ∈ lw_tbl := (List.mem_append_right _ (List.mem_append_right _ (List.mem_append_right _ (List.mem_append_right _ (List.mem_append_right _ (List.mem_append_right _ (List.mem_append_right _ (List.mem_append_right _ (List.mem_append_left _ (List.mem_of_getElem? (i := 222) rfl))))))))))
set_option maxRecDepth 20000 in
theorem tw_1246 : (.selects RX0 yX0_standsIn yX0_standsIn : Cond) ∈ lw_tbl := (List.mem_append_left _ (List.mem_of_getElem? (i := 157) (by decide +kernel)))
set_option maxRecDepth 20000 in
theorem tw_1247 : (.static yX11_truth : Cond) ∈ lw_tbl := (List.mem_append_right _ (List.mem_append_right _ (List.mem_append_right _ (List.mem_append_right _ (List.mem_append_left _ (List.mem_of_getElem? (i := 237) rfl))))))
set_option maxRecDepth 20000 in
theorem tw_1248 : (.methodLink RX0 164 yX0_holds : Cond) ∈ lw_tbl := (List.mem_append_right _ (List.mem_append_right _ (List.mem_append_right _ (List.mem_append_right _ (List.mem_append_right _ (List.mem_append_right _ (List.mem_append_right _ (List.mem_append_right _ (List.mem_append_left _ (List.mem_of_getElem? (i := 216) rfl))))))))))
set_option maxRecDepth 20000 in
theorem tw_1249 : (.instanceMethod yX0_holds : Cond) ∈ lw_tbl := (List.mem_append_right _ (List.mem_append_right _ (List.mem_append_right _ (List.mem_append_right _ (List.mem_append_right _ (List.mem_append_right _ (List.mem_append_right _ (List.mem_append_right _ (List.mem_append_left _ (List.mem_of_getElem? (i := 218) rfl))))))))))
set_option maxRecDepth 20000 in
theorem tw_1250 : (.selects RX0 yX0_holds yX0_holds : Cond) ∈ lw_tbl := (List.mem_append_left _ (List.mem_of_getElem? (i := 156) (by decide +kernel)))
set_option maxRecDepth 20000 in
theorem tw_1251 : (.constant RX0 167 (-2147483648) : Cond) ∈ lw_tbl := (List.mem_append_right _ (List.mem_append_right _ (List.mem_append_right _ (List.mem_append_right _ (List.mem_append_right _ (List.mem_append_right _ (List.mem_append_right _ (List.mem_append_left _ (List.mem_of_getElem? (i := 66) rfl)))))))))
set_option maxRecDepth 20000 in
theorem tw_1252 : (.code yX0_holds cX0_holds 4 (some .boolean) : Cond) ∈ lw_tbl := (List.mem_append_right _ (List.mem_append_right _ (List.mem_append_right _ (List.mem_append_right _ (List.mem_append_right _ (List.mem_append_right _ (List.mem_append_right _ (List.mem_append_right _ (List.mem_append_left _ (List.mem_of_getElem? (i := 219) rfl))))))))))
set_option maxRecDepth 20000 in
theorem tw_1253 : (.code yX11_truth cX11_truth 1 (some .int) : Cond) ∈ lw_tbl := (List.mem_append_right _ (List.mem_append_right _ (List.mem_append_right _ (List.mem_append_right _ (List.mem_append_left _ (List.mem_of_getElem? (i := 238) rfl))))))
set_option maxRecDepth 20000 in
theorem tw_1254 : (.code yX0_standsIn cX0_standsIn 8 (some .boolean) : Cond) ∈ lw_tbl := (List.mem_append_right _ (List.mem_append_right _ (List.mem_append_right _ (List.mem_append_right _ (List.mem_append_right _ (List.mem_append_right _ (List.mem_append_right _ (List.mem_append_right _ (List.mem_append_left _ (List.mem_of_getElem? (i := 223) rfl))))))))))
set_option maxRecDepth 20000 in
theorem tw_1255 : (.methodLink RX0 34 yX0_sum : Cond) ∈ lw_tbl := (List.mem_append_right _ (List.mem_append_right _ (List.mem_append_right _ (List.mem_append_right _ (List.mem_append_right _ (List.mem_append_right _ (List.mem_append_right _ (List.mem_append_right _ (List.mem_append_left _ (List.mem_of_getElem? (i := 145) rfl))))))))))
set_option maxRecDepth 20000 in
theorem tw_1256 : (.instanceMethod yX0_sum : Cond) ∈ lw_tbl := (List.mem_append_right _ (List.mem_append_right _ (List.mem_append_right _ (List.mem_append_right _ (List.mem_append_right _ (List.mem_append_right _ (List.mem_append_right _ (List.mem_append_right _ (List.mem_append_left _ (List.mem_of_getElem? (i := 94) rfl))))))))))
set_option maxRecDepth 20000 in
theorem tw_1257 : (.selects RX0 yX0_sum yX0_sum : Cond) ∈ lw_tbl := (List.mem_append_right _ (List.mem_append_right _ (List.mem_append_right _ (List.mem_append_right _ (List.mem_append_right _ (List.mem_append_right _ (List.mem_append_right _ (List.mem_append_right _ (List.mem_append_left _ (List.mem_of_getElem? (i := 95) rfl))))))))))
set_option maxRecDepth 20000 in
theorem tw_1258 : (.methodLink RX0 38 yX0_difference : Cond) ∈ lw_tbl := (List.mem_append_right _ (List.mem_append_right _ (List.mem_append_right _ (List.mem_append_right _ (List.mem_append_right _ (List.mem_append_right _ (List.mem_append_right _ (List.mem_append_right _ (List.mem_append_left _ (List.mem_of_getElem? (i := 146) rfl))))))))))
set_option maxRecDepth 20000 in
theorem tw_1259 : (.instanceMethod yX0_difference : Cond) ∈ lw_tbl := (List.mem_append_right _ (List.mem_append_right _ (List.mem_append_right _ (List.mem_append_right _ (List.mem_append_right _ (List.mem_append_right _ (List.mem_append_right _ (List.mem_append_right _ (List.mem_append_left _ (List.mem_of_getElem? (i := 148) rfl))))))))))
set_option maxRecDepth 20000 in
theorem tw_1260 : (.selects RX0 yX0_difference yX0_difference : Cond) ∈ lw_tbl := (List.mem_append_left _ (List.mem_of_getElem? (i := 145) (by decide +kernel)))
set_option maxRecDepth 20000 in
theorem tw_1261 : (.methodLink RX0 41 yX0_product : Cond) ∈ lw_tbl := (List.mem_append_right _ (List.mem_append_right _ (List.mem_append_right _ (List.mem_append_right _ (List.mem_append_right _ (List.mem_append_right _ (List.mem_append_right _ (List.mem_append_right _ (List.mem_append_left _ (List.mem_of_getElem? (i := 154) rfl))))))))))
set_option maxRecDepth 20000 in
theorem tw_1262 : (.instanceMethod yX0_product : Cond) ∈ lw_tbl := (List.mem_append_right _ (List.mem_append_right _ (List.mem_append_right _ (List.mem_append_right _ (List.mem_append_right _ (List.mem_append_right _ (List.mem_append_right _ (List.mem_append_right _ (List.mem_append_left _ (List.mem_of_getElem? (i := 110) rfl))))))))))
set_option maxRecDepth 20000 in
theorem tw_1263 : (.selects RX0 yX0_product yX0_product : Cond) ∈ lw_tbl := (List.mem_append_right _ (List.mem_append_right _ (List.mem_append_right _ (List.mem_append_right _ (List.mem_append_right _ (List.mem_append_right _ (List.mem_append_right _ (List.mem_append_right _ (List.mem_append_left _ (List.mem_of_getElem? (i := 111) rfl))))))))))
set_option maxRecDepth 20000 in
theorem tw_1264 : (.methodLink RX0 57 yX10_power : Cond) ∈ lw_tbl := (List.mem_append_right _ (List.mem_append_right _ (List.mem_append_right _ (List.mem_append_right _ (List.mem_append_right _ (List.mem_append_right _ (List.mem_append_right _ (List.mem_append_right _ (List.mem_append_left _ (List.mem_of_getElem? (i := 203) rfl))))))))))
set_option maxRecDepth 20000 in
theorem tw_1265 : (.instanceMethod yX10_power : Cond) ∈ lw_tbl := (List.mem_append_right _ (List.mem_append_right _ (List.mem_append_right _ (List.mem_append_right _ (List.mem_append_right _ (List.mem_append_right _ (List.mem_append_right _ (List.mem_append_right _ (List.mem_append_left _ (List.mem_of_getElem? (i := 204) rfl))))))))))
set_option maxRecDepth 20000 in
theorem tw_1266 : (.selects RX10 yX10_power yX10_power : Cond) ∈ lw_tbl := (List.mem_append_right _ (List.mem_append_right _ (List.mem_append_right _ (List.mem_append_right _ (List.mem_append_right _ (List.mem_append_right _ (List.mem_append_right _ (List.mem_append_right _ (List.mem_append_left _ (List.mem_of_getElem? (i := 205) rfl))))))))))
set_option maxRecDepth 20000 in
theorem tw_1267 : (.methodLink RX0 83 yX0_compared : Cond) ∈ lw_tbl := (List.mem_append_right _ (List.mem_append_right _ (List.mem_append_right _ (List.mem_append_right _ (List.mem_append_right _ (List.mem_append_right _ (List.mem_append_right _ (List.mem_append_right _ (List.mem_append_left _ (List.mem_of_getElem? (i := 135) rfl))))))))))
set_option maxRecDepth 20000 in
theorem tw_1268 : (.instanceMethod yX0_compared : Cond) ∈ lw_tbl := (List.mem_append_right _ (List.mem_append_right _ (List.mem_append_right _ (List.mem_append_right _ (List.mem_append_right _ (List.mem_append_right _ (List.mem_append_right _ (List.mem_append_right _ (List.mem_append_left _ (List.mem_of_getElem? (i := 137) rfl))))))))))
set_option maxRecDepth 20000 in
theorem tw_1269 : (.selects RX0 yX0_compared yX0_compared : Cond) ∈ lw_tbl := (List.mem_append_left _ (List.mem_of_getElem? (i := 144) (by decide +kernel)))
set_option maxRecDepth 20000 in
theorem tw_1270 : (.methodLink RX0 69 yX0_contains : Cond) ∈ lw_tbl := (List.mem_append_right _ (List.mem_append_right _ (List.mem_append_right _ (List.mem_append_right _ (List.mem_append_right _ (List.mem_append_right _ (List.mem_append_right _ (List.mem_append_right _ (List.mem_append_left _ (List.mem_of_getElem? (i := 212) rfl))))))))))
set_option maxRecDepth 20000 in
theorem tw_1271 : (.instanceMethod yX0_contains : Cond) ∈ lw_tbl := (List.mem_append_right _ (List.mem_append_right _ (List.mem_append_right _ (List.mem_append_right _ (List.mem_append_right _ (List.mem_append_right _ (List.mem_append_right _ (List.mem_append_right _ (List.mem_append_left _ (List.mem_of_getElem? (i := 214) rfl))))))))))
set_option maxRecDepth 20000 in
theorem tw_1272 : (.selects RX0 yX0_contains yX0_contains : Cond) ∈ lw_tbl := (List.mem_append_left _ (List.mem_of_getElem? (i := 155) (by decide +kernel)))
set_option maxRecDepth 20000 in
theorem tw_1273 : (.methodLink RX0 80 yX0_isSubset : Cond) ∈ lw_tbl := (List.mem_append_right _ (List.mem_append_right _ (List.mem_append_right _ (List.mem_append_right _ (List.mem_append_right _ (List.mem_append_right _ (List.mem_append_right _ (List.mem_append_right _ (List.mem_append_left _ (List.mem_of_getElem? (i := 226) rfl))))))))))
set_option maxRecDepth 20000 in
theorem tw_1274 : (.instanceMethod yX0_isSubset : Cond) ∈ lw_tbl := (List.mem_append_right _ (List.mem_append_right _ (List.mem_append_right _ (List.mem_append_right _ (List.mem_append_right _ (List.mem_append_right _ (List.mem_append_right _ (List.mem_append_right _ (List.mem_append_left _ (List.mem_of_getElem? (i := 228) rfl))))))))))
set_option maxRecDepth 20000 in
theorem tw_1275 : (.selects RX0 yX0_isSubset yX0_isSubset : Cond) ∈ lw_tbl := (List.mem_append_left _ (List.mem_of_getElem? (i := 158) (by decide +kernel)))
set_option maxRecDepth 20000 in
theorem tw_1276 : (.methodLink RX0 50 yX10_divided : Cond) ∈ lw_tbl := (List.mem_append_right _ (List.mem_append_right _ (List.mem_append_right _ (List.mem_append_right _ (List.mem_append_right _ (List.mem_append_right _ (List.mem_append_right _ (List.mem_append_right _ (List.mem_append_left _ (List.mem_of_getElem? (i := 155) rfl))))))))))
set_option maxRecDepth 20000 in
theorem tw_1277 : (.instanceMethod yX10_divided : Cond) ∈ lw_tbl := (List.mem_append_right _ (List.mem_append_right _ (List.mem_append_right _ (List.mem_append_right _ (List.mem_append_right _ (List.mem_append_right _ (List.mem_append_right _ (List.mem_append_right _ (List.mem_append_left _ (List.mem_of_getElem? (i := 156) rfl))))))))))
set_option maxRecDepth 20000 in
theorem tw_1278 : (.selects RX10 yX10_divided yX10_divided : Cond) ∈ lw_tbl := (List.mem_append_right _ (List.mem_append_right _ (List.mem_append_right _ (List.mem_append_right _ (List.mem_append_right _ (List.mem_append_right _ (List.mem_append_right _ (List.mem_append_right _ (List.mem_append_left _ (List.mem_of_getElem? (i := 157) rfl))))))))))
set_option maxRecDepth 20000 in
theorem tw_1279 : (.constant RX0 76 (-1879048192) : Cond) ∈ lw_tbl := (List.mem_append_right _ (List.mem_append_right _ (List.mem_append_right _ (List.mem_append_right _ (List.mem_append_right _ (List.mem_append_right _ (List.mem_append_right _ (List.mem_append_right _ (List.mem_append_left _ (List.mem_of_getElem? (i := 225) rfl))))))))))
set_option maxRecDepth 20000 in
theorem tw_1280 : (.code yX10_divided cX10_divided 10 (some .int) : Cond) ∈ lw_tbl := (List.mem_append_right _ (List.mem_append_right _ (List.mem_append_right _ (List.mem_append_right _ (List.mem_append_right _ (List.mem_append_right _ (List.mem_append_right _ (List.mem_append_right _ (List.mem_append_left _ (List.mem_of_getElem? (i := 158) rfl))))))))))
set_option maxRecDepth 20000 in
theorem tw_1281 : (.code yX0_isSubset cX0_isSubset 5 (some .boolean) : Cond) ∈ lw_tbl := (List.mem_append_right _ (List.mem_append_right _ (List.mem_append_right _ (List.mem_append_right _ (List.mem_append_right _ (List.mem_append_right _ (List.mem_append_right _ (List.mem_append_right _ (List.mem_append_left _ (List.mem_of_getElem? (i := 229) rfl))))))))))
set_option maxRecDepth 20000 in
theorem tw_1282 : (.code yX0_contains cX0_contains 5 (some .int) : Cond) ∈ lw_tbl := (List.mem_append_right _ (List.mem_append_right _ (List.mem_append_right _ (List.mem_append_right _ (List.mem_append_right _ (List.mem_append_right _ (List.mem_append_right _ (List.mem_append_right _ (List.mem_append_left _ (List.mem_of_getElem? (i := 215) rfl))))))))))
set_option maxRecDepth 20000 in
theorem tw_1283 : (.code yX0_compared cX0_compared 6 (some .int) : Cond) ∈ lw_tbl := (List.mem_append_right _ (List.mem_append_right _ (List.mem_append_right _ (List.mem_append_right _ (List.mem_append_right _ (List.mem_append_right _ (List.mem_append_right _ (List.mem_append_right _ (List.mem_append_left _ (List.mem_of_getElem? (i := 138) rfl))))))))))
set_option maxRecDepth 20000 in
theorem tw_1284 : (.code yX10_power cX10_power 7 (some .int) : Cond) ∈ lw_tbl := (List.mem_append_right _ (List.mem_append_right _ (List.mem_append_right _ (List.mem_append_right _ (List.mem_append_right _ (List.mem_append_right _ (List.mem_append_right _ (List.mem_append_right _ (List.mem_append_left _ (List.mem_of_getElem? (i := 206) rfl))))))))))
set_option maxRecDepth 20000 in
theorem tw_1285 : (.code yX0_product cX0_product 4 (some .int) : Cond) ∈ lw_tbl := (List.mem_append_right _ (List.mem_append_right _ (List.mem_append_right _ (List.mem_append_right _ (List.mem_append_right _ (List.mem_append_right _ (List.mem_append_right _ (List.mem_append_right _ (List.mem_append_left _ (List.mem_of_getElem? (i := 112) rfl))))))))))
set_option maxRecDepth 20000 in
theorem tw_1286 : (.code yX0_difference cX0_difference 3 (some .int) : Cond) ∈ lw_tbl := (List.mem_append_right _ (List.mem_append_right _ (List.mem_append_right _ (List.mem_append_right _ (List.mem_append_right _ (List.mem_append_right _ (List.mem_append_right _ (List.mem_append_right _ (List.mem_append_left _ (List.mem_of_getElem? (i := 149) rfl))))))))))
set_option maxRecDepth 20000 in
theorem tw_1287 : (.code yX0_sum cX0_sum 5 (some .int) : Cond) ∈ lw_tbl := (List.mem_append_right _ (List.mem_append_right _ (List.mem_append_right _ (List.mem_append_right _ (List.mem_append_right _ (List.mem_append_right _ (List.mem_append_right _ (List.mem_append_right _ (List.mem_append_left _ (List.mem_of_getElem? (i := 96) rfl))))))))))
set_option maxRecDepth 20000 in
theorem tw_1288 : (.constant RX0 243 (-1073741824) : Cond) ∈ lw_tbl := (List.mem_append_right _ (List.mem_append_right _ (List.mem_append_right _ (List.mem_append_right _ (List.mem_append_right _ (List.mem_append_right _ (List.mem_append_right _ (List.mem_append_right _ (List.mem_append_right _ (List.mem_append_left _ (List.mem_of_getElem? (i := 92) rfl)))))))))))
set_option maxRecDepth 20000 in
theorem tw_1289 : (.methodLink RX0 188 yX10_small : Cond) ∈ lw_tbl := (List.mem_append_right _ (List.mem_append_right _ (List.mem_append_right _ (List.mem_append_right _ (List.mem_append_right _ (List.mem_append_right _ (List.mem_append_right _ (List.mem_append_left _ (List.mem_of_getElem? (i := 159) rfl)))))))))
set_option maxRecDepth 20000 in
theorem tw_1290 : (.constant RX0 174 (-268435453) : Cond) ∈ lw_tbl := (List.mem_append_right _ (List.mem_append_right _ (List.mem_append_right _ (List.mem_append_right _ (List.mem_append_right _ (List.mem_append_right _ (List.mem_append_right _ (List.mem_append_left _ (List.mem_of_getElem? (i := 67) rfl)))))))))
set_option maxRecDepth 20000 in
theorem tw_1291 : (.methodLink RX0 175 yX0_insert : Cond) ∈ lw_tbl := (List.mem_append_right _ (List.mem_append_right _ (List.mem_append_right _ (List.mem_append_right _ (List.mem_append_right _ (List.mem_append_right _ (List.mem_append_right _ (List.mem_append_left _ (List.mem_of_getElem? (i := 68) rfl)))))))))
set_option maxRecDepth 20000 in
theorem tw_1292 : (.instanceMethod yX0_insert : Cond) ∈ lw_tbl := (List.mem_append_right _ (List.mem_append_right _ (List.mem_append_right _ (List.mem_append_right _ (List.mem_append_right _ (List.mem_append_right _ (List.mem_append_right _ (List.mem_append_left _ (List.mem_of_getElem? (i := 69) rfl)))))))))
set_option maxRecDepth 20000 in
theorem tw_1293 : (.selects RX0 yX0_insert yX0_insert : Cond) ∈ lw_tbl := (List.mem_append_right _ (List.mem_append_right _ (List.mem_append_right _ (List.mem_append_right _ (List.mem_append_right _ (List.mem_append_right _ (List.mem_append_right _ (List.mem_append_left _ (List.mem_of_getElem? (i := 70) rfl)))))))))
set_option maxRecDepth 20000 in
theorem tw_1294 : (.code yX0_insert cX0_insert 10 (some .boolean) : Cond) ∈ lw_tbl := (List.mem_append_right _ (List.mem_append_right _ (List.mem_append_right _ (List.mem_append_right _ (List.mem_append_right _ (List.mem_append_right _ (List.mem_append_right _ (List.mem_append_left _ (List.mem_of_getElem? (i := 71) rfl)))))))))
set_option maxRecDepth 20000 in
theorem tw_1295 : (.methodLink RX0 179 yX1_size : Cond) ∈ lw_tbl := (List.mem_append_right _ (List.mem_append_right _ (List.mem_append_right _ (List.mem_append_right _ (List.mem_append_right _ (List.mem_append_right _ (List.mem_append_right _ (List.mem_append_left _ (List.mem_of_getElem? (i := 78) rfl)))))))))
set_option maxRecDepth 20000 in
theorem tw_1296 : (.instanceMethod yX1_size : Cond) ∈ lw_tbl := (List.mem_append_right _ (List.mem_append_right _ (List.mem_append_right _ (List.mem_append_right _ (List.mem_append_right _ (List.mem_append_right _ (List.mem_append_left _ (List.mem_of_getElem? (i := 233) rfl))))))))
set_option maxRecDepth 20000 in
theorem tw_1297 : (.selects RX1 yX1_size yX1_size : Cond) ∈ lw_tbl := (List.mem_append_right _ (List.mem_append_right _ (List.mem_append_right _ (List.mem_append_right _ (List.mem_append_right _ (List.mem_append_right _ (List.mem_append_left _ (List.mem_of_getElem? (i := 234) rfl))))))))
set_option maxRecDepth 20000 in
theorem tw_1298 : (.methodLink RX0 244 yX0_highest : Cond) ∈ lw_tbl := (List.mem_append_right _ (List.mem_append_right _ (List.mem_append_right _ (List.mem_append_right _ (List.mem_append_right _ (List.mem_append_right _ (List.mem_append_right _ (List.mem_append_right _ (List.mem_append_right _ (List.mem_append_left _ (List.mem_of_getElem? (i := 15) rfl)))))))))))
set_option maxRecDepth 20000 in
theorem tw_1299 : (.static yX0_highest : Cond) ∈ lw_tbl := (List.mem_append_right _ (List.mem_append_right _ (List.mem_append_right _ (List.mem_append_right _ (List.mem_append_right _ (List.mem_append_right _ (List.mem_append_right _ (List.mem_append_right _ (List.mem_append_right _ (List.mem_append_left _ (List.mem_of_getElem? (i := 16) rfl)))))))))))
set_option maxRecDepth 20000 in
theorem tw_1300 : (.fieldLink RX0 19 "SetHouse$Algebra" "few" "[I" : Cond) ∈ lw_tbl := (List.mem_append_right _ (List.mem_append_left _ (List.mem_of_getElem? (i := 134) rfl)))
set_option maxRecDepth 20000 in
theorem tw_1301 : (.code yX0_highest cX0_highest 3 (some .int) : Cond) ∈ lw_tbl := (List.mem_append_right _ (List.mem_append_right _ (List.mem_append_right _ (List.mem_append_right _ (List.mem_append_right _ (List.mem_append_right _ (List.mem_append_right _ (List.mem_append_right _ (List.mem_append_right _ (List.mem_append_left _ (List.mem_of_getElem? (i := 17) rfl)))))))))))
set_option maxRecDepth 20000 in
theorem tw_1302 : (.code yX1_size cX1_size 3 (some .int) : Cond) ∈ lw_tbl := (List.mem_append_right _ (List.mem_append_right _ (List.mem_append_right _ (List.mem_append_right _ (List.mem_append_right _ (List.mem_append_right _ (List.mem_append_left _ (List.mem_of_getElem? (i := 235) rfl))))))))
set_option maxRecDepth 20000 in
theorem tw_1303 : (.constant RX0 247 (-1879048191) : Cond) ∈ lw_tbl := (List.mem_append_right _ (List.mem_append_right _ (List.mem_append_right _ (List.mem_append_right _ (List.mem_append_right _ (List.mem_append_right _ (List.mem_append_right _ (List.mem_append_right _ (List.mem_append_left _ (List.mem_of_getElem? (i := 140) rfl))))))))))
set_option maxRecDepth 20000 in
theorem tw_1304 : (.constant RX0 248 (-1610612735) : Cond) ∈ lw_tbl := (List.mem_append_right _ (List.mem_append_right _ (List.mem_append_right _ (List.mem_append_right _ (List.mem_append_right _ (List.mem_append_right _ (List.mem_append_right _ (List.mem_append_left _ (List.mem_of_getElem? (i := 104) rfl)))))))))
set_option maxRecDepth 20000 in
theorem tw_1305 : (.methodLink RX0 249 yX10_number : Cond) ∈ lw_tbl := (List.mem_append_right _ (List.mem_append_right _ (List.mem_append_right _ (List.mem_append_right _ (List.mem_append_right _ (List.mem_append_right _ (List.mem_append_right _ (List.mem_append_left _ (List.mem_of_getElem? (i := 152) rfl)))))))))
set_option maxRecDepth 20000 in
theorem tw_1306 : (.methodLink RX0 252 yX0_smallSteps : Cond) ∈ lw_tbl := (List.mem_append_right _ (List.mem_append_right _ (List.mem_append_right _ (List.mem_append_right _ (List.mem_append_right _ (List.mem_append_right _ (List.mem_append_right _ (List.mem_append_left _ (List.mem_of_getElem? (i := 155) rfl)))))))))
set_option maxRecDepth 20000 in
theorem tw_1307 : (.instanceMethod yX0_smallSteps : Cond) ∈ lw_tbl := (List.mem_append_right _ (List.mem_append_right _ (List.mem_append_right _ (List.mem_append_right _ (List.mem_append_right _ (List.mem_append_right _ (List.mem_append_right _ (List.mem_append_left _ (List.mem_of_getElem? (i := 157) rfl)))))))))
set_option maxRecDepth 20000 in
theorem tw_1308 : (.selects RX0 yX0_smallSteps yX0_smallSteps : Cond) ∈ lw_tbl := (List.mem_append_left _ (List.mem_of_getElem? (i := 110) (by decide +kernel)))
set_option maxRecDepth 20000 in
theorem tw_1309 : (.code yX0_smallSteps cX0_smallSteps 7 (some .int) : Cond) ∈ lw_tbl := (List.mem_append_right _ (List.mem_append_right _ (List.mem_append_right _ (List.mem_append_right _ (List.mem_append_right _ (List.mem_append_right _ (List.mem_append_right _ (List.mem_append_left _ (List.mem_of_getElem? (i := 158) rfl)))))))))
set_option maxRecDepth 20000 in
theorem tw_1310 : (.methodLink RX1 36 yX1_kind : Cond) ∈ lw_tbl := (List.mem_append_right _ (List.mem_append_right _ (List.mem_append_right _ (List.mem_append_right _ (List.mem_append_right _ (List.mem_append_right _ (List.mem_append_right _ (List.mem_append_left _ (List.mem_of_getElem? (i := 187) rfl)))))))))
set_option maxRecDepth 20000 in
theorem tw_1311 : (.methodLink RX1 45 yX1_byteAt : Cond) ∈ lw_tbl := (List.mem_append_right _ (List.mem_append_right _ (List.mem_append_right _ (List.mem_append_right _ (List.mem_append_right _ (List.mem_append_right _ (List.mem_append_right _ (List.mem_append_left _ (List.mem_of_getElem? (i := 188) rfl)))))))))
set_option maxRecDepth 20000 in
theorem tw_1312 : (.methodLink RX1 49 yX1_member : Cond) ∈ lw_tbl := (List.mem_append_right _ (List.mem_append_right _ (List.mem_append_right _ (List.mem_append_right _ (List.mem_append_right _ (List.mem_append_right _ (List.mem_append_right _ (List.mem_append_left _ (List.mem_of_getElem? (i := 192) rfl)))))))))
set_option maxRecDepth 20000 in
theorem tw_1313 : (.methodLink RX1 40 yX1_flagged : Cond) ∈ lw_tbl := (List.mem_append_right _ (List.mem_append_right _ (List.mem_append_right _ (List.mem_append_right _ (List.mem_append_right _ (List.mem_append_right _ (List.mem_append_right _ (List.mem_append_right _ (List.mem_append_left _ (List.mem_of_getElem? (i := 39) rfl))))))))))
set_option maxRecDepth 20000 in
theorem tw_1314 : (.instanceMethod yX1_flagged : Cond) ∈ lw_tbl := (List.mem_append_right _ (List.mem_append_right _ (List.mem_append_right _ (List.mem_append_right _ (List.mem_append_right _ (List.mem_append_right _ (List.mem_append_right _ (List.mem_append_right _ (List.mem_append_left _ (List.mem_of_getElem? (i := 40) rfl))))))))))
set_option maxRecDepth 20000 in
theorem tw_1315 : (.selects RX1 yX1_flagged yX1_flagged : Cond) ∈ lw_tbl := (List.mem_append_right _ (List.mem_append_right _ (List.mem_append_right _ (List.mem_append_right _ (List.mem_append_right _ (List.mem_append_right _ (List.mem_append_right _ (List.mem_append_right _ (List.mem_append_left _ (List.mem_of_getElem? (i := 41) rfl))))))))))
set_option maxRecDepth 20000 in
theorem tw_1316 : (.code yX1_flagged cX1_flagged 2 (some .boolean) : Cond) ∈ lw_tbl := (List.mem_append_right _ (List.mem_append_right _ (List.mem_append_right _ (List.mem_append_right _ (List.mem_append_right _ (List.mem_append_right _ (List.mem_append_right _ (List.mem_append_right _ (List.mem_append_left _ (List.mem_of_getElem? (i := 42) rfl))))))))))
set_option maxRecDepth 20000 in
theorem tw_1317 : (.methodLink RX0 191 yX1_isMap : Cond) ∈ lw_tbl := (List.mem_append_right _ (List.mem_append_right _ (List.mem_append_right _ (List.mem_append_right _ (List.mem_append_right _ (List.mem_append_right _ (List.mem_append_right _ (List.mem_append_right _ (List.mem_append_left _ (List.mem_of_getElem? (i := 35) rfl))))))))))
set_option maxRecDepth 20000 in
theorem tw_1318 : (.instanceMethod yX1_isMap : Cond) ∈ lw_tbl := (List.mem_append_right _ (List.mem_append_right _ (List.mem_append_right _ (List.mem_append_right _ (List.mem_append_right _ (List.mem_append_right _ (List.mem_append_right _ (List.mem_append_right _ (List.mem_append_left _ (List.mem_of_getElem? (i := 36) rfl))))))))))
set_option maxRecDepth 20000 in
theorem tw_1319 : (.selects RX1 yX1_isMap yX1_isMap : Cond) ∈ lw_tbl := (List.mem_append_right _ (List.mem_append_right _ (List.mem_append_right _ (List.mem_append_right _ (List.mem_append_right _ (List.mem_append_right _ (List.mem_append_right _ (List.mem_append_right _ (List.mem_append_left _ (List.mem_of_getElem? (i := 37) rfl))))))))))
set_option maxRecDepth 20000 in
theorem tw_1320 : (.methodLink RX0 267 yX0_pairsFrom : Cond) ∈ lw_tbl := (List.mem_append_right _ (List.mem_append_right _ (List.mem_append_right _ (List.mem_append_right _ (List.mem_append_right _ (List.mem_append_right _ (List.mem_append_right _ (List.mem_append_right _ (List.mem_append_left _ (List.mem_of_getElem? (i := 43) rfl))))))))))
set_option maxRecDepth 20000 in
theorem tw_1321 : (.instanceMethod yX0_pairsFrom : Cond) ∈ lw_tbl := (List.mem_append_right _ (List.mem_append_right _ (List.mem_append_right _ (List.mem_append_right _ (List.mem_append_right _ (List.mem_append_right _ (List.mem_append_right _ (List.mem_append_right _ (List.mem_append_left _ (List.mem_of_getElem? (i := 45) rfl))))))))))
set_option maxRecDepth 20000 in
theorem tw_1322 : (.selects RX0 yX0_pairsFrom yX0_pairsFrom : Cond) ∈ lw_tbl := (List.mem_append_left _ (List.mem_of_getElem? (i := 129) (by decide +kernel)))
set_option maxRecDepth 20000 in
theorem tw_1323 : (.methodLink RX0 270 yX0_pairsTo : Cond) ∈ lw_tbl := (List.mem_append_right _ (List.mem_append_right _ (List.mem_append_right _ (List.mem_append_right _ (List.mem_append_right _ (List.mem_append_right _ (List.mem_append_right _ (List.mem_append_right _ (List.mem_append_left _ (List.mem_of_getElem? (i := 48) rfl))))))))))
set_option maxRecDepth 20000 in
theorem tw_1324 : (.instanceMethod yX0_pairsTo : Cond) ∈ lw_tbl := (List.mem_append_right _ (List.mem_append_right _ (List.mem_append_right _ (List.mem_append_right _ (List.mem_append_right _ (List.mem_append_right _ (List.mem_append_right _ (List.mem_append_right _ (List.mem_append_left _ (List.mem_of_getElem? (i := 50) rfl))))))))))
set_option maxRecDepth 20000 in
theorem tw_1325 : (.selects RX0 yX0_pairsTo yX0_pairsTo : Cond) ∈ lw_tbl := (List.mem_append_left _ (List.mem_of_getElem? (i := 130) (by decide +kernel)))
set_option maxRecDepth 20000 in
theorem tw_1326 : (.methodLink RX0 264 yX1_taken : Cond) ∈ lw_tbl := (List.mem_append_right _ (List.mem_append_right _ (List.mem_append_right _ (List.mem_append_right _ (List.mem_append_right _ (List.mem_append_right _ (List.mem_append_right _ (List.mem_append_right _ (List.mem_append_left _ (List.mem_of_getElem? (i := 34) rfl))))))))))
set_option maxRecDepth 20000 in
theorem tw_1327 : (.instanceMethod yX1_taken : Cond) ∈ lw_tbl := (List.mem_append_right _ (List.mem_append_right _ (List.mem_append_right _ (List.mem_append_right _ (List.mem_append_right _ (List.mem_append_right _ (List.mem_append_right _ (List.mem_append_left _ (List.mem_of_getElem? (i := 184) rfl)))))))))
set_option maxRecDepth 20000 in
theorem tw_1328 : (.selects RX1 yX1_taken yX1_taken : Cond) ∈ lw_tbl := (List.mem_append_right _ (List.mem_append_right _ (List.mem_append_right _ (List.mem_append_right _ (List.mem_append_right _ (List.mem_append_right _ (List.mem_append_right _ (List.mem_append_left _ (List.mem_of_getElem? (i := 185) rfl)))))))))
set_option maxRecDepth 20000 in
theorem tw_1329 : (.code yX1_taken cX1_taken 3 (some .int) : Cond) ∈ lw_tbl := (List.mem_append_right _ (List.mem_append_right _ (List.mem_append_right _ (List.mem_append_right _ (List.mem_append_right _ (List.mem_append_right _ (List.mem_append_right _ (List.mem_append_left _ (List.mem_of_getElem? (i := 186) rfl)))))))))
set_option maxRecDepth 20000 in
theorem tw_1330 : (.code yX0_pairsTo cX0_pairsTo 6 (some .int) : Cond) ∈ lw_tbl := (List.mem_append_right _ (List.mem_append_right _ (List.mem_append_right _ (List.mem_append_right _ (List.mem_append_right _ (List.mem_append_right _ (List.mem_append_right _ (List.mem_append_right _ (List.mem_append_left _ (List.mem_of_getElem? (i := 51) rfl))))))))))
set_option maxRecDepth 20000 in
theorem tw_1331 : (.code yX0_pairsFrom cX0_pairsFrom 7 (some .int) : Cond) ∈ lw_tbl := (List.mem_append_right _ (List.mem_append_right _ (List.mem_append_right _ (List.mem_append_right _ (List.mem_append_right _ (List.mem_append_right _ (List.mem_append_right _ (List.mem_append_right _ (List.mem_append_left _ (List.mem_of_getElem? (i := 46) rfl))))))))))
set_option maxRecDepth 20000 in
theorem tw_1332 : (.code yX1_isMap cX1_isMap 2 (some .boolean) : Cond) ∈ lw_tbl := (List.mem_append_right _ (List.mem_append_right _ (List.mem_append_right _ (List.mem_append_right _ (List.mem_append_right _ (List.mem_append_right _ (List.mem_append_right _ (List.mem_append_right _ (List.mem_append_left _ (List.mem_of_getElem? (i := 38) rfl))))))))))
set_option maxRecDepth 20000 in
theorem tw_1333 : (.methodLink RX0 273 yX0_rowError : Cond) ∈ lw_tbl := (List.mem_append_right _ (List.mem_append_right _ (List.mem_append_right _ (List.mem_append_right _ (List.mem_append_right _ (List.mem_append_right _ (List.mem_append_right _ (List.mem_append_right _ (List.mem_append_left _ (List.mem_of_getElem? (i := 56) rfl))))))))))
set_option maxRecDepth 20000 in
theorem tw_1334 : (.instanceMethod yX0_rowError : Cond) ∈ lw_tbl := (List.mem_append_right _ (List.mem_append_right _ (List.mem_append_right _ (List.mem_append_right _ (List.mem_append_right _ (List.mem_append_right _ (List.mem_append_right _ (List.mem_append_right _ (List.mem_append_left _ (List.mem_of_getElem? (i := 58) rfl))))))))))
set_option maxRecDepth 20000 in
theorem tw_1335 : (.selects RX0 yX0_rowError yX0_rowError : Cond) ∈ lw_tbl := (List.mem_append_left _ (List.mem_of_getElem? (i := 132) (by decide +kernel)))
set_option maxRecDepth 20000 in
theorem tw_1336 : (.code yX0_rowError cX0_rowError 7 (some .int) : Cond) ∈ lw_tbl := (List.mem_append_right _ (List.mem_append_right _ (List.mem_append_right _ (List.mem_append_right _ (List.mem_append_right _ (List.mem_append_right _ (List.mem_append_right _ (List.mem_append_right _ (List.mem_append_left _ (List.mem_of_getElem? (i := 59) rfl))))))))))
set_option maxRecDepth 20000 in
theorem tw_1337 : (.methodLink RX0 255 yX0_memberAt : Cond) ∈ lw_tbl := (List.mem_append_right _ (List.mem_append_right _ (List.mem_append_right _ (List.mem_append_right _ (List.mem_append_right _ (List.mem_append_right _ (List.mem_append_right _ (List.mem_append_right _ (List.mem_append_left _ (List.mem_of_getElem? (i := 23) rfl))))))))))
set_option maxRecDepth 20000 in
theorem tw_1338 : (.instanceMethod yX0_memberAt : Cond) ∈ lw_tbl := (List.mem_append_right _ (List.mem_append_right _ (List.mem_append_right _ (List.mem_append_right _ (List.mem_append_right _ (List.mem_append_right _ (List.mem_append_right _ (List.mem_append_right _ (List.mem_append_left _ (List.mem_of_getElem? (i := 25) rfl))))))))))
set_option maxRecDepth 20000 in
theorem tw_1339 : (.selects RX0 yX0_memberAt yX0_memberAt : Cond) ∈ lw_tbl := (List.mem_append_left _ (List.mem_of_getElem? (i := 128) (by decide +kernel)))
set_option maxRecDepth 20000 in
theorem tw_1340 : (.methodLink RX0 258 yX0_slice : Cond) ∈ lw_tbl := (List.mem_append_right _ (List.mem_append_right _ (List.mem_append_right _ (List.mem_append_right _ (List.mem_append_right _ (List.mem_append_right _ (List.mem_append_right _ (List.mem_append_right _ (List.mem_append_left _ (List.mem_of_getElem? (i := 52) rfl))))))))))
set_option maxRecDepth 20000 in
theorem tw_1341 : (.instanceMethod yX0_slice : Cond) ∈ lw_tbl := (List.mem_append_right _ (List.mem_append_right _ (List.mem_append_right _ (List.mem_append_right _ (List.mem_append_right _ (List.mem_append_right _ (List.mem_append_right _ (List.mem_append_right _ (List.mem_append_left _ (List.mem_of_getElem? (i := 54) rfl))))))))))
set_option maxRecDepth 20000 in
theorem tw_1342 : (.selects RX0 yX0_slice yX0_slice : Cond) ∈ lw_tbl := (List.mem_append_left _ (List.mem_of_getElem? (i := 131) (by decide +kernel)))
set_option maxRecDepth 20000 in
theorem tw_1343 : (.methodLink RX0 261 yX0_images : Cond) ∈ lw_tbl := (List.mem_append_right _ (List.mem_append_right _ (List.mem_append_right _ (List.mem_append_right _ (List.mem_append_right _ (List.mem_append_right _ (List.mem_append_right _ (List.mem_append_right _ (List.mem_append_left _ (List.mem_of_getElem? (i := 73) rfl))))))))))
set_option maxRecDepth 20000 in
theorem tw_1344 : (.instanceMethod yX0_images : Cond) ∈ lw_tbl := (List.mem_append_right _ (List.mem_append_right _ (List.mem_append_right _ (List.mem_append_right _ (List.mem_append_right _ (List.mem_append_right _ (List.mem_append_right _ (List.mem_append_right _ (List.mem_append_left _ (List.mem_of_getElem? (i := 75) rfl))))))))))
set_option maxRecDepth 20000 in
theorem tw_1345 : (.selects RX0 yX0_images yX0_images : Cond) ∈ lw_tbl := (List.mem_append_left _ (List.mem_of_getElem? (i := 134) (by decide +kernel)))
set_option maxRecDepth 20000 in
theorem tw_1346 : (.code yX0_images cX0_images 7 (some .int) : Cond) ∈ lw_tbl := (List.mem_append_right _ (List.mem_append_right _ (List.mem_append_right _ (List.mem_append_right _ (List.mem_append_right _ (List.mem_append_right _ (List.mem_append_right _ (List.mem_append_right _ (List.mem_append_left _ (List.mem_of_getElem? (i := 76) rfl))))))))))
set_option maxRecDepth 20000 in
theorem tw_1347 : (.code yX0_slice cX0_slice 7 (some .int) : Cond) ∈ lw_tbl := (List.mem_append_right _ (List.mem_append_right _ (List.mem_append_right _ (List.mem_append_right _ (List.mem_append_right _ (List.mem_append_right _ (List.mem_append_right _ (List.mem_append_right _ (List.mem_append_left _ (List.mem_of_getElem? (i := 55) rfl))))))))))
set_option maxRecDepth 20000 in
theorem tw_1348 : (.code yX0_memberAt cX0_memberAt 5 (some .int) : Cond) ∈ lw_tbl := (List.mem_append_right _ (List.mem_append_right _ (List.mem_append_right _ (List.mem_append_right _ (List.mem_append_right _ (List.mem_append_right _ (List.mem_append_right _ (List.mem_append_right _ (List.mem_append_left _ (List.mem_of_getElem? (i := 26) rfl))))))))))
set_option maxRecDepth 20000 in
theorem tw_1349 : (.methodLink RX0 291 yX0_pair : Cond) ∈ lw_tbl := (List.mem_append_right _ (List.mem_append_right _ (List.mem_append_right _ (List.mem_append_right _ (List.mem_append_right _ (List.mem_append_right _ (List.mem_append_right _ (List.mem_append_right _ (List.mem_append_right _ (List.mem_append_left _ (List.mem_of_getElem? (i := 117) rfl)))))))))))
set_option maxRecDepth 20000 in
theorem tw_1350 : (.instanceMethod yX0_pair : Cond) ∈ lw_tbl := (List.mem_append_right _ (List.mem_append_right _ (List.mem_append_right _ (List.mem_append_right _ (List.mem_append_right _ (List.mem_append_right _ (List.mem_append_right _ (List.mem_append_right _ (List.mem_append_right _ (List.mem_append_left _ (List.mem_of_getElem? (i := 119) rfl)))))))))))
set_option maxRecDepth 20000 in
theorem tw_1351 : (.selects RX0 yX0_pair yX0_pair : Cond) ∈ lw_tbl := (List.mem_append_left _ (List.mem_of_getElem? (i := 173) (by decide +kernel)))
set_option maxRecDepth 20000 in
theorem tw_1352 : (.code yX0_pair cX0_pair 3 (some .int) : Cond) ∈ lw_tbl := (List.mem_append_right _ (List.mem_append_right _ (List.mem_append_right _ (List.mem_append_right _ (List.mem_append_right _ (List.mem_append_right _ (List.mem_append_right _ (List.mem_append_right _ (List.mem_append_right _ (List.mem_append_left _ (List.mem_of_getElem? (i := 120) rfl)))))))))))
set_option maxRecDepth 20000 in
theorem tw_1353 : (.methodLink RX0 288 Lib.Math.max.name : Cond) ∈ lw_tbl := (List.mem_append_right _ (List.mem_append_right _ (List.mem_append_right _ (List.mem_append_right _ (List.mem_append_right _ (List.mem_append_right _ (List.mem_append_right _ (List.mem_append_right _ (List.mem_append_right _ (List.mem_append_left _ (List.mem_of_getElem? (i := 125) rfl)))))))))))
set_option maxRecDepth 20000 in
theorem tw_1354 : (.methodLink RX0 276 yX0_withPair : Cond) ∈ lw_tbl := (List.mem_append_right _ (List.mem_append_right _ (List.mem_append_right _ (List.mem_append_right _ (List.mem_append_right _ (List.mem_append_right _ (List.mem_append_right _ (List.mem_append_right _ (List.mem_append_right _ (List.mem_append_left _ (List.mem_of_getElem? (i := 113) rfl)))))))))))
set_option maxRecDepth 20000 in
theorem tw_1355 : (.instanceMethod yX0_withPair : Cond) ∈ lw_tbl := (List.mem_append_right _ (List.mem_append_right _ (List.mem_append_right _ (List.mem_append_right _ (List.mem_append_right _ (List.mem_append_right _ (List.mem_append_right _ (List.mem_append_right _ (List.mem_append_right _ (List.mem_append_left _ (List.mem_of_getElem? (i := 115) rfl)))))))))))
set_option maxRecDepth 20000 in
theorem tw_1356 : (.selects RX0 yX0_withPair yX0_withPair : Cond) ∈ lw_tbl := (List.mem_append_left _ (List.mem_of_getElem? (i := 172) (by decide +kernel)))
set_option maxRecDepth 20000 in
theorem tw_1357 : (.methodLink RX0 282 yX0_withSlice : Cond) ∈ lw_tbl := (List.mem_append_right _ (List.mem_append_right _ (List.mem_append_right _ (List.mem_append_right _ (List.mem_append_right _ (List.mem_append_right _ (List.mem_append_right _ (List.mem_append_right _ (List.mem_append_right _ (List.mem_append_left _ (List.mem_of_getElem? (i := 126) rfl)))))))))))
set_option maxRecDepth 20000 in
theorem tw_1358 : (.instanceMethod yX0_withSlice : Cond) ∈ lw_tbl := (List.mem_append_right _ (List.mem_append_right _ (List.mem_append_right _ (List.mem_append_right _ (List.mem_append_right _ (List.mem_append_right _ (List.mem_append_right _ (List.mem_append_right _ (List.mem_append_right _ (List.mem_append_left _ (List.mem_of_getElem? (i := 128) rfl)))))))))))
set_option maxRecDepth 20000 in
theorem tw_1359 : (.selects RX0 yX0_withSlice yX0_withSlice : Cond) ∈ lw_tbl := (List.mem_append_left _ (List.mem_of_getElem? (i := 175) (by decide +kernel)))
set_option maxRecDepth 20000 in
theorem tw_1360 : (.methodLink RX0 285 yX0_withImages : Cond) ∈ lw_tbl := (List.mem_append_right _ (List.mem_append_right _ (List.mem_append_right _ (List.mem_append_right _ (List.mem_append_right _ (List.mem_append_right _ (List.mem_append_right _ (List.mem_append_right _ (List.mem_append_right _ (List.mem_append_left _ (List.mem_of_getElem? (i := 130) rfl)))))))))))
set_option maxRecDepth 20000 in
theorem tw_1361 : (.instanceMethod yX0_withImages : Cond) ∈ lw_tbl := (List.mem_append_right _ (List.mem_append_right _ (List.mem_append_right _ (List.mem_append_right _ (List.mem_append_right _ (List.mem_append_right _ (List.mem_append_right _ (List.mem_append_right _ (List.mem_append_right _ (List.mem_append_left _ (List.mem_of_getElem? (i := 132) rfl)))))))))))
set_option maxRecDepth 20000 in
theorem tw_1362 : (.selects RX0 yX0_withImages yX0_withImages : Cond) ∈ lw_tbl := (List.mem_append_left _ (List.mem_of_getElem? (i := 176) (by decide +kernel)))
set_option maxRecDepth 20000 in
theorem tw_1363 : (.methodLink RX0 279 yX0_withMember : Cond) ∈ lw_tbl := (List.mem_append_right _ (List.mem_append_right _ (List.mem_append_right _ (List.mem_append_right _ (List.mem_append_right _ (List.mem_append_right _ (List.mem_append_right _ (List.mem_append_right _ (List.mem_append_right _ (List.mem_append_left _ (List.mem_of_getElem? (i := 121) rfl)))))))))))
set_option maxRecDepth 20000 in
theorem tw_1364 : (.instanceMethod yX0_withMember : Cond) ∈ lw_tbl := (List.mem_append_right _ (List.mem_append_right _ (List.mem_append_right _ (List.mem_append_right _ (List.mem_append_right _ (List.mem_append_right _ (List.mem_append_right _ (List.mem_append_right _ (List.mem_append_right _ (List.mem_append_left _ (List.mem_of_getElem? (i := 123) rfl)))))))))))
set_option maxRecDepth 20000 in
theorem tw_1365 : (.selects RX0 yX0_withMember yX0_withMember : Cond) ∈ lw_tbl := (List.mem_append_left _ (List.mem_of_getElem? (i := 174) (by decide +kernel)))
set_option maxRecDepth 20000 in
theorem tw_1366 : (.code yX0_withMember cX0_withMember 9 (some .int) : Cond) ∈ lw_tbl := (List.mem_append_right _ (List.mem_append_right _ (List.mem_append_right _ (List.mem_append_right _ (List.mem_append_right _ (List.mem_append_right _ (List.mem_append_right _ (List.mem_append_right _ (List.mem_append_right _ (List.mem_append_left _ (List.mem_of_getElem? (i := 124) rfl)))))))))))
set_option maxRecDepth 20000 in
theorem tw_1367 : (.code yX0_withImages cX0_withImages 9 (some .int) : Cond) ∈ lw_tbl := (List.mem_append_right _ (List.mem_append_right _ (List.mem_append_right _ (List.mem_append_right _ (List.mem_append_right _ (List.mem_append_right _ (List.mem_append_right _ (List.mem_append_right _ (List.mem_append_right _ (List.mem_append_left _ (List.mem_of_getElem? (i := 133) rfl)))))))))))
set_option maxRecDepth 20000 in
theorem tw_1368 : (.code yX0_withSlice cX0_withSlice 10 (some .int) : Cond) ∈ lw_tbl := (List.mem_append_right _ (List.mem_append_right _ (List.mem_append_right _ (List.mem_append_right _ (List.mem_append_right _ (List.mem_append_right _ (List.mem_append_right _ (List.mem_append_right _ (List.mem_append_right _ (List.mem_append_left _ (List.mem_of_getElem? (i := 129) rfl)))))))))))
set_option maxRecDepth 20000 in
theorem tw_1369 : (.code yX0_withPair cX0_withPair 7 (some .int) : Cond) ∈ lw_tbl := (List.mem_append_right _ (List.mem_append_right _ (List.mem_append_right _ (List.mem_append_right _ (List.mem_append_right _ (List.mem_append_right _ (List.mem_append_right _ (List.mem_append_right _ (List.mem_append_right _ (List.mem_append_left _ (List.mem_of_getElem? (i := 116) rfl)))))))))))
set_option maxRecDepth 20000 in
theorem tw_1370 : (.fieldLink RX1 19 "SetHouse$Heap" "used" "[I" : Cond) ∈ lw_tbl := (List.mem_append_right _ (List.mem_append_left _ (List.mem_of_getElem? (i := 53) rfl)))
set_option maxRecDepth 20000 in
theorem tw_1371 : (.methodLink RX1 79 yJ7_fill_53178 : Cond) ∈ lw_tbl := (List.mem_append_right _ (List.mem_append_right _ (List.mem_append_right _ (List.mem_append_right _ (List.mem_append_right _ (List.mem_append_right _ (List.mem_append_left _ (List.mem_of_getElem? (i := 108) rfl))))))))
set_option maxRecDepth 20000 in
theorem tw_1372 : (.code yX1_markCell cX1_markCell 6 none : Cond) ∈ lw_tbl := (List.mem_append_right _ (List.mem_append_right _ (List.mem_append_right _ (List.mem_append_right _ (List.mem_append_right _ (List.mem_append_right _ (List.mem_append_left _ (List.mem_of_getElem? (i := 116) rfl))))))))
set_option maxRecDepth 20000 in
theorem tw_1373 : (.methodLink RX1 85 yX1_markCell : Cond) ∈ lw_tbl := (List.mem_append_right _ (List.mem_append_right _ (List.mem_append_right _ (List.mem_append_right _ (List.mem_append_right _ (List.mem_append_right _ (List.mem_append_left _ (List.mem_of_getElem? (i := 113) rfl))))))))
set_option maxRecDepth 20000 in
theorem tw_1374 : (.instanceMethod yX1_markCell : Cond) ∈ lw_tbl := (List.mem_append_right _ (List.mem_append_right _ (List.mem_append_right _ (List.mem_append_right _ (List.mem_append_right _ (List.mem_append_right _ (List.mem_append_left _ (List.mem_of_getElem? (i := 115) rfl))))))))
set_option maxRecDepth 20000 in
theorem tw_1375 : (.selects RX1 yX1_markCell yX1_markCell : Cond) ∈ lw_tbl := (List.mem_append_left _ (List.mem_of_getElem? (i := 78) (by decide +kernel)))
set_option maxRecDepth 20000 in
theorem tw_1376 : (.constant RJ6 265 (1431655765) : Cond) ∈ lw_tbl := (List.mem_append_right _ (List.mem_append_right _ (List.mem_append_right _ (List.mem_append_right _ (List.mem_append_right _ (List.mem_append_right _ (List.mem_append_left _ (List.mem_of_getElem? (i := 128) rfl))))))))
set_option maxRecDepth 20000 in
theorem tw_1377 : (.constant RJ6 266 (858993459) : Cond) ∈ lw_tbl := (List.mem_append_right _ (List.mem_append_right _ (List.mem_append_right _ (List.mem_append_right _ (List.mem_append_right _ (List.mem_append_right _ (List.mem_append_left _ (List.mem_of_getElem? (i := 129) rfl))))))))
set_option maxRecDepth 20000 in
theorem tw_1378 : (.constant RJ6 267 (252645135) : Cond) ∈ lw_tbl := (List.mem_append_right _ (List.mem_append_right _ (List.mem_append_right _ (List.mem_append_right _ (List.mem_append_right _ (List.mem_append_right _ (List.mem_append_left _ (List.mem_of_getElem? (i := 130) rfl))))))))
set_option maxRecDepth 20000 in
theorem tw_1379 : (.fieldLink RX1 22 "SetHouse$Heap" "before" "[I" : Cond) ∈ lw_tbl := (List.mem_append_right _ (List.mem_append_left _ (List.mem_of_getElem? (i := 54) rfl)))
set_option maxRecDepth 20000 in
theorem tw_1380 : (.methodLink RX1 89 yJ6_bitCount_0f7a4 : Cond) ∈ lw_tbl := (List.mem_append_right _ (List.mem_append_right _ (List.mem_append_right _ (List.mem_append_right _ (List.mem_append_right _ (List.mem_append_right _ (List.mem_append_left _ (List.mem_of_getElem? (i := 125) rfl))))))))
set_option maxRecDepth 20000 in
theorem tw_1381 : (.static yJ6_bitCount_0f7a4 : Cond) ∈ lw_tbl := (List.mem_append_right _ (List.mem_append_right _ (List.mem_append_right _ (List.mem_append_right _ (List.mem_append_right _ (List.mem_append_right _ (List.mem_append_left _ (List.mem_of_getElem? (i := 126) rfl))))))))
set_option maxRecDepth 20000 in
theorem tw_1382 : (.code yJ6_bitCount_0f7a4 cJ6_bitCount_0f7a4 1 (some .int) : Cond) ∈ lw_tbl := (List.mem_append_right _ (List.mem_append_right _ (List.mem_append_right _ (List.mem_append_right _ (List.mem_append_right _ (List.mem_append_right _ (List.mem_append_left _ (List.mem_of_getElem? (i := 127) rfl))))))))
set_option maxRecDepth 20000 in
theorem tw_1383 : (.methodLink RX1 97 yX1_wordsBehind : Cond) ∈ lw_tbl := (List.mem_append_right _ (List.mem_append_right _ (List.mem_append_right _ (List.mem_append_right _ (List.mem_append_right _ (List.mem_append_right _ (List.mem_append_left _ (List.mem_of_getElem? (i := 143) rfl))))))))
set_option maxRecDepth 20000 in
theorem tw_1384 : (.static yX1_wordsBehind : Cond) ∈ lw_tbl := (List.mem_append_right _ (List.mem_append_right _ (List.mem_append_right _ (List.mem_append_right _ (List.mem_append_right _ (List.mem_append_right _ (List.mem_append_left _ (List.mem_of_getElem? (i := 144) rfl))))))))
set_option maxRecDepth 20000 in
theorem tw_1385 : (.methodLink RX1 94 yX1_placeOf : Cond) ∈ lw_tbl := (List.mem_append_right _ (List.mem_append_right _ (List.mem_append_right _ (List.mem_append_right _ (List.mem_append_right _ (List.mem_append_right _ (List.mem_append_left _ (List.mem_of_getElem? (i := 135) rfl))))))))
set_option maxRecDepth 20000 in
theorem tw_1386 : (.instanceMethod yX1_placeOf : Cond) ∈ lw_tbl := (List.mem_append_right _ (List.mem_append_right _ (List.mem_append_right _ (List.mem_append_right _ (List.mem_append_right _ (List.mem_append_right _ (List.mem_append_left _ (List.mem_of_getElem? (i := 137) rfl))))))))
set_option maxRecDepth 20000 in
theorem tw_1387 : (.selects RX1 yX1_placeOf yX1_placeOf : Cond) ∈ lw_tbl := (List.mem_append_left _ (List.mem_of_getElem? (i := 79) (by decide +kernel)))
set_option maxRecDepth 20000 in
theorem tw_1388 : (.code yX1_placeOf cX1_placeOf 2 (some .int) : Cond) ∈ lw_tbl := (List.mem_append_right _ (List.mem_append_right _ (List.mem_append_right _ (List.mem_append_right _ (List.mem_append_right _ (List.mem_append_right _ (List.mem_append_left _ (List.mem_of_getElem? (i := 138) rfl))))))))
set_option maxRecDepth 20000 in
theorem tw_1389 : (.code yX1_wordsBehind cX1_wordsBehind 2 (some .int) : Cond) ∈ lw_tbl := (List.mem_append_right _ (List.mem_append_right _ (List.mem_append_right _ (List.mem_append_right _ (List.mem_append_right _ (List.mem_append_right _ (List.mem_append_left _ (List.mem_of_getElem? (i := 145) rfl))))))))
set_option maxRecDepth 20000 in
theorem tw_1390 : (.fieldLink RX3 18 "SetHouse$Machine" "stack" "[I" : Cond) ∈ lw_tbl := (List.mem_append_right _ (List.mem_append_right _ (List.mem_append_left _ (List.mem_of_getElem? (i := 55) rfl))))
set_option maxRecDepth 20000 in
theorem tw_1391 : (.fieldLink RX9 44 "SetHouse$Saves" "near" "Z" : Cond) ∈ lw_tbl := (List.mem_append_right _ (List.mem_append_right _ (List.mem_append_left _ (List.mem_of_getElem? (i := 22) rfl))))
set_option maxRecDepth 20000 in
theorem tw_1392 : (.fieldLink RX9 38 "SetHouse$Saves" "filled" "I" : Cond) ∈ lw_tbl := (List.mem_append_right _ (List.mem_append_right _ (List.mem_append_left _ (List.mem_of_getElem? (i := 20) rfl))))
set_option maxRecDepth 20000 in
theorem tw_1393 : (.fieldLink RX9 13 "SetHouse$Saves" "runs" "[LSetHouse$Run;" : Cond) ∈ lw_tbl := (List.mem_append_right _ (List.mem_append_right _ (List.mem_append_left _ (List.mem_of_getElem? (i := 14) rfl))))
set_option maxRecDepth 20000 in
theorem tw_1394 : (.fieldLink RX3 39 "SetHouse$Machine" "heap" "LSetHouse$Heap;" : Cond) ∈ lw_tbl := (List.mem_append_right _ (List.mem_append_right _ (List.mem_append_left _ (List.mem_of_getElem? (i := 47) rfl))))
set_option maxRecDepth 20000 in
theorem tw_1395 : (.methodLink RX3 210 yX1_beginMarking : Cond) ∈ lw_tbl := (List.mem_append_right _ (List.mem_append_right _ (List.mem_append_right _ (List.mem_append_right _ (List.mem_append_right _ (List.mem_append_right _ (List.mem_append_left _ (List.mem_of_getElem? (i := 104) rfl))))))))
set_option maxRecDepth 20000 in
theorem tw_1396 : (.instanceMethod yX1_beginMarking : Cond) ∈ lw_tbl := (List.mem_append_right _ (List.mem_append_right _ (List.mem_append_right _ (List.mem_append_right _ (List.mem_append_right _ (List.mem_append_right _ (List.mem_append_left _ (List.mem_of_getElem? (i := 105) rfl))))))))
set_option maxRecDepth 20000 in
theorem tw_1397 : (.selects RX1 yX1_beginMarking yX1_beginMarking : Cond) ∈ lw_tbl := (List.mem_append_right _ (List.mem_append_right _ (List.mem_append_right _ (List.mem_append_right _ (List.mem_append_right _ (List.mem_append_right _ (List.mem_append_left _ (List.mem_of_getElem? (i := 106) rfl))))))))
set_option maxRecDepth 20000 in
theorem tw_1398 : (.fieldLink RX3 14 "SetHouse$Machine" "run" "LSetHouse$Run;" : Cond) ∈ lw_tbl := (List.mem_append_right _ (List.mem_append_right _ (List.mem_append_left _ (List.mem_of_getElem? (i := 52) rfl))))
set_option maxRecDepth 20000 in
theorem tw_1399 : (.methodLink RX3 213 yX1_markRow : Cond) ∈ lw_tbl := (List.mem_append_right _ (List.mem_append_right _ (List.mem_append_right _ (List.mem_append_right _ (List.mem_append_right _ (List.mem_append_right _ (List.mem_append_left _ (List.mem_of_getElem? (i := 109) rfl))))))))
set_option maxRecDepth 20000 in
theorem tw_1400 : (.instanceMethod yX1_markRow : Cond) ∈ lw_tbl := (List.mem_append_right _ (List.mem_append_right _ (List.mem_append_right _ (List.mem_append_right _ (List.mem_append_right _ (List.mem_append_right _ (List.mem_append_left _ (List.mem_of_getElem? (i := 110) rfl))))))))
set_option maxRecDepth 20000 in
theorem tw_1401 : (.selects RX1 yX1_markRow yX1_markRow : Cond) ∈ lw_tbl := (List.mem_append_right _ (List.mem_append_right _ (List.mem_append_right _ (List.mem_append_right _ (List.mem_append_right _ (List.mem_append_right _ (List.mem_append_left _ (List.mem_of_getElem? (i := 111) rfl))))))))
set_option maxRecDepth 20000 in
theorem tw_1402 : (.fieldLink RX3 29 "SetHouse$Machine" "passing" "[I" : Cond) ∈ lw_tbl := (List.mem_append_right _ (List.mem_append_right _ (List.mem_append_left _ (List.mem_of_getElem? (i := 59) rfl))))
set_option maxRecDepth 20000 in
theorem tw_1403 : (.fieldLink RX3 22 "SetHouse$Machine" "points" "[I" : Cond) ∈ lw_tbl := (List.mem_append_right _ (List.mem_append_right _ (List.mem_append_left _ (List.mem_of_getElem? (i := 56) rfl))))
set_option maxRecDepth 20000 in
theorem tw_1404 : (.fieldLink RX3 55 "SetHouse$Machine" "kept" "[I" : Cond) ∈ lw_tbl := (List.mem_append_right _ (List.mem_append_right _ (List.mem_append_left _ (List.mem_of_getElem? (i := 51) rfl))))
set_option maxRecDepth 20000 in
theorem tw_1405 : (.fieldLink RX3 35 "SetHouse$Machine" "saves" "LSetHouse$Saves;" : Cond) ∈ lw_tbl := (List.mem_append_right _ (List.mem_append_right _ (List.mem_append_left _ (List.mem_of_getElem? (i := 67) rfl))))
set_option maxRecDepth 20000 in
theorem tw_1406 : (.methodLink RX3 203 yX9_used : Cond) ∈ lw_tbl := (List.mem_append_right _ (List.mem_append_right _ (List.mem_append_right _ (List.mem_append_right _ (List.mem_append_right _ (List.mem_append_right _ (List.mem_append_left _ (List.mem_of_getElem? (i := 117) rfl))))))))
set_option maxRecDepth 20000 in
theorem tw_1407 : (.instanceMethod yX9_used : Cond) ∈ lw_tbl := (List.mem_append_right _ (List.mem_append_right _ (List.mem_append_right _ (List.mem_append_right _ (List.mem_append_right _ (List.mem_append_right _ (List.mem_append_left _ (List.mem_of_getElem? (i := 118) rfl))))))))
set_option maxRecDepth 20000 in
theorem tw_1408 : (.selects RX9 yX9_used yX9_used : Cond) ∈ lw_tbl := (List.mem_append_right _ (List.mem_append_right _ (List.mem_append_right _ (List.mem_append_right _ (List.mem_append_right _ (List.mem_append_right _ (List.mem_append_left _ (List.mem_of_getElem? (i := 119) rfl))))))))
set_option maxRecDepth 20000 in
theorem tw_1409 : (.initialized RX9 : Cond) ∈ lw_tbl := (List.mem_append_right _ (List.mem_append_left _ (List.mem_of_getElem? (i := 8) rfl)))
set_option maxRecDepth 20000 in
theorem tw_1410 : (.methodLink RX3 216 yX1_endMarking : Cond) ∈ lw_tbl := (List.mem_append_right _ (List.mem_append_right _ (List.mem_append_right _ (List.mem_append_right _ (List.mem_append_right _ (List.mem_append_right _ (List.mem_append_left _ (List.mem_of_getElem? (i := 121) rfl))))))))
set_option maxRecDepth 20000 in
theorem tw_1411 : (.instanceMethod yX1_endMarking : Cond) ∈ lw_tbl := (List.mem_append_right _ (List.mem_append_right _ (List.mem_append_right _ (List.mem_append_right _ (List.mem_append_right _ (List.mem_append_right _ (List.mem_append_left _ (List.mem_of_getElem? (i := 122) rfl))))))))
set_option maxRecDepth 20000 in
theorem tw_1412 : (.selects RX1 yX1_endMarking yX1_endMarking : Cond) ∈ lw_tbl := (List.mem_append_right _ (List.mem_append_right _ (List.mem_append_right _ (List.mem_append_right _ (List.mem_append_right _ (List.mem_append_right _ (List.mem_append_left _ (List.mem_of_getElem? (i := 123) rfl))))))))
set_option maxRecDepth 20000 in
theorem tw_1413 : (.methodLink RX3 219 yX1_moveRow : Cond) ∈ lw_tbl := (List.mem_append_right _ (List.mem_append_right _ (List.mem_append_right _ (List.mem_append_right _ (List.mem_append_right _ (List.mem_append_right _ (List.mem_append_left _ (List.mem_of_getElem? (i := 131) rfl))))))))
set_option maxRecDepth 20000 in
theorem tw_1414 : (.instanceMethod yX1_moveRow : Cond) ∈ lw_tbl := (List.mem_append_right _ (List.mem_append_right _ (List.mem_append_right _ (List.mem_append_right _ (List.mem_append_right _ (List.mem_append_right _ (List.mem_append_left _ (List.mem_of_getElem? (i := 132) rfl))))))))
set_option maxRecDepth 20000 in
theorem tw_1415 : (.selects RX1 yX1_moveRow yX1_moveRow : Cond) ∈ lw_tbl := (List.mem_append_right _ (List.mem_append_right _ (List.mem_append_right _ (List.mem_append_right _ (List.mem_append_right _ (List.mem_append_right _ (List.mem_append_left _ (List.mem_of_getElem? (i := 133) rfl))))))))
set_option maxRecDepth 20000 in
theorem tw_1416 : (.methodLink RX3 222 yX1_moveCells : Cond) ∈ lw_tbl := (List.mem_append_right _ (List.mem_append_right _ (List.mem_append_right _ (List.mem_append_right _ (List.mem_append_right _ (List.mem_append_right _ (List.mem_append_left _ (List.mem_of_getElem? (i := 139) rfl))))))))
set_option maxRecDepth 20000 in
theorem tw_1417 : (.instanceMethod yX1_moveCells : Cond) ∈ lw_tbl := (List.mem_append_right _ (List.mem_append_right _ (List.mem_append_right _ (List.mem_append_right _ (List.mem_append_right _ (List.mem_append_right _ (List.mem_append_left _ (List.mem_of_getElem? (i := 140) rfl))))))))
set_option maxRecDepth 20000 in
theorem tw_1418 : (.selects RX1 yX1_moveCells yX1_moveCells : Cond) ∈ lw_tbl := (List.mem_append_right _ (List.mem_append_right _ (List.mem_append_right _ (List.mem_append_right _ (List.mem_append_right _ (List.mem_append_right _ (List.mem_append_left _ (List.mem_of_getElem? (i := 141) rfl))))))))
set_option maxRecDepth 20000 in
theorem tw_1419 : (.code yX1_moveCells cX1_moveCells 6 none : Cond) ∈ lw_tbl := (List.mem_append_right _ (List.mem_append_right _ (List.mem_append_right _ (List.mem_append_right _ (List.mem_append_right _ (List.mem_append_right _ (List.mem_append_left _ (List.mem_of_getElem? (i := 142) rfl))))))))
set_option maxRecDepth 20000 in
theorem tw_1420 : (.code yX1_moveRow cX1_moveRow 4 none : Cond) ∈ lw_tbl := (List.mem_append_right _ (List.mem_append_right _ (List.mem_append_right _ (List.mem_append_right _ (List.mem_append_right _ (List.mem_append_right _ (List.mem_append_left _ (List.mem_of_getElem? (i := 134) rfl))))))))
set_option maxRecDepth 20000 in
theorem tw_1421 : (.code yX1_endMarking cX1_endMarking 3 none : Cond) ∈ lw_tbl := (List.mem_append_right _ (List.mem_append_right _ (List.mem_append_right _ (List.mem_append_right _ (List.mem_append_right _ (List.mem_append_right _ (List.mem_append_left _ (List.mem_of_getElem? (i := 124) rfl))))))))
set_option maxRecDepth 20000 in
theorem tw_1422 : (.code yX1_markRow cX1_markRow 4 none : Cond) ∈ lw_tbl := (List.mem_append_right _ (List.mem_append_right _ (List.mem_append_right _ (List.mem_append_right _ (List.mem_append_right _ (List.mem_append_right _ (List.mem_append_left _ (List.mem_of_getElem? (i := 112) rfl))))))))
set_option maxRecDepth 20000 in
theorem tw_1423 : (.code yX9_used cX9_used 1 (some .int) : Cond) ∈ lw_tbl := (List.mem_append_right _ (List.mem_append_right _ (List.mem_append_right _ (List.mem_append_right _ (List.mem_append_right _ (List.mem_append_right _ (List.mem_append_left _ (List.mem_of_getElem? (i := 120) rfl))))))))
set_option maxRecDepth 20000 in
theorem tw_1424 : (.code yX1_beginMarking cX1_beginMarking 1 none : Cond) ∈ lw_tbl := (List.mem_append_right _ (List.mem_append_right _ (List.mem_append_right _ (List.mem_append_right _ (List.mem_append_right _ (List.mem_append_right _ (List.mem_append_left _ (List.mem_of_getElem? (i := 107) rfl))))))))
set_option maxRecDepth 20000 in
theorem tw_1425 : (.fieldLink RX3 225 "SetHouse$Machine" "halted" "Z" : Cond) ∈ lw_tbl := (List.mem_append_right _ (List.mem_append_right _ (List.mem_append_left _ (List.mem_of_getElem? (i := 61) rfl))))
set_option maxRecDepth 20000 in
theorem tw_1426 : (.fieldLink RX3 149 "SetHouse$Machine" "trouble" "I" : Cond) ∈ lw_tbl := (List.mem_append_right _ (List.mem_append_right _ (List.mem_append_left _ (List.mem_of_getElem? (i := 62) rfl))))
set_option maxRecDepth 20000 in
theorem tw_1427 : (.fieldLink RX3 229 "SetHouse$Machine" "funcs" "I" : Cond) ∈ lw_tbl := (List.mem_append_right _ (List.mem_append_right _ (List.mem_append_left _ (List.mem_of_getElem? (i := 64) rfl))))
set_option maxRecDepth 20000 in
theorem tw_1428 : (.fieldLink RX3 232 "SetHouse$Machine" "depths" "I" : Cond) ∈ lw_tbl := (List.mem_append_right _ (List.mem_append_right _ (List.mem_append_left _ (List.mem_of_getElem? (i := 65) rfl))))
set_option maxRecDepth 20000 in
theorem tw_1429 : (.fieldLink RX3 235 "SetHouse$Machine" "passingBase" "I" : Cond) ∈ lw_tbl := (List.mem_append_right _ (List.mem_append_right _ (List.mem_append_left _ (List.mem_of_getElem? (i := 60) rfl))))
set_option maxRecDepth 20000 in
theorem tw_1430 : (.constant RX3 300 (60000) : Cond) ∈ lw_tbl := (List.mem_append_right _ (List.mem_append_right _ (List.mem_append_right _ (List.mem_append_right _ (List.mem_append_right _ (List.mem_append_right _ (List.mem_append_left _ (List.mem_of_getElem? (i := 222) rfl))))))))
set_option maxRecDepth 20000 in
theorem tw_1431 : (.methodLink RX3 313 yX3_fail : Cond) ∈ lw_tbl := (List.mem_append_right _ (List.mem_append_right _ (List.mem_append_right _ (List.mem_append_right _ (List.mem_append_right _ (List.mem_append_right _ (List.mem_append_left _ (List.mem_of_getElem? (i := 210) rfl))))))))
set_option maxRecDepth 20000 in
theorem tw_1432 : (.instanceMethod yX3_fail : Cond) ∈ lw_tbl := (List.mem_append_right _ (List.mem_append_right _ (List.mem_append_right _ (List.mem_append_right _ (List.mem_append_right _ (List.mem_append_right _ (List.mem_append_left _ (List.mem_of_getElem? (i := 212) rfl))))))))
set_option maxRecDepth 20000 in
theorem tw_1433 : (.selects RX3 yX3_fail yX3_fail : Cond) ∈ lw_tbl := (List.mem_append_left _ (List.mem_of_getElem? (i := 88) (by decide +kernel)))
set_option maxRecDepth 20000 in
theorem tw_1434 : (.initialized RX3 : Cond) ∈ lw_tbl := (List.mem_append_right _ (List.mem_append_left _ (List.mem_of_getElem? (i := 6) rfl)))
set_option maxRecDepth 20000 in
theorem tw_1435 : (.methodLink RX3 316 yX1_size : Cond) ∈ lw_tbl := (List.mem_append_right _ (List.mem_append_right _ (List.mem_append_right _ (List.mem_append_right _ (List.mem_append_right _ (List.mem_append_right _ (List.mem_append_left _ (List.mem_of_getElem? (i := 232) rfl))))))))
set_option maxRecDepth 20000 in
theorem tw_1436 : (.methodLink RX3 319 yX3_spend : Cond) ∈ lw_tbl := (List.mem_append_right _ (List.mem_append_right _ (List.mem_append_right _ (List.mem_append_right _ (List.mem_append_right _ (List.mem_append_right _ (List.mem_append_left _ (List.mem_of_getElem? (i := 218) rfl))))))))
set_option maxRecDepth 20000 in
theorem tw_1437 : (.instanceMethod yX3_spend : Cond) ∈ lw_tbl := (List.mem_append_right _ (List.mem_append_right _ (List.mem_append_right _ (List.mem_append_right _ (List.mem_append_right _ (List.mem_append_right _ (List.mem_append_left _ (List.mem_of_getElem? (i := 220) rfl))))))))
set_option maxRecDepth 20000 in
theorem tw_1438 : (.selects RX3 yX3_spend yX3_spend : Cond) ∈ lw_tbl := (List.mem_append_left _ (List.mem_of_getElem? (i := 90) (by decide +kernel)))
set_option maxRecDepth 20000 in
theorem tw_1439 : (.code yX3_spend cX3_spend 2 none : Cond) ∈ lw_tbl := (List.mem_append_right _ (List.mem_append_right _ (List.mem_append_right _ (List.mem_append_right _ (List.mem_append_right _ (List.mem_append_right _ (List.mem_append_left _ (List.mem_of_getElem? (i := 221) rfl))))))))
set_option maxRecDepth 20000 in
theorem tw_1440 : (.code yX3_fail cX3_fail 2 none : Cond) ∈ lw_tbl := (List.mem_append_right _ (List.mem_append_right _ (List.mem_append_right _ (List.mem_append_right _ (List.mem_append_right _ (List.mem_append_right _ (List.mem_append_left _ (List.mem_of_getElem? (i := 213) rfl))))))))
set_option maxRecDepth 20000 in
theorem tw_1441 : (.constant RX3 325 (-1879048191) : Cond) ∈ lw_tbl := (List.mem_append_right _ (List.mem_append_right _ (List.mem_append_right _ (List.mem_append_right _ (List.mem_append_right _ (List.mem_append_right _ (List.mem_append_left _ (List.mem_of_getElem? (i := 208) rfl))))))))
set_option maxRecDepth 20000 in
theorem tw_1442 : (.constant RX3 326 (-1879048192) : Cond) ∈ lw_tbl := (List.mem_append_right _ (List.mem_append_right _ (List.mem_append_right _ (List.mem_append_right _ (List.mem_append_right _ (List.mem_append_right _ (List.mem_append_left _ (List.mem_of_getElem? (i := 209) rfl))))))))
set_option maxRecDepth 20000 in
theorem tw_1443 : (.methodLink RX3 342 yX3_wantTruth : Cond) ∈ lw_tbl := (List.mem_append_right _ (List.mem_append_right _ (List.mem_append_right _ (List.mem_append_right _ (List.mem_append_right _ (List.mem_append_right _ (List.mem_append_left _ (List.mem_of_getElem? (i := 204) rfl))))))))
set_option maxRecDepth 20000 in
theorem tw_1444 : (.instanceMethod yX3_wantTruth : Cond) ∈ lw_tbl := (List.mem_append_right _ (List.mem_append_right _ (List.mem_append_right _ (List.mem_append_right _ (List.mem_append_right _ (List.mem_append_right _ (List.mem_append_left _ (List.mem_of_getElem? (i := 206) rfl))))))))
set_option maxRecDepth 20000 in
theorem tw_1445 : (.selects RX3 yX3_wantTruth yX3_wantTruth : Cond) ∈ lw_tbl := (List.mem_append_left _ (List.mem_of_getElem? (i := 87) (by decide +kernel)))
set_option maxRecDepth 20000 in
theorem tw_1446 : (.code yX3_wantTruth cX3_wantTruth 2 (some .boolean) : Cond) ∈ lw_tbl := (List.mem_append_right _ (List.mem_append_right _ (List.mem_append_right _ (List.mem_append_right _ (List.mem_append_right _ (List.mem_append_right _ (List.mem_append_left _ (List.mem_of_getElem? (i := 207) rfl))))))))
set_option maxRecDepth 20000 in
theorem tw_1447 : (.fieldLink RX3 140 "SetHouse$Machine" "left" "I" : Cond) ∈ lw_tbl := (List.mem_append_right _ (List.mem_append_right _ (List.mem_append_left _ (List.mem_of_getElem? (i := 63) rfl))))
set_option maxRecDepth 20000 in
theorem tw_1448 : (.constant RX11 4 (268435455) : Cond) ∈ lw_tbl := (List.mem_append_right _ (List.mem_append_right _ (List.mem_append_right _ (List.mem_append_right _ (List.mem_append_right _ (List.mem_append_right _ (List.mem_append_right _ (List.mem_append_left _ (List.mem_of_getElem? (i := 14) rfl)))))))))
set_option maxRecDepth 20000 in
theorem tw_1449 : (.methodLink RX3 339 yX3_pop : Cond) ∈ lw_tbl := (List.mem_append_right _ (List.mem_append_right _ (List.mem_append_right _ (List.mem_append_right _ (List.mem_append_right _ (List.mem_append_right _ (List.mem_append_left _ (List.mem_of_getElem? (i := 200) rfl))))))))
set_option maxRecDepth 20000 in
theorem tw_1450 : (.instanceMethod yX3_pop : Cond) ∈ lw_tbl := (List.mem_append_right _ (List.mem_append_right _ (List.mem_append_right _ (List.mem_append_right _ (List.mem_append_right _ (List.mem_append_right _ (List.mem_append_left _ (List.mem_of_getElem? (i := 202) rfl))))))))
set_option maxRecDepth 20000 in
theorem tw_1451 : (.selects RX3 yX3_pop yX3_pop : Cond) ∈ lw_tbl := (List.mem_append_left _ (List.mem_of_getElem? (i := 86) (by decide +kernel)))
set_option maxRecDepth 20000 in
theorem tw_1452 : (.fieldLink RX3 58 "SetHouse$Machine" "program" "LSetHouse$Program;" : Cond) ∈ lw_tbl := (List.mem_append_right _ (List.mem_append_right _ (List.mem_append_left _ (List.mem_of_getElem? (i := 54) rfl))))
set_option maxRecDepth 20000 in
theorem tw_1453 : (.static yX11_unraw : Cond) ∈ lw_tbl := (List.mem_append_right _ (List.mem_append_right _ (List.mem_append_right _ (List.mem_append_right _ (List.mem_append_right _ (List.mem_append_right _ (List.mem_append_right _ (List.mem_append_left _ (List.mem_of_getElem? (i := 20) rfl)))))))))
set_option maxRecDepth 20000 in
theorem tw_1454 : (.code yX11_unraw cX11_unraw 1 (some .int) : Cond) ∈ lw_tbl := (List.mem_append_right _ (List.mem_append_right _ (List.mem_append_right _ (List.mem_append_right _ (List.mem_append_right _ (List.mem_append_right _ (List.mem_append_right _ (List.mem_append_left _ (List.mem_of_getElem? (i := 21) rfl)))))))))
set_option maxRecDepth 20000 in
theorem tw_1455 : (.code yX3_pop cX3_pop 1 (some .int) : Cond) ∈ lw_tbl := (List.mem_append_right _ (List.mem_append_right _ (List.mem_append_right _ (List.mem_append_right _ (List.mem_append_right _ (List.mem_append_right _ (List.mem_append_left _ (List.mem_of_getElem? (i := 203) rfl))))))))
set_option maxRecDepth 20000 in
theorem tw_1456 : (.constant RX3 430 (2000000000) : Cond) ∈ lw_tbl := (List.mem_append_right _ (List.mem_append_right _ (List.mem_append_right _ (List.mem_append_right _ (List.mem_append_right _ (List.mem_append_right _ (List.mem_append_right _ (List.mem_append_right _ (List.mem_append_right _ (List.mem_append_left _ (List.mem_of_getElem? (i := 142) rfl)))))))))))
set_option maxRecDepth 20000 in
theorem tw_1457 : (.methodLink RX3 418 Lib.Math.min.name : Cond) ∈ lw_tbl := (List.mem_append_right _ (List.mem_append_right _ (List.mem_append_right _ (List.mem_append_right _ (List.mem_append_right _ (List.mem_append_right _ (List.mem_append_right _ (List.mem_append_right _ (List.mem_append_right _ (List.mem_append_left _ (List.mem_of_getElem? (i := 143) rfl)))))))))))
set_option maxRecDepth 20000 in
theorem tw_1458 : (.constantLong RX3 492 (6364136223846793005) : Cond) ∈ lw_tbl := (List.mem_append_right _ (List.mem_append_right _ (List.mem_append_right _ (List.mem_append_right _ (List.mem_append_right _ (List.mem_append_right _ (List.mem_append_right _ (List.mem_append_left _ (List.mem_of_getElem? (i := 181) rfl)))))))))
set_option maxRecDepth 20000 in
theorem tw_1459 : (.constantLong RX3 494 (1442695040888963407) : Cond) ∈ lw_tbl := (List.mem_append_right _ (List.mem_append_right _ (List.mem_append_right _ (List.mem_append_right _ (List.mem_append_right _ (List.mem_append_right _ (List.mem_append_right _ (List.mem_append_left _ (List.mem_of_getElem? (i := 182) rfl)))))))))
set_option maxRecDepth 20000 in
theorem tw_1460 : (.methodLink RX3 396 yX1_kind : Cond) ∈ lw_tbl := (List.mem_append_right _ (List.mem_append_right _ (List.mem_append_right _ (List.mem_append_right _ (List.mem_append_right _ (List.mem_append_right _ (List.mem_append_right _ (List.mem_append_left _ (List.mem_of_getElem? (i := 172) rfl)))))))))
set_option maxRecDepth 20000 in
theorem tw_1461 : (.methodLink RX3 399 yX1_length : Cond) ∈ lw_tbl := (List.mem_append_right _ (List.mem_append_right _ (List.mem_append_right _ (List.mem_append_right _ (List.mem_append_right _ (List.mem_append_right _ (List.mem_append_right _ (List.mem_append_left _ (List.mem_of_getElem? (i := 173) rfl)))))))))
set_option maxRecDepth 20000 in
theorem tw_1462 : (.constant RX3 136 (-2147483648) : Cond) ∈ lw_tbl := (List.mem_append_right _ (List.mem_append_right _ (List.mem_append_right _ (List.mem_append_right _ (List.mem_append_right _ (List.mem_append_right _ (List.mem_append_left _ (List.mem_of_getElem? (i := 74) rfl))))))))
set_option maxRecDepth 20000 in
theorem tw_1463 : (.constant RX3 445 (-268435455) : Cond) ∈ lw_tbl := (List.mem_append_right _ (List.mem_append_right _ (List.mem_append_right _ (List.mem_append_right _ (List.mem_append_right _ (List.mem_append_right _ (List.mem_append_right _ (List.mem_append_left _ (List.mem_of_getElem? (i := 161) rfl)))))))))
set_option maxRecDepth 20000 in
theorem tw_1464 : (.methodLink RX3 470 yX3_nextDraw : Cond) ∈ lw_tbl := (List.mem_append_right _ (List.mem_append_right _ (List.mem_append_right _ (List.mem_append_right _ (List.mem_append_right _ (List.mem_append_right _ (List.mem_append_right _ (List.mem_append_left _ (List.mem_of_getElem? (i := 177) rfl)))))))))
set_option maxRecDepth 20000 in
theorem tw_1465 : (.instanceMethod yX3_nextDraw : Cond) ∈ lw_tbl := (List.mem_append_right _ (List.mem_append_right _ (List.mem_append_right _ (List.mem_append_right _ (List.mem_append_right _ (List.mem_append_right _ (List.mem_append_right _ (List.mem_append_left _ (List.mem_of_getElem? (i := 179) rfl)))))))))
set_option maxRecDepth 20000 in
theorem tw_1466 : (.selects RX3 yX3_nextDraw yX3_nextDraw : Cond) ∈ lw_tbl := (List.mem_append_left _ (List.mem_of_getElem? (i := 113) (by decide +kernel)))
set_option maxRecDepth 20000 in
theorem tw_1467 : (.methodLink RX3 473 yX1_taken : Cond) ∈ lw_tbl := (List.mem_append_right _ (List.mem_append_right _ (List.mem_append_right _ (List.mem_append_right _ (List.mem_append_right _ (List.mem_append_right _ (List.mem_append_right _ (List.mem_append_left _ (List.mem_of_getElem? (i := 183) rfl)))))))))
set_option maxRecDepth 20000 in
theorem tw_1468 : (.methodLink RX3 476 yX10_number : Cond) ∈ lw_tbl := (List.mem_append_right _ (List.mem_append_right _ (List.mem_append_right _ (List.mem_append_right _ (List.mem_append_right _ (List.mem_append_right _ (List.mem_append_right _ (List.mem_append_left _ (List.mem_of_getElem? (i := 196) rfl)))))))))
set_option maxRecDepth 20000 in
theorem tw_1469 : (.fieldLink RX3 43 "SetHouse$Machine" "wholes" "LSetHouse$Wholes;" : Cond) ∈ lw_tbl := (List.mem_append_right _ (List.mem_append_right _ (List.mem_append_left _ (List.mem_of_getElem? (i := 48) rfl))))
set_option maxRecDepth 20000 in
theorem tw_1470 : (.methodLink RX3 484 yX10_isBelow : Cond) ∈ lw_tbl := (List.mem_append_right _ (List.mem_append_right _ (List.mem_append_right _ (List.mem_append_right _ (List.mem_append_right _ (List.mem_append_right _ (List.mem_append_right _ (List.mem_append_left _ (List.mem_of_getElem? (i := 197) rfl)))))))))
set_option maxRecDepth 20000 in
theorem tw_1471 : (.constant RX3 487 (-268435452) : Cond) ∈ lw_tbl := (List.mem_append_right _ (List.mem_append_right _ (List.mem_append_right _ (List.mem_append_right _ (List.mem_append_right _ (List.mem_append_right _ (List.mem_append_right _ (List.mem_append_left _ (List.mem_of_getElem? (i := 198) rfl)))))))))
set_option maxRecDepth 20000 in
theorem tw_1472 : (.methodLink RX3 488 yX10_of : Cond) ∈ lw_tbl := (List.mem_append_right _ (List.mem_append_right _ (List.mem_append_right _ (List.mem_append_right _ (List.mem_append_right _ (List.mem_append_right _ (List.mem_append_right _ (List.mem_append_left _ (List.mem_of_getElem? (i := 199) rfl)))))))))
set_option maxRecDepth 20000 in
theorem tw_1473 : (.code yX3_nextDraw cX3_nextDraw 2 (some .int) : Cond) ∈ lw_tbl := (List.mem_append_right _ (List.mem_append_right _ (List.mem_append_right _ (List.mem_append_right _ (List.mem_append_right _ (List.mem_append_right _ (List.mem_append_right _ (List.mem_append_left _ (List.mem_of_getElem? (i := 180) rfl)))))))))
set_option maxRecDepth 20000 in
theorem tw_1474 : (.constant RX3 394 (40000) : Cond) ∈ lw_tbl := (List.mem_append_right _ (List.mem_append_right _ (List.mem_append_right _ (List.mem_append_right _ (List.mem_append_right _ (List.mem_append_right _ (List.mem_append_right _ (List.mem_append_left _ (List.mem_of_getElem? (i := 34) rfl)))))))))
set_option maxRecDepth 20000 in
theorem tw_1475 : (.methodLink RX3 513 yX3_letGo : Cond) ∈ lw_tbl := (List.mem_append_right _ (List.mem_append_right _ (List.mem_append_right _ (List.mem_append_right _ (List.mem_append_right _ (List.mem_append_right _ (List.mem_append_right _ (List.mem_append_left _ (List.mem_of_getElem? (i := 212) rfl)))))))))
set_option maxRecDepth 20000 in
theorem tw_1476 : (.instanceMethod yX3_letGo : Cond) ∈ lw_tbl := (List.mem_append_right _ (List.mem_append_right _ (List.mem_append_right _ (List.mem_append_right _ (List.mem_append_right _ (List.mem_append_right _ (List.mem_append_right _ (List.mem_append_left _ (List.mem_of_getElem? (i := 214) rfl)))))))))
set_option maxRecDepth 20000 in
theorem tw_1477 : (.selects RX3 yX3_letGo yX3_letGo : Cond) ∈ lw_tbl := (List.mem_append_left _ (List.mem_of_getElem? (i := 117) (by decide +kernel)))
set_option maxRecDepth 20000 in
theorem tw_1478 : (.methodLink RX3 504 yX3_assign : Cond) ∈ lw_tbl := (List.mem_append_right _ (List.mem_append_right _ (List.mem_append_right _ (List.mem_append_right _ (List.mem_append_right _ (List.mem_append_right _ (List.mem_append_right _ (List.mem_append_left _ (List.mem_of_getElem? (i := 216) rfl)))))))))
set_option maxRecDepth 20000 in
theorem tw_1479 : (.instanceMethod yX3_assign : Cond) ∈ lw_tbl := (List.mem_append_right _ (List.mem_append_right _ (List.mem_append_right _ (List.mem_append_right _ (List.mem_append_right _ (List.mem_append_right _ (List.mem_append_right _ (List.mem_append_left _ (List.mem_of_getElem? (i := 218) rfl)))))))))
set_option maxRecDepth 20000 in
theorem tw_1480 : (.selects RX3 yX3_assign yX3_assign : Cond) ∈ lw_tbl := (List.mem_append_left _ (List.mem_of_getElem? (i := 118) (by decide +kernel)))
set_option maxRecDepth 20000 in
theorem tw_1481 : (.code yX3_assign cX3_assign 5 none : Cond) ∈ lw_tbl := (List.mem_append_right _ (List.mem_append_right _ (List.mem_append_right _ (List.mem_append_right _ (List.mem_append_right _ (List.mem_append_right _ (List.mem_append_right _ (List.mem_append_left _ (List.mem_of_getElem? (i := 219) rfl)))))))))
set_option maxRecDepth 20000 in
theorem tw_1482 : (.code yX3_letGo cX3_letGo 5 none : Cond) ∈ lw_tbl := (List.mem_append_right _ (List.mem_append_right _ (List.mem_append_right _ (List.mem_append_right _ (List.mem_append_right _ (List.mem_append_right _ (List.mem_append_right _ (List.mem_append_left _ (List.mem_of_getElem? (i := 215) rfl)))))))))
set_option maxRecDepth 20000 in
theorem tw_1483 : (.fieldLink RX5 75 "SetHouse$Parser" "faultCode" "I" : Cond) ∈ lw_tbl := (List.mem_append_right _ (List.mem_append_right _ (List.mem_append_left _ (List.mem_of_getElem? (i := 216) rfl))))
set_option maxRecDepth 20000 in
theorem tw_1484 : (.fieldLink RX5 18 "SetHouse$Parser" "lex" "LSetHouse$Lexer;" : Cond) ∈ lw_tbl := (List.mem_append_right _ (List.mem_append_right _ (List.mem_append_left _ (List.mem_of_getElem? (i := 210) rfl))))
set_option maxRecDepth 20000 in
theorem tw_1485 : (.fieldLink RX5 81 "SetHouse$Parser" "faultPlace" "I" : Cond) ∈ lw_tbl := (List.mem_append_right _ (List.mem_append_right _ (List.mem_append_left _ (List.mem_of_getElem? (i := 218) rfl))))
set_option maxRecDepth 20000 in
theorem tw_1486 : (.fieldLink RX5 93 "SetHouse$Parser" "p" "LSetHouse$Program;" : Cond) ∈ lw_tbl := (List.mem_append_right _ (List.mem_append_right _ (List.mem_append_left _ (List.mem_of_getElem? (i := 212) rfl))))
set_option maxRecDepth 20000 in
theorem tw_1487 : (.fieldLink RX5 97 "SetHouse$Parser" "unit" "I" : Cond) ∈ lw_tbl := (List.mem_append_right _ (List.mem_append_right _ (List.mem_append_left _ (List.mem_of_getElem? (i := 213) rfl))))
set_option maxRecDepth 20000 in
theorem tw_1488 : (.fieldLink RX5 100 "SetHouse$Parser" "allowed" "I" : Cond) ∈ lw_tbl := (List.mem_append_right _ (List.mem_append_right _ (List.mem_append_left _ (List.mem_of_getElem? (i := 214) rfl))))
set_option maxRecDepth 20000 in
theorem tw_1489 : (.fieldLink RX7 9 "SetHouse$Program" "code" "[I" : Cond) ∈ lw_tbl := (List.mem_append_right _ (List.mem_append_right _ (List.mem_append_right _ (List.mem_append_left _ (List.mem_of_getElem? (i := 42) rfl)))))
set_option maxRecDepth 20000 in
theorem tw_1490 : (.constant RX5 35 (32768) : Cond) ∈ lw_tbl := (List.mem_append_right _ (List.mem_append_right _ (List.mem_append_right _ (List.mem_append_right _ (List.mem_append_left _ (List.mem_of_getElem? (i := 78) rfl))))))
set_option maxRecDepth 20000 in
theorem tw_1491 : (.methodLink RX5 240 yX7_aim : Cond) ∈ lw_tbl := (List.mem_append_right _ (List.mem_append_right _ (List.mem_append_right _ (List.mem_append_right _ (List.mem_append_right _ (List.mem_append_left _ (List.mem_of_getElem? (i := 33) rfl)))))))
set_option maxRecDepth 20000 in
theorem tw_1492 : (.instanceMethod yX7_aim : Cond) ∈ lw_tbl := (List.mem_append_right _ (List.mem_append_right _ (List.mem_append_right _ (List.mem_append_right _ (List.mem_append_right _ (List.mem_append_left _ (List.mem_of_getElem? (i := 34) rfl)))))))
set_option maxRecDepth 20000 in
theorem tw_1493 : (.selects RX7 yX7_aim yX7_aim : Cond) ∈ lw_tbl := (List.mem_append_right _ (List.mem_append_right _ (List.mem_append_right _ (List.mem_append_right _ (List.mem_append_right _ (List.mem_append_left _ (List.mem_of_getElem? (i := 35) rfl)))))))
set_option maxRecDepth 20000 in
theorem tw_1494 : (.initialized RX7 : Cond) ∈ lw_tbl := (List.mem_append_right _ (List.mem_append_left _ (List.mem_of_getElem? (i := 15) rfl)))
set_option maxRecDepth 20000 in
theorem tw_1495 : (.code yX7_aim cX7_aim 3 none : Cond) ∈ lw_tbl := (List.mem_append_right _ (List.mem_append_right _ (List.mem_append_right _ (List.mem_append_right _ (List.mem_append_right _ (List.mem_append_left _ (List.mem_of_getElem? (i := 36) rfl)))))))
set_option maxRecDepth 20000 in
theorem tw_1496 : (.fieldLink RX5 112 "SetHouse$Parser" "marked" "I" : Cond) ∈ lw_tbl := (List.mem_append_right _ (List.mem_append_right _ (List.mem_append_left _ (List.mem_of_getElem? (i := 223) rfl))))
set_option maxRecDepth 20000 in
theorem tw_1497 : (.fieldLink RX5 9 "SetHouse$Parser" "marks" "[I" : Cond) ∈ lw_tbl := (List.mem_append_right _ (List.mem_append_right _ (List.mem_append_left _ (List.mem_of_getElem? (i := 222) rfl))))
set_option maxRecDepth 20000 in
theorem tw_1498 : (.fieldLink RX6 23 "SetHouse$Printer" "length" "I" : Cond) ∈ lw_tbl := (List.mem_append_right _ (List.mem_append_left _ (List.mem_of_getElem? (i := 110) rfl)))
set_option maxRecDepth 20000 in
theorem tw_1499 : (.fieldLink RX6 11 "SetHouse$Printer" "text" "[B" : Cond) ∈ lw_tbl := (List.mem_append_right _ (List.mem_append_left _ (List.mem_of_getElem? (i := 107) rfl)))
set_option maxRecDepth 20000 in
theorem tw_1500 : (.fieldLink RX6 15 "SetHouse$Printer" "heap" "LSetHouse$Heap;" : Cond) ∈ lw_tbl := (List.mem_append_right _ (List.mem_append_left _ (List.mem_of_getElem? (i := 105) rfl)))
set_option maxRecDepth 20000 in
theorem tw_1501 : (.methodLink RX6 68 yX1_length : Cond) ∈ lw_tbl := (List.mem_append_right _ (List.mem_append_right _ (List.mem_append_right _ (List.mem_append_right _ (List.mem_append_right _ (List.mem_append_right _ (List.mem_append_right _ (List.mem_append_right _ (List.mem_append_right _ (List.mem_append_left _ (List.mem_of_getElem? (i := 78) rfl)))))))))))
set_option maxRecDepth 20000 in
theorem tw_1502 : (.methodLink RX6 79 yX1_copyBytes : Cond) ∈ lw_tbl := (List.mem_append_right _ (List.mem_append_right _ (List.mem_append_right _ (List.mem_append_right _ (List.mem_append_right _ (List.mem_append_right _ (List.mem_append_right _ (List.mem_append_right _ (List.mem_append_right _ (List.mem_append_left _ (List.mem_of_getElem? (i := 80) rfl)))))))))))
set_option maxRecDepth 20000 in
theorem tw_1503 : (.methodLink RX6 74 Lib.Math.min.name : Cond) ∈ lw_tbl := (List.mem_append_right _ (List.mem_append_right _ (List.mem_append_right _ (List.mem_append_right _ (List.mem_append_right _ (List.mem_append_right _ (List.mem_append_right _ (List.mem_append_right _ (List.mem_append_right _ (List.mem_append_left _ (List.mem_of_getElem? (i := 79) rfl)))))))))))
set_option maxRecDepth 20000 in
theorem tw_1504 : (.methodLink RX6 92 yX1_makeString : Cond) ∈ lw_tbl := (List.mem_append_right _ (List.mem_append_right _ (List.mem_append_right _ (List.mem_append_right _ (List.mem_append_right _ (List.mem_append_right _ (List.mem_append_right _ (List.mem_append_right _ (List.mem_append_right _ (List.mem_append_left _ (List.mem_of_getElem? (i := 46) rfl)))))))))))
set_option maxRecDepth 20000 in
theorem tw_1505 : (.fieldLink RX7 35 "SetHouse$Program" "entries" "[I" : Cond) ∈ lw_tbl := (List.mem_append_right _ (List.mem_append_right _ (List.mem_append_right _ (List.mem_append_left _ (List.mem_of_getElem? (i := 74) rfl)))))
set_option maxRecDepth 20000 in
theorem tw_1506 : (.fieldLink RX7 53 "SetHouse$Program" "size" "I" : Cond) ∈ lw_tbl := (List.mem_append_right _ (List.mem_append_right _ (List.mem_append_right _ (List.mem_append_left _ (List.mem_of_getElem? (i := 46) rfl)))))
set_option maxRecDepth 20000 in
theorem tw_1507 : (.fieldLink RX7 38 "SetHouse$Program" "params" "[I" : Cond) ∈ lw_tbl := (List.mem_append_right _ (List.mem_append_right _ (List.mem_append_right _ (List.mem_append_left _ (List.mem_of_getElem? (i := 76) rfl)))))
set_option maxRecDepth 20000 in
theorem tw_1508 : (.fieldLink RX7 41 "SetHouse$Program" "modes" "[I" : Cond) ∈ lw_tbl := (List.mem_append_right _ (List.mem_append_right _ (List.mem_append_right _ (List.mem_append_left _ (List.mem_of_getElem? (i := 79) rfl)))))
set_option maxRecDepth 20000 in
theorem tw_1509 : (.fieldLink RX7 44 "SetHouse$Program" "variables" "[I" : Cond) ∈ lw_tbl := (List.mem_append_right _ (List.mem_append_right _ (List.mem_append_right _ (List.mem_append_left _ (List.mem_of_getElem? (i := 81) rfl)))))
set_option maxRecDepth 20000 in
theorem tw_1510 : (.fieldLink RX7 47 "SetHouse$Program" "counted" "[I" : Cond) ∈ lw_tbl := (List.mem_append_right _ (List.mem_append_right _ (List.mem_append_right _ (List.mem_append_left _ (List.mem_of_getElem? (i := 84) rfl)))))
set_option maxRecDepth 20000 in
theorem tw_1511 : (.fieldLink RX7 50 "SetHouse$Program" "frames" "[I" : Cond) ∈ lw_tbl := (List.mem_append_right _ (List.mem_append_right _ (List.mem_append_right _ (List.mem_append_left _ (List.mem_of_getElem? (i := 87) rfl)))))
set_option maxRecDepth 20000 in
theorem tw_1512 : (.fieldLink RX7 82 "SetHouse$Program" "passing" "I" : Cond) ∈ lw_tbl := (List.mem_append_right _ (List.mem_append_right _ (List.mem_append_right _ (List.mem_append_left _ (List.mem_of_getElem? (i := 90) rfl)))))
set_option maxRecDepth 20000 in
theorem tw_1513 : (.fieldLink RX7 57 "SetHouse$Program" "entry" "I" : Cond) ∈ lw_tbl := (List.mem_append_right _ (List.mem_append_right _ (List.mem_append_right _ (List.mem_append_left _ (List.mem_of_getElem? (i := 49) rfl)))))
set_option maxRecDepth 20000 in
theorem tw_1514 : (.methodLink RX7 76 arraycopyName : Cond) ∈ lw_tbl := (List.mem_append_right _ (List.mem_append_right _ (List.mem_append_right _ (List.mem_append_right _ (List.mem_append_right _ (List.mem_append_left _ (List.mem_of_getElem? (i := 126) rfl)))))))
set_option maxRecDepth 20000 in
theorem tw_1515 : (.fieldLink RX7 69 "SetHouse$Program" "units" "I" : Cond) ∈ lw_tbl := (List.mem_append_right _ (List.mem_append_right _ (List.mem_append_right _ (List.mem_append_left _ (List.mem_of_getElem? (i := 72) rfl)))))
set_option maxRecDepth 20000 in
theorem tw_1516 : (.fieldLink RX7 66 "SetHouse$Program" "names" "I" : Cond) ∈ lw_tbl := (List.mem_append_right _ (List.mem_append_right _ (List.mem_append_right _ (List.mem_append_left _ (List.mem_of_getElem? (i := 70) rfl)))))
set_option maxRecDepth 20000 in
theorem tw_1517 : (.fieldLink RX7 15 "SetHouse$Program" "high" "[J" : Cond) ∈ lw_tbl := (List.mem_append_right _ (List.mem_append_right _ (List.mem_append_right _ (List.mem_append_left _ (List.mem_of_getElem? (i := 58) rfl)))))
set_option maxRecDepth 20000 in
theorem tw_1518 : (.fieldLink RX7 19 "SetHouse$Program" "low" "[J" : Cond) ∈ lw_tbl := (List.mem_append_right _ (List.mem_append_right _ (List.mem_append_right _ (List.mem_append_left _ (List.mem_of_getElem? (i := 59) rfl)))))
set_option maxRecDepth 20000 in
theorem tw_1519 : (.fieldLink RX7 31 "SetHouse$Program" "hidden" "[Z" : Cond) ∈ lw_tbl := (List.mem_append_right _ (List.mem_append_right _ (List.mem_append_right _ (List.mem_append_left _ (List.mem_of_getElem? (i := 68) rfl)))))
set_option maxRecDepth 20000 in
theorem tw_1520 : (.fieldLink RX7 22 "SetHouse$Program" "what" "[I" : Cond) ∈ lw_tbl := (List.mem_append_right _ (List.mem_append_right _ (List.mem_append_right _ (List.mem_append_left _ (List.mem_of_getElem? (i := 60) rfl)))))
set_option maxRecDepth 20000 in
theorem tw_1521 : (.fieldLink RX7 25 "SetHouse$Program" "owner" "[I" : Cond) ∈ lw_tbl := (List.mem_append_right _ (List.mem_append_right _ (List.mem_append_right _ (List.mem_append_left _ (List.mem_of_getElem? (i := 63) rfl)))))
set_option maxRecDepth 20000 in
theorem tw_1522 : (.fieldLink RX7 28 "SetHouse$Program" "slot" "[I" : Cond) ∈ lw_tbl := (List.mem_append_right _ (List.mem_append_right _ (List.mem_append_right _ (List.mem_append_left _ (List.mem_of_getElem? (i := 65) rfl)))))
set_option maxRecDepth 20000 in
theorem tw_1523 : (.fieldLink RX9 41 "SetHouse$Saves" "saved" "I" : Cond) ∈ lw_tbl := (List.mem_append_right _ (List.mem_append_right _ (List.mem_append_left _ (List.mem_of_getElem? (i := 21) rfl))))
set_option maxRecDepth 20000 in
theorem tw_1524 : (.methodLink RX9 29 yX9_drop : Cond) ∈ lw_tbl := (List.mem_append_right _ (List.mem_append_right _ (List.mem_append_right _ (List.mem_append_right _ (List.mem_append_right _ (List.mem_append_right _ (List.mem_append_left _ (List.mem_of_getElem? (i := 55) rfl))))))))
set_option maxRecDepth 20000 in
theorem tw_1525 : (.instanceMethod yX9_drop : Cond) ∈ lw_tbl := (List.mem_append_right _ (List.mem_append_right _ (List.mem_append_right _ (List.mem_append_right _ (List.mem_append_right _ (List.mem_append_right _ (List.mem_append_left _ (List.mem_of_getElem? (i := 56) rfl))))))))
set_option maxRecDepth 20000 in
theorem tw_1526 : (.selects RX9 yX9_drop yX9_drop : Cond) ∈ lw_tbl := (List.mem_append_right _ (List.mem_append_right _ (List.mem_append_right _ (List.mem_append_right _ (List.mem_append_right _ (List.mem_append_right _ (List.mem_append_left _ (List.mem_of_getElem? (i := 57) rfl))))))))
set_option maxRecDepth 20000 in
theorem tw_1527 : (.fieldLink RX9 24 "SetHouse$Saves" "gap" "I" : Cond) ∈ lw_tbl := (List.mem_append_right _ (List.mem_append_right _ (List.mem_append_left _ (List.mem_of_getElem? (i := 23) rfl))))
set_option maxRecDepth 20000 in
theorem tw_1528 : (.fieldLink RX9 32 "SetHouse$Saves" "nextAt" "I" : Cond) ∈ lw_tbl := (List.mem_append_right _ (List.mem_append_right _ (List.mem_append_left _ (List.mem_of_getElem? (i := 24) rfl))))
set_option maxRecDepth 20000 in
theorem tw_1529 : (.fieldLink RX9 35 "SetHouse$Saves" "nearAt" "I" : Cond) ∈ lw_tbl := (List.mem_append_right _ (List.mem_append_right _ (List.mem_append_left _ (List.mem_of_getElem? (i := 26) rfl))))
set_option maxRecDepth 20000 in
theorem tw_1530 : (.code yX9_drop cX9_drop 1 none : Cond) ∈ lw_tbl := (List.mem_append_right _ (List.mem_append_right _ (List.mem_append_right _ (List.mem_append_right _ (List.mem_append_right _ (List.mem_append_right _ (List.mem_append_left _ (List.mem_of_getElem? (i := 58) rfl))))))))
set_option maxRecDepth 20000 in
theorem tw_1531 : (.methodLink RX10 76 yX10_negated : Cond) ∈ lw_tbl := (List.mem_append_right _ (List.mem_append_right _ (List.mem_append_right _ (List.mem_append_right _ (List.mem_append_right _ (List.mem_append_right _ (List.mem_append_right _ (List.mem_append_right _ (List.mem_append_right _ (List.mem_append_left _ (List.mem_of_getElem? (i := 2) rfl)))))))))))
set_option maxRecDepth 20000 in
theorem tw_1532 : (.instanceMethod yX10_negated : Cond) ∈ lw_tbl := (List.mem_append_right _ (List.mem_append_right _ (List.mem_append_right _ (List.mem_append_right _ (List.mem_append_right _ (List.mem_append_right _ (List.mem_append_right _ (List.mem_append_right _ (List.mem_append_left _ (List.mem_of_getElem? (i := 235) rfl))))))))))
set_option maxRecDepth 20000 in
theorem tw_1533 : (.selects RX10 yX10_negated yX10_negated : Cond) ∈ lw_tbl := (List.mem_append_right _ (List.mem_append_right _ (List.mem_append_right _ (List.mem_append_right _ (List.mem_append_right _ (List.mem_append_right _ (List.mem_append_right _ (List.mem_append_right _ (List.mem_append_left _ (List.mem_of_getElem? (i := 236) rfl))))))))))
set_option maxRecDepth 20000 in
theorem tw_1534 : (.code yX10_negated cX10_negated 2 (some .int) : Cond) ∈ lw_tbl := (List.mem_append_right _ (List.mem_append_right _ (List.mem_append_right _ (List.mem_append_right _ (List.mem_append_right _ (List.mem_append_right _ (List.mem_append_right _ (List.mem_append_right _ (List.mem_append_left _ (List.mem_of_getElem? (i := 237) rfl))))))))))
set_option maxRecDepth 20000 in
theorem tw_1535 : (.fieldLink RX10 169 "SetHouse$Wholes" "resultLimbs" "I" : Cond) ∈ lw_tbl := (List.mem_append_right _ (List.mem_append_left _ (List.mem_of_getElem? (i := 75) rfl)))
set_option maxRecDepth 20000 in
theorem tw_1536 : (.constantLong RX10 180 (1000000000) : Cond) ∈ lw_tbl := (List.mem_append_right _ (List.mem_append_right _ (List.mem_append_right _ (List.mem_append_right _ (List.mem_append_right _ (List.mem_append_right _ (List.mem_append_right _ (List.mem_append_right _ (List.mem_append_right _ (List.mem_append_left _ (List.mem_of_getElem? (i := 67) rfl)))))))))))
set_option maxRecDepth 20000 in
theorem tw_1537 : (.fieldLink RX11 137 "SetHouse" "latestFault" "I" : Cond) ∈ lw_tbl := (List.mem_append_right _ (List.mem_append_right _ (List.mem_append_right _ (List.mem_append_left _ (List.mem_of_getElem? (i := 158) rfl)))))
set_option maxRecDepth 20000 in
theorem tw_1538 : (.fieldLink RX11 56 "SetHouse" "kept" "[I" : Cond) ∈ lw_tbl := (List.mem_append_right _ (List.mem_append_right _ (List.mem_append_right _ (List.mem_append_left _ (List.mem_of_getElem? (i := 150) rfl)))))
