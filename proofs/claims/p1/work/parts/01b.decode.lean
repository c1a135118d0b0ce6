/-! decode rows -/
theorem dX12_init__0 : decode cX12_init_ 0 = .ok (.aload_n 0, 1) := by decide +kernel
theorem dX12_init__1 : decode cX12_init_ 1 = .ok (.iconst 0, 1) := by decide +kernel
theorem dX12_init__2 : decode cX12_init_ 2 = .ok (.putfield 993, 3) := by decide +kernel
theorem dX12_init__5 : decode cX12_init_ 5 = .ok (.aload_n 0, 1) := by decide +kernel
theorem dX12_init__6 : decode cX12_init_ 6 = .ok (.iconst 0, 1) := by decide +kernel
theorem dX12_init__7 : decode cX12_init_ 7 = .ok (.putfield 1, 3) := by decide +kernel
theorem dX12_init__10 : decode cX12_init_ 10 = .ok (.aload_n 0, 1) := by decide +kernel
theorem dX12_init__11 : decode cX12_init_ 11 = .ok (.iconst 0, 1) := by decide +kernel
theorem dX12_init__12 : decode cX12_init_ 12 = .ok (.putfield 15, 3) := by decide +kernel
theorem dX12_init__15 : decode cX12_init_ 15 = .ok (.aload_n 0, 1) := by decide +kernel
theorem dX12_init__16 : decode cX12_init_ 16 = .ok (.iconst 0, 1) := by decide +kernel
theorem dX12_init__17 : decode cX12_init_ 17 = .ok (.putfield 378, 3) := by decide +kernel
theorem dX12_init__20 : decode cX12_init_ 20 = .ok (.aload_n 0, 1) := by decide +kernel
theorem dX12_init__21 : decode cX12_init_ 21 = .ok (.iconst 4, 1) := by decide +kernel
theorem dX12_init__22 : decode cX12_init_ 22 = .ok (.putfield 375, 3) := by decide +kernel
theorem dX12_init__25 : decode cX12_init_ 25 = .ok (.aload_n 0, 1) := by decide +kernel
theorem dX12_init__26 : decode cX12_init_ 26 = .ok (.iconst 0, 1) := by decide +kernel
theorem dX12_init__27 : decode cX12_init_ 27 = .ok (.putfield 385, 3) := by decide +kernel
theorem dX12_init__30 : decode cX12_init_ 30 = .ok (.aload_n 0, 1) := by decide +kernel
theorem dX12_init__31 : decode cX12_init_ 31 = .ok (.iconst 0, 1) := by decide +kernel
theorem dX12_init__32 : decode cX12_init_ 32 = .ok (.putfield 414, 3) := by decide +kernel
theorem dX12_init__35 : decode cX12_init_ 35 = .ok (.aload_n 0, 1) := by decide +kernel
theorem dX12_init__36 : decode cX12_init_ 36 = .ok (.iconst 0, 1) := by decide +kernel
theorem dX12_init__37 : decode cX12_init_ 37 = .ok (.putfield 402, 3) := by decide +kernel
theorem dX12_init__40 : decode cX12_init_ 40 = .ok (.aload_n 0, 1) := by decide +kernel
theorem dX12_init__41 : decode cX12_init_ 41 = .ok (.iconst 0, 1) := by decide +kernel
theorem dX12_init__42 : decode cX12_init_ 42 = .ok (.putfield 855, 3) := by decide +kernel
theorem dX12_init__45 : decode cX12_init_ 45 = .ok (.aload_n 0, 1) := by decide +kernel
theorem dX12_init__46 : decode cX12_init_ 46 = .ok (.iconst 0, 1) := by decide +kernel
theorem dX12_init__47 : decode cX12_init_ 47 = .ok (.putfield 1029, 3) := by decide +kernel
theorem dX12_init__50 : decode cX12_init_ 50 = .ok (.aload_n 0, 1) := by decide +kernel
theorem dX12_init__51 : decode cX12_init_ 51 = .ok (.iconst 0, 1) := by decide +kernel
theorem dX12_init__52 : decode cX12_init_ 52 = .ok (.putfield 1032, 3) := by decide +kernel
theorem dX12_init__55 : decode cX12_init_ 55 = .ok (.aload_n 0, 1) := by decide +kernel
theorem dX12_init__56 : decode cX12_init_ 56 = .ok (.iconst 0, 1) := by decide +kernel
theorem dX12_init__57 : decode cX12_init_ 57 = .ok (.putfield 1035, 3) := by decide +kernel
theorem dX12_init__60 : decode cX12_init_ 60 = .ok (.aload_n 0, 1) := by decide +kernel
theorem dX12_init__61 : decode cX12_init_ 61 = .ok (.iconst 0, 1) := by decide +kernel
theorem dX12_init__62 : decode cX12_init_ 62 = .ok (.putfield 1038, 3) := by decide +kernel
theorem dX12_init__65 : decode cX12_init_ 65 = .ok (.aload_n 0, 1) := by decide +kernel
theorem dX12_init__66 : decode cX12_init_ 66 = .ok (.getfield 426, 3) := by decide +kernel
theorem dX12_init__69 : decode cX12_init_ 69 = .ok (.iconst 0, 1) := by decide +kernel
theorem dX12_init__70 : decode cX12_init_ 70 = .ok (.iconst 0, 1) := by decide +kernel
theorem dX12_init__71 : decode cX12_init_ 71 = .ok (.iastore, 1) := by decide +kernel
theorem dX12_init__72 : decode cX12_init_ 72 = .ok (.aload_n 0, 1) := by decide +kernel
theorem dX12_init__73 : decode cX12_init_ 73 = .ok (.getfield 426, 3) := by decide +kernel
theorem dX12_init__76 : decode cX12_init_ 76 = .ok (.iconst 1, 1) := by decide +kernel
theorem dX12_init__77 : decode cX12_init_ 77 = .ok (.iconst 0, 1) := by decide +kernel
theorem dX12_init__78 : decode cX12_init_ 78 = .ok (.iastore, 1) := by decide +kernel
theorem dX12_init__79 : decode cX12_init_ 79 = .ok (.aload_n 0, 1) := by decide +kernel
theorem dX12_init__80 : decode cX12_init_ 80 = .ok (.iconst 0, 1) := by decide +kernel
theorem dX12_init__81 : decode cX12_init_ 81 = .ok (.putfield 1041, 3) := by decide +kernel
theorem dX12_init__84 : decode cX12_init_ 84 = .ok (.aload_n 0, 1) := by decide +kernel
theorem dX12_init__85 : decode cX12_init_ 85 = .ok (.iconst 0, 1) := by decide +kernel
theorem dX12_init__86 : decode cX12_init_ 86 = .ok (.putfield 1044, 3) := by decide +kernel
theorem dX12_init__89 : decode cX12_init_ 89 = .ok (.aload_n 0, 1) := by decide +kernel
theorem dX12_init__90 : decode cX12_init_ 90 = .ok (.iconst 0, 1) := by decide +kernel
theorem dX12_init__91 : decode cX12_init_ 91 = .ok (.putfield 1047, 3) := by decide +kernel
theorem dX12_init__94 : decode cX12_init_ 94 = .ok (.aload_n 0, 1) := by decide +kernel
theorem dX12_init__95 : decode cX12_init_ 95 = .ok (.iconst 1, 1) := by decide +kernel
theorem dX12_init__96 : decode cX12_init_ 96 = .ok (.putfield 80, 3) := by decide +kernel
theorem dX12_init__99 : decode cX12_init_ 99 = .ok (.aload_n 0, 1) := by decide +kernel
theorem dX12_init__100 : decode cX12_init_ 100 = .ok (.iconst 0, 1) := by decide +kernel
theorem dX12_init__101 : decode cX12_init_ 101 = .ok (.putfield 105, 3) := by decide +kernel
theorem dX12_init__104 : decode cX12_init_ 104 = .ok (.aload_n 0, 1) := by decide +kernel
theorem dX12_init__105 : decode cX12_init_ 105 = .ok (.iconst 0, 1) := by decide +kernel
theorem dX12_init__106 : decode cX12_init_ 106 = .ok (.putfield 139, 3) := by decide +kernel
theorem dX12_init__109 : decode cX12_init_ 109 = .ok (.aload_n 0, 1) := by decide +kernel
theorem dX12_init__110 : decode cX12_init_ 110 = .ok (.getfield 157, 3) := by decide +kernel
theorem dX12_init__113 : decode cX12_init_ 113 = .ok (.iconst 0, 1) := by decide +kernel
theorem dX12_init__114 : decode cX12_init_ 114 = .ok (.iconst 0, 1) := by decide +kernel
theorem dX12_init__115 : decode cX12_init_ 115 = .ok (.iastore, 1) := by decide +kernel
theorem dX12_init__116 : decode cX12_init_ 116 = .ok (.aload_n 0, 1) := by decide +kernel
theorem dX12_init__117 : decode cX12_init_ 117 = .ok (.iconst 0, 1) := by decide +kernel
theorem dX12_init__118 : decode cX12_init_ 118 = .ok (.putfield 297, 3) := by decide +kernel
theorem dX12_init__121 : decode cX12_init_ 121 = .ok (.aload_n 0, 1) := by decide +kernel
theorem dX12_init__122 : decode cX12_init_ 122 = .ok (.iconst 0, 1) := by decide +kernel
theorem dX12_init__123 : decode cX12_init_ 123 = .ok (.putfield 349, 3) := by decide +kernel
theorem dX12_init__126 : decode cX12_init_ 126 = .ok (.aload_n 0, 1) := by decide +kernel
theorem dX12_init__127 : decode cX12_init_ 127 = .ok (.getfield 395, 3) := by decide +kernel
theorem dX12_init__130 : decode cX12_init_ 130 = .ok (.iconst 1, 1) := by decide +kernel
theorem dX12_init__131 : decode cX12_init_ 131 = .ok (.iconst 0, 1) := by decide +kernel
theorem dX12_init__132 : decode cX12_init_ 132 = .ok (.iastore, 1) := by decide +kernel
theorem dX12_init__133 : decode cX12_init_ 133 = .ok (.aload_n 0, 1) := by decide +kernel
theorem dX12_init__134 : decode cX12_init_ 134 = .ok (.getfield 395, 3) := by decide +kernel
theorem dX12_init__137 : decode cX12_init_ 137 = .ok (.iconst 3, 1) := by decide +kernel
theorem dX12_init__138 : decode cX12_init_ 138 = .ok (.iconst 0, 1) := by decide +kernel
theorem dX12_init__139 : decode cX12_init_ 139 = .ok (.iastore, 1) := by decide +kernel
theorem dX12_init__140 : decode cX12_init_ 140 = .ok (.aload_n 0, 1) := by decide +kernel
theorem dX12_init__141 : decode cX12_init_ 141 = .ok (.getfield 395, 3) := by decide +kernel
theorem dX12_init__144 : decode cX12_init_ 144 = .ok (.iconst 2, 1) := by decide +kernel
theorem dX12_init__145 : decode cX12_init_ 145 = .ok (.iconst 0, 1) := by decide +kernel
theorem dX12_init__146 : decode cX12_init_ 146 = .ok (.iastore, 1) := by decide +kernel
theorem dX12_init__147 : decode cX12_init_ 147 = .ok (.iconst 0, 1) := by decide +kernel
theorem dX12_init__148 : decode cX12_init_ 148 = .ok (.istore_n 1, 1) := by decide +kernel
theorem dX12_init__149 : decode cX12_init_ 149 = .ok (.iload_n 1, 1) := by decide +kernel
theorem dX12_init__150 : decode cX12_init_ 150 = .ok (.bipush 60, 2) := by decide +kernel
theorem dX12_init__152 : decode cX12_init_ 152 = .ok (.if_icmp .ge 18, 3) := by decide +kernel
theorem dX12_init__155 : decode cX12_init_ 155 = .ok (.aload_n 0, 1) := by decide +kernel
theorem dX12_init__156 : decode cX12_init_ 156 = .ok (.getfield 395, 3) := by decide +kernel
theorem dX12_init__159 : decode cX12_init_ 159 = .ok (.iconst 4, 1) := by decide +kernel
theorem dX12_init__160 : decode cX12_init_ 160 = .ok (.iload_n 1, 1) := by decide +kernel
theorem dX12_init__161 : decode cX12_init_ 161 = .ok (.iadd, 1) := by decide +kernel
theorem dX12_init__162 : decode cX12_init_ 162 = .ok (.iconst 0, 1) := by decide +kernel
theorem dX12_init__163 : decode cX12_init_ 163 = .ok (.iastore, 1) := by decide +kernel
theorem dX12_init__164 : decode cX12_init_ 164 = .ok (.iinc 1 1, 3) := by decide +kernel
theorem dX12_init__167 : decode cX12_init_ 167 = .ok (.goto (-18), 3) := by decide +kernel
theorem dX12_init__170 : decode cX12_init_ 170 = .ok (.iconst 0, 1) := by decide +kernel
theorem dX12_init__171 : decode cX12_init_ 171 = .ok (.istore_n 1, 1) := by decide +kernel
theorem dX12_init__172 : decode cX12_init_ 172 = .ok (.iload_n 1, 1) := by decide +kernel
theorem dX12_init__173 : decode cX12_init_ 173 = .ok (.sipush 1380, 3) := by decide +kernel
theorem dX12_init__176 : decode cX12_init_ 176 = .ok (.if_icmp .ge 16, 3) := by decide +kernel
theorem dX12_init__179 : decode cX12_init_ 179 = .ok (.aload_n 0, 1) := by decide +kernel
theorem dX12_init__180 : decode cX12_init_ 180 = .ok (.getfield 408, 3) := by decide +kernel
theorem dX12_init__183 : decode cX12_init_ 183 = .ok (.iload_n 1, 1) := by decide +kernel
theorem dX12_init__184 : decode cX12_init_ 184 = .ok (.iconst 0, 1) := by decide +kernel
theorem dX12_init__185 : decode cX12_init_ 185 = .ok (.iastore, 1) := by decide +kernel
theorem dX12_init__186 : decode cX12_init_ 186 = .ok (.iinc 1 1, 3) := by decide +kernel
theorem dX12_init__189 : decode cX12_init_ 189 = .ok (.goto (-17), 3) := by decide +kernel
theorem dX12_init__192 : decode cX12_init_ 192 = .ok (.iconst 0, 1) := by decide +kernel
theorem dX12_init__193 : decode cX12_init_ 193 = .ok (.istore_n 1, 1) := by decide +kernel
theorem dX12_init__194 : decode cX12_init_ 194 = .ok (.iload_n 1, 1) := by decide +kernel
theorem dX12_init__195 : decode cX12_init_ 195 = .ok (.bipush 8, 2) := by decide +kernel
theorem dX12_init__197 : decode cX12_init_ 197 = .ok (.if_icmp .ge 30, 3) := by decide +kernel
theorem dX12_init__200 : decode cX12_init_ 200 = .ok (.aload_n 0, 1) := by decide +kernel
theorem dX12_init__201 : decode cX12_init_ 201 = .ok (.getfield 417, 3) := by decide +kernel
theorem dX12_init__204 : decode cX12_init_ 204 = .ok (.iload_n 1, 1) := by decide +kernel
theorem dX12_init__205 : decode cX12_init_ 205 = .ok (.iconst 0, 1) := by decide +kernel
theorem dX12_init__206 : decode cX12_init_ 206 = .ok (.iastore, 1) := by decide +kernel
theorem dX12_init__207 : decode cX12_init_ 207 = .ok (.aload_n 0, 1) := by decide +kernel
theorem dX12_init__208 : decode cX12_init_ 208 = .ok (.getfield 420, 3) := by decide +kernel
theorem dX12_init__211 : decode cX12_init_ 211 = .ok (.iload_n 1, 1) := by decide +kernel
theorem dX12_init__212 : decode cX12_init_ 212 = .ok (.iconst 0, 1) := by decide +kernel
theorem dX12_init__213 : decode cX12_init_ 213 = .ok (.iastore, 1) := by decide +kernel
theorem dX12_init__214 : decode cX12_init_ 214 = .ok (.aload_n 0, 1) := by decide +kernel
theorem dX12_init__215 : decode cX12_init_ 215 = .ok (.getfield 423, 3) := by decide +kernel
theorem dX12_init__218 : decode cX12_init_ 218 = .ok (.iload_n 1, 1) := by decide +kernel
theorem dX12_init__219 : decode cX12_init_ 219 = .ok (.iconst 0, 1) := by decide +kernel
theorem dX12_init__220 : decode cX12_init_ 220 = .ok (.iastore, 1) := by decide +kernel
theorem dX12_init__221 : decode cX12_init_ 221 = .ok (.iinc 1 1, 3) := by decide +kernel
theorem dX12_init__224 : decode cX12_init_ 224 = .ok (.goto (-30), 3) := by decide +kernel
theorem dX12_init__227 : decode cX12_init_ 227 = .ok (.return_, 1) := by decide +kernel
theorem dX8_init_0 : decode cX8_init 0 = .ok (.aload_n 0, 1) := by decide +kernel
theorem dX8_init_1 : decode cX8_init 1 = .ok (.invokespecial 1, 3) := by decide +kernel
theorem dX8_init_4 : decode cX8_init 4 = .ok (.return_, 1) := by decide +kernel
theorem dX10_init_0 : decode cX10_init 0 = .ok (.aload_n 0, 1) := by decide +kernel
theorem dX10_init_1 : decode cX10_init 1 = .ok (.invokespecial 3, 3) := by decide +kernel
theorem dX10_init_4 : decode cX10_init 4 = .ok (.aload_n 0, 1) := by decide +kernel
theorem dX10_init_5 : decode cX10_init 5 = .ok (.bipush 72, 2) := by decide +kernel
theorem dX10_init_7 : decode cX10_init 7 = .ok (.newarray .int, 2) := by decide +kernel
theorem dX10_init_9 : decode cX10_init 9 = .ok (.putfield 9, 3) := by decide +kernel
theorem dX10_init_12 : decode cX10_init 12 = .ok (.aload_n 0, 1) := by decide +kernel
theorem dX10_init_13 : decode cX10_init 13 = .ok (.bipush 72, 2) := by decide +kernel
theorem dX10_init_15 : decode cX10_init 15 = .ok (.newarray .int, 2) := by decide +kernel
theorem dX10_init_17 : decode cX10_init 17 = .ok (.putfield 15, 3) := by decide +kernel
theorem dX10_init_20 : decode cX10_init 20 = .ok (.aload_n 0, 1) := by decide +kernel
theorem dX10_init_21 : decode cX10_init 21 = .ok (.bipush 72, 2) := by decide +kernel
theorem dX10_init_23 : decode cX10_init 23 = .ok (.newarray .int, 2) := by decide +kernel
theorem dX10_init_25 : decode cX10_init 25 = .ok (.putfield 18, 3) := by decide +kernel
theorem dX10_init_28 : decode cX10_init 28 = .ok (.aload_n 0, 1) := by decide +kernel
theorem dX10_init_29 : decode cX10_init 29 = .ok (.bipush 72, 2) := by decide +kernel
theorem dX10_init_31 : decode cX10_init 31 = .ok (.newarray .int, 2) := by decide +kernel
theorem dX10_init_33 : decode cX10_init 33 = .ok (.putfield 21, 3) := by decide +kernel
theorem dX10_init_36 : decode cX10_init 36 = .ok (.aload_n 0, 1) := by decide +kernel
theorem dX10_init_37 : decode cX10_init 37 = .ok (.bipush 72, 2) := by decide +kernel
theorem dX10_init_39 : decode cX10_init 39 = .ok (.newarray .int, 2) := by decide +kernel
theorem dX10_init_41 : decode cX10_init 41 = .ok (.putfield 24, 3) := by decide +kernel
theorem dX10_init_44 : decode cX10_init 44 = .ok (.aload_n 0, 1) := by decide +kernel
theorem dX10_init_45 : decode cX10_init 45 = .ok (.bipush 72, 2) := by decide +kernel
theorem dX10_init_47 : decode cX10_init 47 = .ok (.newarray .int, 2) := by decide +kernel
theorem dX10_init_49 : decode cX10_init 49 = .ok (.putfield 27, 3) := by decide +kernel
theorem dX10_init_52 : decode cX10_init 52 = .ok (.aload_n 0, 1) := by decide +kernel
theorem dX10_init_53 : decode cX10_init 53 = .ok (.bipush 40, 2) := by decide +kernel
theorem dX10_init_55 : decode cX10_init 55 = .ok (.newarray .int, 2) := by decide +kernel
theorem dX10_init_57 : decode cX10_init 57 = .ok (.putfield 30, 3) := by decide +kernel
theorem dX10_init_60 : decode cX10_init 60 = .ok (.aload_n 0, 1) := by decide +kernel
theorem dX10_init_61 : decode cX10_init 61 = .ok (.aload_n 1, 1) := by decide +kernel
theorem dX10_init_62 : decode cX10_init 62 = .ok (.putfield 33, 3) := by decide +kernel
theorem dX10_init_65 : decode cX10_init 65 = .ok (.return_, 1) := by decide +kernel
theorem dX6_init_0 : decode cX6_init 0 = .ok (.aload_n 0, 1) := by decide +kernel
theorem dX6_init_1 : decode cX6_init 1 = .ok (.invokespecial 3, 3) := by decide +kernel
theorem dX6_init_4 : decode cX6_init 4 = .ok (.aload_n 0, 1) := by decide +kernel
theorem dX6_init_5 : decode cX6_init 5 = .ok (.sipush 10400, 3) := by decide +kernel
theorem dX6_init_8 : decode cX6_init 8 = .ok (.newarray .byte, 2) := by decide +kernel
theorem dX6_init_10 : decode cX6_init 10 = .ok (.putfield 11, 3) := by decide +kernel
theorem dX6_init_13 : decode cX6_init 13 = .ok (.aload_n 0, 1) := by decide +kernel
theorem dX6_init_14 : decode cX6_init 14 = .ok (.aload_n 1, 1) := by decide +kernel
theorem dX6_init_15 : decode cX6_init 15 = .ok (.putfield 15, 3) := by decide +kernel
theorem dX6_init_18 : decode cX6_init 18 = .ok (.aload_n 0, 1) := by decide +kernel
theorem dX6_init_19 : decode cX6_init 19 = .ok (.aload_n 2, 1) := by decide +kernel
theorem dX6_init_20 : decode cX6_init 20 = .ok (.putfield 19, 3) := by decide +kernel
theorem dX6_init_23 : decode cX6_init 23 = .ok (.return_, 1) := by decide +kernel
theorem dX0_init_0 : decode cX0_init 0 = .ok (.aload_n 0, 1) := by decide +kernel
theorem dX0_init_1 : decode cX0_init 1 = .ok (.invokespecial 3, 3) := by decide +kernel
theorem dX0_init_4 : decode cX0_init 4 = .ok (.aload_n 0, 1) := by decide +kernel
theorem dX0_init_5 : decode cX0_init 5 = .ok (.sipush 8192, 3) := by decide +kernel
theorem dX0_init_8 : decode cX0_init 8 = .ok (.newarray .byte, 2) := by decide +kernel
theorem dX0_init_10 : decode cX0_init 10 = .ok (.putfield 9, 3) := by decide +kernel
theorem dX0_init_13 : decode cX0_init 13 = .ok (.aload_n 0, 1) := by decide +kernel
theorem dX0_init_14 : decode cX0_init 14 = .ok (.sipush 2048, 3) := by decide +kernel
theorem dX0_init_17 : decode cX0_init 17 = .ok (.newarray .int, 2) := by decide +kernel
theorem dX0_init_19 : decode cX0_init 19 = .ok (.putfield 15, 3) := by decide +kernel
theorem dX0_init_22 : decode cX0_init 22 = .ok (.aload_n 0, 1) := by decide +kernel
theorem dX0_init_23 : decode cX0_init 23 = .ok (.bipush 8, 2) := by decide +kernel
theorem dX0_init_25 : decode cX0_init 25 = .ok (.newarray .int, 2) := by decide +kernel
theorem dX0_init_27 : decode cX0_init 27 = .ok (.putfield 19, 3) := by decide +kernel
theorem dX0_init_30 : decode cX0_init 30 = .ok (.aload_n 0, 1) := by decide +kernel
theorem dX0_init_31 : decode cX0_init 31 = .ok (.aload_n 1, 1) := by decide +kernel
theorem dX0_init_32 : decode cX0_init 32 = .ok (.putfield 22, 3) := by decide +kernel
theorem dX0_init_35 : decode cX0_init 35 = .ok (.aload_n 0, 1) := by decide +kernel
theorem dX0_init_36 : decode cX0_init 36 = .ok (.aload_n 2, 1) := by decide +kernel
theorem dX0_init_37 : decode cX0_init 37 = .ok (.putfield 26, 3) := by decide +kernel
theorem dX0_init_40 : decode cX0_init 40 = .ok (.aload_n 0, 1) := by decide +kernel
theorem dX0_init_41 : decode cX0_init 41 = .ok (.aload_n 3, 1) := by decide +kernel
theorem dX0_init_42 : decode cX0_init 42 = .ok (.putfield 30, 3) := by decide +kernel
theorem dX0_init_45 : decode cX0_init 45 = .ok (.return_, 1) := by decide +kernel
theorem dX5_init_0 : decode cX5_init 0 = .ok (.aload_n 0, 1) := by decide +kernel
theorem dX5_init_1 : decode cX5_init 1 = .ok (.invokespecial 3, 3) := by decide +kernel
theorem dX5_init_4 : decode cX5_init 4 = .ok (.aload_n 0, 1) := by decide +kernel
theorem dX5_init_5 : decode cX5_init 5 = .ok (.sipush 256, 3) := by decide +kernel
theorem dX5_init_8 : decode cX5_init 8 = .ok (.newarray .int, 2) := by decide +kernel
theorem dX5_init_10 : decode cX5_init 10 = .ok (.putfield 9, 3) := by decide +kernel
theorem dX5_init_13 : decode cX5_init 13 = .ok (.aload_n 0, 1) := by decide +kernel
theorem dX5_init_14 : decode cX5_init 14 = .ok (.bipush 64, 2) := by decide +kernel
theorem dX5_init_16 : decode cX5_init 16 = .ok (.newarray .int, 2) := by decide +kernel
theorem dX5_init_18 : decode cX5_init 18 = .ok (.putfield 15, 3) := by decide +kernel
theorem dX5_init_21 : decode cX5_init 21 = .ok (.aload_n 0, 1) := by decide +kernel
theorem dX5_init_22 : decode cX5_init 22 = .ok (.aload_n 1, 1) := by decide +kernel
theorem dX5_init_23 : decode cX5_init 23 = .ok (.putfield 18, 3) := by decide +kernel
theorem dX5_init_26 : decode cX5_init 26 = .ok (.aload_n 0, 1) := by decide +kernel
theorem dX5_init_27 : decode cX5_init 27 = .ok (.aload_n 2, 1) := by decide +kernel
theorem dX5_init_28 : decode cX5_init 28 = .ok (.putfield 22, 3) := by decide +kernel
theorem dX5_init_31 : decode cX5_init 31 = .ok (.return_, 1) := by decide +kernel
theorem dX7_init_0 : decode cX7_init 0 = .ok (.aload_n 0, 1) := by decide +kernel
theorem dX7_init_1 : decode cX7_init 1 = .ok (.invokespecial 3, 3) := by decide +kernel
theorem dX7_init_4 : decode cX7_init 4 = .ok (.aload_n 0, 1) := by decide +kernel
theorem dX7_init_5 : decode cX7_init 5 = .ok (.sipush 1024, 3) := by decide +kernel
theorem dX7_init_8 : decode cX7_init 8 = .ok (.newarray .int, 2) := by decide +kernel
theorem dX7_init_10 : decode cX7_init 10 = .ok (.putfield 9, 3) := by decide +kernel
theorem dX7_init_13 : decode cX7_init 13 = .ok (.aload_n 0, 1) := by decide +kernel
theorem dX7_init_14 : decode cX7_init 14 = .ok (.sipush 256, 3) := by decide +kernel
theorem dX7_init_17 : decode cX7_init 17 = .ok (.newarray .long, 2) := by decide +kernel
theorem dX7_init_19 : decode cX7_init 19 = .ok (.putfield 15, 3) := by decide +kernel
theorem dX7_init_22 : decode cX7_init 22 = .ok (.aload_n 0, 1) := by decide +kernel
theorem dX7_init_23 : decode cX7_init 23 = .ok (.sipush 256, 3) := by decide +kernel
theorem dX7_init_26 : decode cX7_init 26 = .ok (.newarray .long, 2) := by decide +kernel
theorem dX7_init_28 : decode cX7_init 28 = .ok (.putfield 19, 3) := by decide +kernel
theorem dX7_init_31 : decode cX7_init 31 = .ok (.aload_n 0, 1) := by decide +kernel
theorem dX7_init_32 : decode cX7_init 32 = .ok (.sipush 256, 3) := by decide +kernel
theorem dX7_init_35 : decode cX7_init 35 = .ok (.newarray .int, 2) := by decide +kernel
theorem dX7_init_37 : decode cX7_init 37 = .ok (.putfield 22, 3) := by decide +kernel
theorem dX7_init_40 : decode cX7_init 40 = .ok (.aload_n 0, 1) := by decide +kernel
theorem dX7_init_41 : decode cX7_init 41 = .ok (.sipush 256, 3) := by decide +kernel
theorem dX7_init_44 : decode cX7_init 44 = .ok (.newarray .int, 2) := by decide +kernel
theorem dX7_init_46 : decode cX7_init 46 = .ok (.putfield 25, 3) := by decide +kernel
theorem dX7_init_49 : decode cX7_init 49 = .ok (.aload_n 0, 1) := by decide +kernel
theorem dX7_init_50 : decode cX7_init 50 = .ok (.sipush 256, 3) := by decide +kernel
theorem dX7_init_53 : decode cX7_init 53 = .ok (.newarray .int, 2) := by decide +kernel
theorem dX7_init_55 : decode cX7_init 55 = .ok (.putfield 28, 3) := by decide +kernel
theorem dX7_init_58 : decode cX7_init 58 = .ok (.aload_n 0, 1) := by decide +kernel
theorem dX7_init_59 : decode cX7_init 59 = .ok (.sipush 256, 3) := by decide +kernel
theorem dX7_init_62 : decode cX7_init 62 = .ok (.newarray .boolean, 2) := by decide +kernel
theorem dX7_init_64 : decode cX7_init 64 = .ok (.putfield 31, 3) := by decide +kernel
theorem dX7_init_67 : decode cX7_init 67 = .ok (.aload_n 0, 1) := by decide +kernel
theorem dX7_init_68 : decode cX7_init 68 = .ok (.bipush 42, 2) := by decide +kernel
theorem dX7_init_70 : decode cX7_init 70 = .ok (.newarray .int, 2) := by decide +kernel
theorem dX7_init_72 : decode cX7_init 72 = .ok (.putfield 35, 3) := by decide +kernel
theorem dX7_init_75 : decode cX7_init 75 = .ok (.aload_n 0, 1) := by decide +kernel
theorem dX7_init_76 : decode cX7_init 76 = .ok (.bipush 42, 2) := by decide +kernel
theorem dX7_init_78 : decode cX7_init 78 = .ok (.newarray .int, 2) := by decide +kernel
theorem dX7_init_80 : decode cX7_init 80 = .ok (.putfield 38, 3) := by decide +kernel
theorem dX7_init_83 : decode cX7_init 83 = .ok (.aload_n 0, 1) := by decide +kernel
theorem dX7_init_84 : decode cX7_init 84 = .ok (.bipush 42, 2) := by decide +kernel
theorem dX7_init_86 : decode cX7_init 86 = .ok (.newarray .int, 2) := by decide +kernel
theorem dX7_init_88 : decode cX7_init 88 = .ok (.putfield 41, 3) := by decide +kernel
theorem dX7_init_91 : decode cX7_init 91 = .ok (.aload_n 0, 1) := by decide +kernel
theorem dX7_init_92 : decode cX7_init 92 = .ok (.bipush 42, 2) := by decide +kernel
theorem dX7_init_94 : decode cX7_init 94 = .ok (.newarray .int, 2) := by decide +kernel
theorem dX7_init_96 : decode cX7_init 96 = .ok (.putfield 44, 3) := by decide +kernel
theorem dX7_init_99 : decode cX7_init 99 = .ok (.aload_n 0, 1) := by decide +kernel
theorem dX7_init_100 : decode cX7_init 100 = .ok (.bipush 42, 2) := by decide +kernel
theorem dX7_init_102 : decode cX7_init 102 = .ok (.newarray .int, 2) := by decide +kernel
theorem dX7_init_104 : decode cX7_init 104 = .ok (.putfield 47, 3) := by decide +kernel
theorem dX7_init_107 : decode cX7_init 107 = .ok (.aload_n 0, 1) := by decide +kernel
theorem dX7_init_108 : decode cX7_init 108 = .ok (.bipush 42, 2) := by decide +kernel
theorem dX7_init_110 : decode cX7_init 110 = .ok (.newarray .int, 2) := by decide +kernel
theorem dX7_init_112 : decode cX7_init 112 = .ok (.putfield 50, 3) := by decide +kernel
theorem dX7_init_115 : decode cX7_init 115 = .ok (.return_, 1) := by decide +kernel
theorem dX1_header_0 : decode cX1_header 0 = .ok (.iload_n 0, 1) := by decide +kernel
theorem dX1_header_1 : decode cX1_header 1 = .ok (.iload_n 1, 1) := by decide +kernel
theorem dX1_header_2 : decode cX1_header 2 = .ok (.iconst 3, 1) := by decide +kernel
theorem dX1_header_3 : decode cX1_header 3 = .ok (.ishl, 1) := by decide +kernel
theorem dX1_header_4 : decode cX1_header 4 = .ok (.ior, 1) := by decide +kernel
theorem dX1_header_5 : decode cX1_header 5 = .ok (.iload_n 2, 1) := by decide +kernel
theorem dX1_header_6 : decode cX1_header 6 = .ok (.iconst 4, 1) := by decide +kernel
theorem dX1_header_7 : decode cX1_header 7 = .ok (.ishl, 1) := by decide +kernel
theorem dX1_header_8 : decode cX1_header 8 = .ok (.ior, 1) := by decide +kernel
theorem dX1_header_9 : decode cX1_header 9 = .ok (.iload_n 3, 1) := by decide +kernel
theorem dX1_header_10 : decode cX1_header 10 = .ok (.bipush 16, 2) := by decide +kernel
theorem dX1_header_12 : decode cX1_header 12 = .ok (.ishl, 1) := by decide +kernel
theorem dX1_header_13 : decode cX1_header 13 = .ok (.ior, 1) := by decide +kernel
theorem dX1_header_14 : decode cX1_header 14 = .ok (.iload 4, 2) := by decide +kernel
theorem dX1_header_16 : decode cX1_header 16 = .ok (.bipush 26, 2) := by decide +kernel
theorem dX1_header_18 : decode cX1_header 18 = .ok (.ishl, 1) := by decide +kernel
theorem dX1_header_19 : decode cX1_header 19 = .ok (.ior, 1) := by decide +kernel
theorem dX1_header_20 : decode cX1_header 20 = .ok (.ireturn, 1) := by decide +kernel
theorem dX1_layEmpties_0 : decode cX1_layEmpties 0 = .ok (.aload_n 0, 1) := by decide +kernel
theorem dX1_layEmpties_1 : decode cX1_layEmpties 1 = .ok (.iconst 0, 1) := by decide +kernel
theorem dX1_layEmpties_2 : decode cX1_layEmpties 2 = .ok (.iconst 4, 1) := by decide +kernel
theorem dX1_layEmpties_3 : decode cX1_layEmpties 3 = .ok (.iconst 0, 1) := by decide +kernel
theorem dX1_layEmpties_4 : decode cX1_layEmpties 4 = .ok (.iconst 0, 1) := by decide +kernel
theorem dX1_layEmpties_5 : decode cX1_layEmpties 5 = .ok (.iconst 1, 1) := by decide +kernel
theorem dX1_layEmpties_6 : decode cX1_layEmpties 6 = .ok (.iconst 0, 1) := by decide +kernel
theorem dX1_layEmpties_7 : decode cX1_layEmpties 7 = .ok (.invokestatic 29, 3) := by decide +kernel
theorem dX1_layEmpties_10 : decode cX1_layEmpties 10 = .ok (.iastore, 1) := by decide +kernel
theorem dX1_layEmpties_11 : decode cX1_layEmpties 11 = .ok (.aload_n 0, 1) := by decide +kernel
theorem dX1_layEmpties_12 : decode cX1_layEmpties 12 = .ok (.iconst 1, 1) := by decide +kernel
theorem dX1_layEmpties_13 : decode cX1_layEmpties 13 = .ok (.iconst 5, 1) := by decide +kernel
theorem dX1_layEmpties_14 : decode cX1_layEmpties 14 = .ok (.iconst 0, 1) := by decide +kernel
theorem dX1_layEmpties_15 : decode cX1_layEmpties 15 = .ok (.iconst 0, 1) := by decide +kernel
theorem dX1_layEmpties_16 : decode cX1_layEmpties 16 = .ok (.iconst 1, 1) := by decide +kernel
theorem dX1_layEmpties_17 : decode cX1_layEmpties 17 = .ok (.iconst 1, 1) := by decide +kernel
theorem dX1_layEmpties_18 : decode cX1_layEmpties 18 = .ok (.invokestatic 29, 3) := by decide +kernel
theorem dX1_layEmpties_21 : decode cX1_layEmpties 21 = .ok (.iastore, 1) := by decide +kernel
theorem dX1_layEmpties_22 : decode cX1_layEmpties 22 = .ok (.aload_n 0, 1) := by decide +kernel
theorem dX1_layEmpties_23 : decode cX1_layEmpties 23 = .ok (.iconst 2, 1) := by decide +kernel
theorem dX1_layEmpties_24 : decode cX1_layEmpties 24 = .ok (.bipush 6, 2) := by decide +kernel
theorem dX1_layEmpties_26 : decode cX1_layEmpties 26 = .ok (.iconst 1, 1) := by decide +kernel
theorem dX1_layEmpties_27 : decode cX1_layEmpties 27 = .ok (.iconst 0, 1) := by decide +kernel
theorem dX1_layEmpties_28 : decode cX1_layEmpties 28 = .ok (.iconst 1, 1) := by decide +kernel
theorem dX1_layEmpties_29 : decode cX1_layEmpties 29 = .ok (.iconst 1, 1) := by decide +kernel
theorem dX1_layEmpties_30 : decode cX1_layEmpties 30 = .ok (.invokestatic 29, 3) := by decide +kernel
theorem dX1_layEmpties_33 : decode cX1_layEmpties 33 = .ok (.iastore, 1) := by decide +kernel
theorem dX1_layEmpties_34 : decode cX1_layEmpties 34 = .ok (.return_, 1) := by decide +kernel
theorem dX1_init_0 : decode cX1_init 0 = .ok (.aload_n 0, 1) := by decide +kernel
theorem dX1_init_1 : decode cX1_init 1 = .ok (.invokespecial 3, 3) := by decide +kernel
theorem dX1_init_4 : decode cX1_init 4 = .ok (.aload_n 0, 1) := by decide +kernel
theorem dX1_init_5 : decode cX1_init 5 = .ok (.sipush 16384, 3) := by decide +kernel
theorem dX1_init_8 : decode cX1_init 8 = .ok (.newarray .int, 2) := by decide +kernel
theorem dX1_init_10 : decode cX1_init 10 = .ok (.putfield 11, 3) := by decide +kernel
theorem dX1_init_13 : decode cX1_init 13 = .ok (.aload_n 0, 1) := by decide +kernel
theorem dX1_init_14 : decode cX1_init 14 = .ok (.iconst 3, 1) := by decide +kernel
theorem dX1_init_15 : decode cX1_init 15 = .ok (.putfield 15, 3) := by decide +kernel
theorem dX1_init_18 : decode cX1_init 18 = .ok (.aload_n 0, 1) := by decide +kernel
theorem dX1_init_19 : decode cX1_init 19 = .ok (.sipush 512, 3) := by decide +kernel
theorem dX1_init_22 : decode cX1_init 22 = .ok (.newarray .int, 2) := by decide +kernel
theorem dX1_init_24 : decode cX1_init 24 = .ok (.putfield 19, 3) := by decide +kernel
theorem dX1_init_27 : decode cX1_init 27 = .ok (.aload_n 0, 1) := by decide +kernel
theorem dX1_init_28 : decode cX1_init 28 = .ok (.sipush 512, 3) := by decide +kernel
theorem dX1_init_31 : decode cX1_init 31 = .ok (.newarray .int, 2) := by decide +kernel
theorem dX1_init_33 : decode cX1_init 33 = .ok (.putfield 22, 3) := by decide +kernel
theorem dX1_init_36 : decode cX1_init 36 = .ok (.aload_n 0, 1) := by decide +kernel
theorem dX1_init_37 : decode cX1_init 37 = .ok (.getfield 11, 3) := by decide +kernel
theorem dX1_init_40 : decode cX1_init 40 = .ok (.invokestatic 25, 3) := by decide +kernel
theorem dX1_init_43 : decode cX1_init 43 = .ok (.return_, 1) := by decide +kernel
theorem dX9_init_0 : decode cX9_init 0 = .ok (.aload_n 0, 1) := by decide +kernel
theorem dX9_init_1 : decode cX9_init 1 = .ok (.invokespecial 5, 3) := by decide +kernel
theorem dX9_init_4 : decode cX9_init 4 = .ok (.aload_n 0, 1) := by decide +kernel
theorem dX9_init_5 : decode cX9_init 5 = .ok (.bipush 9, 2) := by decide +kernel
theorem dX9_init_7 : decode cX9_init 7 = .ok (.anewarray 11, 3) := by decide +kernel
theorem dX9_init_10 : decode cX9_init 10 = .ok (.putfield 13, 3) := by decide +kernel
theorem dX9_init_13 : decode cX9_init 13 = .ok (.aload_n 0, 1) := by decide +kernel
theorem dX9_init_14 : decode cX9_init 14 = .ok (.sipush 1024, 3) := by decide +kernel
theorem dX9_init_17 : decode cX9_init 17 = .ok (.newarray .int, 2) := by decide +kernel
theorem dX9_init_19 : decode cX9_init 19 = .ok (.putfield 17, 3) := by decide +kernel
theorem dX9_init_22 : decode cX9_init 22 = .ok (.aload_n 0, 1) := by decide +kernel
theorem dX9_init_23 : decode cX9_init 23 = .ok (.bipush 9, 2) := by decide +kernel
theorem dX9_init_25 : decode cX9_init 25 = .ok (.newarray .int, 2) := by decide +kernel
theorem dX9_init_27 : decode cX9_init 27 = .ok (.putfield 21, 3) := by decide +kernel
theorem dX9_init_30 : decode cX9_init 30 = .ok (.aload_n 0, 1) := by decide +kernel
theorem dX9_init_31 : decode cX9_init 31 = .ok (.sipush 256, 3) := by decide +kernel
theorem dX9_init_34 : decode cX9_init 34 = .ok (.putfield 24, 3) := by decide +kernel
theorem dX9_init_37 : decode cX9_init 37 = .ok (.iconst 0, 1) := by decide +kernel
theorem dX9_init_38 : decode cX9_init 38 = .ok (.istore_n 1, 1) := by decide +kernel
theorem dX9_init_39 : decode cX9_init 39 = .ok (.iload_n 1, 1) := by decide +kernel
theorem dX9_init_40 : decode cX9_init 40 = .ok (.aload_n 0, 1) := by decide +kernel
theorem dX9_init_41 : decode cX9_init 41 = .ok (.getfield 13, 3) := by decide +kernel
theorem dX9_init_44 : decode cX9_init 44 = .ok (.arraylength, 1) := by decide +kernel
theorem dX9_init_45 : decode cX9_init 45 = .ok (.if_icmp .ge 22, 3) := by decide +kernel
theorem dX9_init_48 : decode cX9_init 48 = .ok (.aload_n 0, 1) := by decide +kernel
theorem dX9_init_49 : decode cX9_init 49 = .ok (.getfield 13, 3) := by decide +kernel
theorem dX9_init_52 : decode cX9_init 52 = .ok (.iload_n 1, 1) := by decide +kernel
theorem dX9_init_53 : decode cX9_init 53 = .ok (.new 11, 3) := by decide +kernel
theorem dX9_init_56 : decode cX9_init 56 = .ok (.dup, 1) := by decide +kernel
theorem dX9_init_57 : decode cX9_init 57 = .ok (.invokespecial 28, 3) := by decide +kernel
theorem dX9_init_60 : decode cX9_init 60 = .ok (.aastore, 1) := by decide +kernel
theorem dX9_init_61 : decode cX9_init 61 = .ok (.iinc 1 1, 3) := by decide +kernel
theorem dX9_init_64 : decode cX9_init 64 = .ok (.goto (-25), 3) := by decide +kernel
theorem dX9_init_67 : decode cX9_init 67 = .ok (.return_, 1) := by decide +kernel
theorem dX3_init_0 : decode cX3_init 0 = .ok (.aload_n 0, 1) := by decide +kernel
theorem dX3_init_1 : decode cX3_init 1 = .ok (.invokespecial 5, 3) := by decide +kernel
theorem dX3_init_4 : decode cX3_init 4 = .ok (.aload_n 0, 1) := by decide +kernel
theorem dX3_init_5 : decode cX3_init 5 = .ok (.new 11, 3) := by decide +kernel
theorem dX3_init_8 : decode cX3_init 8 = .ok (.dup, 1) := by decide +kernel
theorem dX3_init_9 : decode cX3_init 9 = .ok (.invokespecial 13, 3) := by decide +kernel
theorem dX3_init_12 : decode cX3_init 12 = .ok (.putfield 14, 3) := by decide +kernel
theorem dX3_init_15 : decode cX3_init 15 = .ok (.aload_n 0, 1) := by decide +kernel
theorem dX3_init_16 : decode cX3_init 16 = .ok (.sipush 1024, 3) := by decide +kernel
theorem dX3_init_19 : decode cX3_init 19 = .ok (.newarray .int, 2) := by decide +kernel
theorem dX3_init_21 : decode cX3_init 21 = .ok (.putfield 18, 3) := by decide +kernel
theorem dX3_init_24 : decode cX3_init 24 = .ok (.aload_n 0, 1) := by decide +kernel
theorem dX3_init_25 : decode cX3_init 25 = .ok (.sipush 512, 3) := by decide +kernel
theorem dX3_init_28 : decode cX3_init 28 = .ok (.newarray .int, 2) := by decide +kernel
theorem dX3_init_30 : decode cX3_init 30 = .ok (.putfield 22, 3) := by decide +kernel
theorem dX3_init_33 : decode cX3_init 33 = .ok (.aload_n 0, 1) := by decide +kernel
theorem dX3_init_34 : decode cX3_init 34 = .ok (.sipush 1024, 3) := by decide +kernel
theorem dX3_init_37 : decode cX3_init 37 = .ok (.newarray .byte, 2) := by decide +kernel
theorem dX3_init_39 : decode cX3_init 39 = .ok (.putfield 25, 3) := by decide +kernel
theorem dX3_init_42 : decode cX3_init 42 = .ok (.aload_n 0, 1) := by decide +kernel
theorem dX3_init_43 : decode cX3_init 43 = .ok (.sipush 3780, 3) := by decide +kernel
theorem dX3_init_46 : decode cX3_init 46 = .ok (.newarray .int, 2) := by decide +kernel
theorem dX3_init_48 : decode cX3_init 48 = .ok (.putfield 29, 3) := by decide +kernel
theorem dX3_init_51 : decode cX3_init 51 = .ok (.aload_n 0, 1) := by decide +kernel
theorem dX3_init_52 : decode cX3_init 52 = .ok (.new 32, 3) := by decide +kernel
theorem dX3_init_55 : decode cX3_init 55 = .ok (.dup, 1) := by decide +kernel
theorem dX3_init_56 : decode cX3_init 56 = .ok (.invokespecial 34, 3) := by decide +kernel
theorem dX3_init_59 : decode cX3_init 59 = .ok (.putfield 35, 3) := by decide +kernel
theorem dX3_init_62 : decode cX3_init 62 = .ok (.aload_n 0, 1) := by decide +kernel
theorem dX3_init_63 : decode cX3_init 63 = .ok (.aload_n 1, 1) := by decide +kernel
theorem dX3_init_64 : decode cX3_init 64 = .ok (.putfield 39, 3) := by decide +kernel
theorem dX3_init_67 : decode cX3_init 67 = .ok (.aload_n 0, 1) := by decide +kernel
theorem dX3_init_68 : decode cX3_init 68 = .ok (.aload_n 2, 1) := by decide +kernel
theorem dX3_init_69 : decode cX3_init 69 = .ok (.putfield 43, 3) := by decide +kernel
theorem dX3_init_72 : decode cX3_init 72 = .ok (.aload_n 0, 1) := by decide +kernel
theorem dX3_init_73 : decode cX3_init 73 = .ok (.aload_n 3, 1) := by decide +kernel
theorem dX3_init_74 : decode cX3_init 74 = .ok (.putfield 47, 3) := by decide +kernel
theorem dX3_init_77 : decode cX3_init 77 = .ok (.aload_n 0, 1) := by decide +kernel
theorem dX3_init_78 : decode cX3_init 78 = .ok (.aload 4, 2) := by decide +kernel
theorem dX3_init_80 : decode cX3_init 80 = .ok (.putfield 51, 3) := by decide +kernel
theorem dX3_init_83 : decode cX3_init 83 = .ok (.aload_n 0, 1) := by decide +kernel
theorem dX3_init_84 : decode cX3_init 84 = .ok (.aload 5, 2) := by decide +kernel
theorem dX3_init_86 : decode cX3_init 86 = .ok (.putfield 55, 3) := by decide +kernel
theorem dX3_init_89 : decode cX3_init 89 = .ok (.return_, 1) := by decide +kernel
theorem dX7_openUnit_0 : decode cX7_openUnit 0 = .ok (.aload_n 0, 1) := by decide +kernel
theorem dX7_openUnit_1 : decode cX7_openUnit 1 = .ok (.getfield 35, 3) := by decide +kernel
theorem dX7_openUnit_4 : decode cX7_openUnit 4 = .ok (.iload_n 1, 1) := by decide +kernel
theorem dX7_openUnit_5 : decode cX7_openUnit 5 = .ok (.aload_n 0, 1) := by decide +kernel
theorem dX7_openUnit_6 : decode cX7_openUnit 6 = .ok (.getfield 53, 3) := by decide +kernel
theorem dX7_openUnit_9 : decode cX7_openUnit 9 = .ok (.iastore, 1) := by decide +kernel
theorem dX7_openUnit_10 : decode cX7_openUnit 10 = .ok (.aload_n 0, 1) := by decide +kernel
theorem dX7_openUnit_11 : decode cX7_openUnit 11 = .ok (.getfield 38, 3) := by decide +kernel
theorem dX7_openUnit_14 : decode cX7_openUnit 14 = .ok (.iload_n 1, 1) := by decide +kernel
theorem dX7_openUnit_15 : decode cX7_openUnit 15 = .ok (.iconst 0, 1) := by decide +kernel
theorem dX7_openUnit_16 : decode cX7_openUnit 16 = .ok (.iastore, 1) := by decide +kernel
theorem dX7_openUnit_17 : decode cX7_openUnit 17 = .ok (.aload_n 0, 1) := by decide +kernel
theorem dX7_openUnit_18 : decode cX7_openUnit 18 = .ok (.getfield 41, 3) := by decide +kernel
theorem dX7_openUnit_21 : decode cX7_openUnit 21 = .ok (.iload_n 1, 1) := by decide +kernel
theorem dX7_openUnit_22 : decode cX7_openUnit 22 = .ok (.iconst 0, 1) := by decide +kernel
theorem dX7_openUnit_23 : decode cX7_openUnit 23 = .ok (.iastore, 1) := by decide +kernel
theorem dX7_openUnit_24 : decode cX7_openUnit 24 = .ok (.aload_n 0, 1) := by decide +kernel
theorem dX7_openUnit_25 : decode cX7_openUnit 25 = .ok (.getfield 44, 3) := by decide +kernel
theorem dX7_openUnit_28 : decode cX7_openUnit 28 = .ok (.iload_n 1, 1) := by decide +kernel
theorem dX7_openUnit_29 : decode cX7_openUnit 29 = .ok (.iconst 0, 1) := by decide +kernel
theorem dX7_openUnit_30 : decode cX7_openUnit 30 = .ok (.iastore, 1) := by decide +kernel
theorem dX7_openUnit_31 : decode cX7_openUnit 31 = .ok (.aload_n 0, 1) := by decide +kernel
theorem dX7_openUnit_32 : decode cX7_openUnit 32 = .ok (.getfield 47, 3) := by decide +kernel
theorem dX7_openUnit_35 : decode cX7_openUnit 35 = .ok (.iload_n 1, 1) := by decide +kernel
theorem dX7_openUnit_36 : decode cX7_openUnit 36 = .ok (.iconst 0, 1) := by decide +kernel
theorem dX7_openUnit_37 : decode cX7_openUnit 37 = .ok (.iastore, 1) := by decide +kernel
theorem dX7_openUnit_38 : decode cX7_openUnit 38 = .ok (.aload_n 0, 1) := by decide +kernel
theorem dX7_openUnit_39 : decode cX7_openUnit 39 = .ok (.getfield 50, 3) := by decide +kernel
theorem dX7_openUnit_42 : decode cX7_openUnit 42 = .ok (.iload_n 1, 1) := by decide +kernel
theorem dX7_openUnit_43 : decode cX7_openUnit 43 = .ok (.iconst 0, 1) := by decide +kernel
theorem dX7_openUnit_44 : decode cX7_openUnit 44 = .ok (.iastore, 1) := by decide +kernel
theorem dX7_openUnit_45 : decode cX7_openUnit 45 = .ok (.aload_n 0, 1) := by decide +kernel
theorem dX7_openUnit_46 : decode cX7_openUnit 46 = .ok (.iconst 0, 1) := by decide +kernel
theorem dX7_openUnit_47 : decode cX7_openUnit 47 = .ok (.putfield 82, 3) := by decide +kernel
theorem dX7_openUnit_50 : decode cX7_openUnit 50 = .ok (.return_, 1) := by decide +kernel
theorem dX7_emptyBehind_0 : decode cX7_emptyBehind 0 = .ok (.aload_n 0, 1) := by decide +kernel
theorem dX7_emptyBehind_1 : decode cX7_emptyBehind 1 = .ok (.aload_n 1, 1) := by decide +kernel
theorem dX7_emptyBehind_2 : decode cX7_emptyBehind 2 = .ok (.getfield 9, 3) := by decide +kernel
theorem dX7_emptyBehind_5 : decode cX7_emptyBehind 5 = .ok (.putfield 9, 3) := by decide +kernel
theorem dX7_emptyBehind_8 : decode cX7_emptyBehind 8 = .ok (.aload_n 0, 1) := by decide +kernel
theorem dX7_emptyBehind_9 : decode cX7_emptyBehind 9 = .ok (.aload_n 1, 1) := by decide +kernel
theorem dX7_emptyBehind_10 : decode cX7_emptyBehind 10 = .ok (.getfield 53, 3) := by decide +kernel
theorem dX7_emptyBehind_13 : decode cX7_emptyBehind 13 = .ok (.putfield 53, 3) := by decide +kernel
theorem dX7_emptyBehind_16 : decode cX7_emptyBehind 16 = .ok (.aload_n 0, 1) := by decide +kernel
theorem dX7_emptyBehind_17 : decode cX7_emptyBehind 17 = .ok (.aload_n 1, 1) := by decide +kernel
theorem dX7_emptyBehind_18 : decode cX7_emptyBehind 18 = .ok (.getfield 53, 3) := by decide +kernel
theorem dX7_emptyBehind_21 : decode cX7_emptyBehind 21 = .ok (.putfield 57, 3) := by decide +kernel
theorem dX7_emptyBehind_24 : decode cX7_emptyBehind 24 = .ok (.aload_n 0, 1) := by decide +kernel
theorem dX7_emptyBehind_25 : decode cX7_emptyBehind 25 = .ok (.iconst 0, 1) := by decide +kernel
theorem dX7_emptyBehind_26 : decode cX7_emptyBehind 26 = .ok (.putfield 60, 3) := by decide +kernel
theorem dX7_emptyBehind_29 : decode cX7_emptyBehind 29 = .ok (.aload_n 0, 1) := by decide +kernel
theorem dX7_emptyBehind_30 : decode cX7_emptyBehind 30 = .ok (.iconst 0, 1) := by decide +kernel
theorem dX7_emptyBehind_31 : decode cX7_emptyBehind 31 = .ok (.putfield 63, 3) := by decide +kernel
theorem dX7_emptyBehind_34 : decode cX7_emptyBehind 34 = .ok (.aload_n 0, 1) := by decide +kernel
theorem dX7_emptyBehind_35 : decode cX7_emptyBehind 35 = .ok (.iconst 0, 1) := by decide +kernel
theorem dX7_emptyBehind_36 : decode cX7_emptyBehind 36 = .ok (.putfield 66, 3) := by decide +kernel
theorem dX7_emptyBehind_39 : decode cX7_emptyBehind 39 = .ok (.aload_n 0, 1) := by decide +kernel
theorem dX7_emptyBehind_40 : decode cX7_emptyBehind 40 = .ok (.iconst 0, 1) := by decide +kernel
theorem dX7_emptyBehind_41 : decode cX7_emptyBehind 41 = .ok (.putfield 69, 3) := by decide +kernel
theorem dX7_emptyBehind_44 : decode cX7_emptyBehind 44 = .ok (.aload_n 0, 1) := by decide +kernel
theorem dX7_emptyBehind_45 : decode cX7_emptyBehind 45 = .ok (.iconst 0, 1) := by decide +kernel
theorem dX7_emptyBehind_46 : decode cX7_emptyBehind 46 = .ok (.invokevirtual 72, 3) := by decide +kernel
theorem dX7_emptyBehind_49 : decode cX7_emptyBehind 49 = .ok (.return_, 1) := by decide +kernel
