/-! decode rows -/
theorem dX12_program_0 : decode cX12_program 0 = .ok (.aload_n 0, 1) := by decide +kernel
theorem dX12_program_1 : decode cX12_program 1 = .ok (.iconst 0, 1) := by decide +kernel
theorem dX12_program_2 : decode cX12_program 2 = .ok (.putfield 993, 3) := by decide +kernel
theorem dX12_program_5 : decode cX12_program 5 = .ok (.aload_n 0, 1) := by decide +kernel
theorem dX12_program_6 : decode cX12_program 6 = .ok (.iconst 0, 1) := by decide +kernel
theorem dX12_program_7 : decode cX12_program 7 = .ok (.putfield 15, 3) := by decide +kernel
theorem dX12_program_10 : decode cX12_program 10 = .ok (.aload_n 0, 1) := by decide +kernel
theorem dX12_program_11 : decode cX12_program 11 = .ok (.getfield 1, 3) := by decide +kernel
theorem dX12_program_14 : decode cX12_program 14 = .ok (.istore_n 1, 1) := by decide +kernel
theorem dX12_program_15 : decode cX12_program 15 = .ok (.iconst 0, 1) := by decide +kernel
theorem dX12_program_16 : decode cX12_program 16 = .ok (.istore_n 2, 1) := by decide +kernel
theorem dX12_program_17 : decode cX12_program 17 = .ok (.iload_n 2, 1) := by decide +kernel
theorem dX12_program_18 : decode cX12_program 18 = .ok (.iload_n 1, 1) := by decide +kernel
theorem dX12_program_19 : decode cX12_program 19 = .ok (.if_icmp .ge 21, 3) := by decide +kernel
theorem dX12_program_22 : decode cX12_program 22 = .ok (.aload_n 0, 1) := by decide +kernel
theorem dX12_program_23 : decode cX12_program 23 = .ok (.getfield 1020, 3) := by decide +kernel
theorem dX12_program_26 : decode cX12_program 26 = .ok (.iload_n 2, 1) := by decide +kernel
theorem dX12_program_27 : decode cX12_program 27 = .ok (.aload_n 0, 1) := by decide +kernel
theorem dX12_program_28 : decode cX12_program 28 = .ok (.getfield 7, 3) := by decide +kernel
theorem dX12_program_31 : decode cX12_program 31 = .ok (.iload_n 2, 1) := by decide +kernel
theorem dX12_program_32 : decode cX12_program 32 = .ok (.iaload, 1) := by decide +kernel
theorem dX12_program_33 : decode cX12_program 33 = .ok (.iastore, 1) := by decide +kernel
theorem dX12_program_34 : decode cX12_program 34 = .ok (.iinc 2 1, 3) := by decide +kernel
theorem dX12_program_37 : decode cX12_program 37 = .ok (.goto (-20), 3) := by decide +kernel
theorem dX12_program_40 : decode cX12_program 40 = .ok (.aload_n 0, 1) := by decide +kernel
theorem dX12_program_41 : decode cX12_program 41 = .ok (.invokevirtual 1053, 3) := by decide +kernel
theorem dX12_program_44 : decode cX12_program 44 = .ok (.aload_n 0, 1) := by decide +kernel
theorem dX12_program_45 : decode cX12_program 45 = .ok (.getfield 11, 3) := by decide +kernel
theorem dX12_program_48 : decode cX12_program 48 = .ok (.ifCond .eq 31, 3) := by decide +kernel
theorem dX12_program_51 : decode cX12_program 51 = .ok (.aload_n 0, 1) := by decide +kernel
theorem dX12_program_52 : decode cX12_program 52 = .ok (.getfield 15, 3) := by decide +kernel
theorem dX12_program_55 : decode cX12_program 55 = .ok (.istore_n 2, 1) := by decide +kernel
theorem dX12_program_56 : decode cX12_program 56 = .ok (.aload_n 0, 1) := by decide +kernel
theorem dX12_program_57 : decode cX12_program 57 = .ok (.getfield 18, 3) := by decide +kernel
theorem dX12_program_60 : decode cX12_program 60 = .ok (.istore_n 3, 1) := by decide +kernel
theorem dX12_program_61 : decode cX12_program 61 = .ok (.aload_n 0, 1) := by decide +kernel
theorem dX12_program_62 : decode cX12_program 62 = .ok (.invokevirtual 1056, 3) := by decide +kernel
theorem dX12_program_65 : decode cX12_program 65 = .ok (.aload_n 0, 1) := by decide +kernel
theorem dX12_program_66 : decode cX12_program 66 = .ok (.iload_n 2, 1) := by decide +kernel
theorem dX12_program_67 : decode cX12_program 67 = .ok (.putfield 15, 3) := by decide +kernel
theorem dX12_program_70 : decode cX12_program 70 = .ok (.aload_n 0, 1) := by decide +kernel
theorem dX12_program_71 : decode cX12_program 71 = .ok (.iconst 0, 1) := by decide +kernel
theorem dX12_program_72 : decode cX12_program 72 = .ok (.putfield 1, 3) := by decide +kernel
theorem dX12_program_75 : decode cX12_program 75 = .ok (.iconst (-1), 1) := by decide +kernel
theorem dX12_program_76 : decode cX12_program 76 = .ok (.iload_n 3, 1) := by decide +kernel
theorem dX12_program_77 : decode cX12_program 77 = .ok (.isub, 1) := by decide +kernel
theorem dX12_program_78 : decode cX12_program 78 = .ok (.ireturn, 1) := by decide +kernel
theorem dX12_program_79 : decode cX12_program 79 = .ok (.iconst 0, 1) := by decide +kernel
theorem dX12_program_80 : decode cX12_program 80 = .ok (.istore_n 2, 1) := by decide +kernel
theorem dX12_program_81 : decode cX12_program 81 = .ok (.iload_n 2, 1) := by decide +kernel
theorem dX12_program_82 : decode cX12_program 82 = .ok (.iload_n 1, 1) := by decide +kernel
theorem dX12_program_83 : decode cX12_program 83 = .ok (.if_icmp .ge 21, 3) := by decide +kernel
theorem dX12_program_86 : decode cX12_program 86 = .ok (.aload_n 0, 1) := by decide +kernel
theorem dX12_program_87 : decode cX12_program 87 = .ok (.getfield 1010, 3) := by decide +kernel
theorem dX12_program_90 : decode cX12_program 90 = .ok (.iload_n 2, 1) := by decide +kernel
theorem dX12_program_91 : decode cX12_program 91 = .ok (.aload_n 0, 1) := by decide +kernel
theorem dX12_program_92 : decode cX12_program 92 = .ok (.getfield 1020, 3) := by decide +kernel
theorem dX12_program_95 : decode cX12_program 95 = .ok (.iload_n 2, 1) := by decide +kernel
theorem dX12_program_96 : decode cX12_program 96 = .ok (.iaload, 1) := by decide +kernel
theorem dX12_program_97 : decode cX12_program 97 = .ok (.iastore, 1) := by decide +kernel
theorem dX12_program_98 : decode cX12_program 98 = .ok (.iinc 2 1, 3) := by decide +kernel
theorem dX12_program_101 : decode cX12_program 101 = .ok (.goto (-20), 3) := by decide +kernel
theorem dX12_program_104 : decode cX12_program 104 = .ok (.aload_n 0, 1) := by decide +kernel
theorem dX12_program_105 : decode cX12_program 105 = .ok (.iload_n 1, 1) := by decide +kernel
theorem dX12_program_106 : decode cX12_program 106 = .ok (.putfield 1047, 3) := by decide +kernel
theorem dX12_program_109 : decode cX12_program 109 = .ok (.aload_n 0, 1) := by decide +kernel
theorem dX12_program_110 : decode cX12_program 110 = .ok (.iconst 0, 1) := by decide +kernel
theorem dX12_program_111 : decode cX12_program 111 = .ok (.putfield 1, 3) := by decide +kernel
theorem dX12_program_114 : decode cX12_program 114 = .ok (.aload_n 0, 1) := by decide +kernel
theorem dX12_program_115 : decode cX12_program 115 = .ok (.iconst 1, 1) := by decide +kernel
theorem dX12_program_116 : decode cX12_program 116 = .ok (.putfield 1041, 3) := by decide +kernel
theorem dX12_program_119 : decode cX12_program 119 = .ok (.aload_n 0, 1) := by decide +kernel
theorem dX12_program_120 : decode cX12_program 120 = .ok (.iconst 0, 1) := by decide +kernel
theorem dX12_program_121 : decode cX12_program 121 = .ok (.putfield 1044, 3) := by decide +kernel
theorem dX12_program_124 : decode cX12_program 124 = .ok (.aload_n 0, 1) := by decide +kernel
theorem dX12_program_125 : decode cX12_program 125 = .ok (.iconst 0, 1) := by decide +kernel
theorem dX12_program_126 : decode cX12_program 126 = .ok (.putfield 1029, 3) := by decide +kernel
theorem dX12_program_129 : decode cX12_program 129 = .ok (.aload_n 0, 1) := by decide +kernel
theorem dX12_program_130 : decode cX12_program 130 = .ok (.getfield 297, 3) := by decide +kernel
theorem dX12_program_133 : decode cX12_program 133 = .ok (.ireturn, 1) := by decide +kernel
theorem dX12_readProgram_0 : decode cX12_readProgram 0 = .ok (.aload_n 0, 1) := by decide +kernel
theorem dX12_readProgram_1 : decode cX12_readProgram 1 = .ok (.invokevirtual 984, 3) := by decide +kernel
theorem dX12_readProgram_4 : decode cX12_readProgram 4 = .ok (.aload_n 0, 1) := by decide +kernel
theorem dX12_readProgram_5 : decode cX12_readProgram 5 = .ok (.iconst 1, 1) := by decide +kernel
theorem dX12_readProgram_6 : decode cX12_readProgram 6 = .ok (.putfield 80, 3) := by decide +kernel
theorem dX12_readProgram_9 : decode cX12_readProgram 9 = .ok (.aload_n 0, 1) := by decide +kernel
theorem dX12_readProgram_10 : decode cX12_readProgram 10 = .ok (.iconst 0, 1) := by decide +kernel
theorem dX12_readProgram_11 : decode cX12_readProgram 11 = .ok (.putfield 105, 3) := by decide +kernel
theorem dX12_readProgram_14 : decode cX12_readProgram 14 = .ok (.aload_n 0, 1) := by decide +kernel
theorem dX12_readProgram_15 : decode cX12_readProgram 15 = .ok (.iconst 0, 1) := by decide +kernel
theorem dX12_readProgram_16 : decode cX12_readProgram 16 = .ok (.putfield 139, 3) := by decide +kernel
theorem dX12_readProgram_19 : decode cX12_readProgram 19 = .ok (.aload_n 0, 1) := by decide +kernel
theorem dX12_readProgram_20 : decode cX12_readProgram 20 = .ok (.iconst 0, 1) := by decide +kernel
theorem dX12_readProgram_21 : decode cX12_readProgram 21 = .ok (.putfield 346, 3) := by decide +kernel
theorem dX12_readProgram_24 : decode cX12_readProgram 24 = .ok (.aload_n 0, 1) := by decide +kernel
theorem dX12_readProgram_25 : decode cX12_readProgram 25 = .ok (.iconst 0, 1) := by decide +kernel
theorem dX12_readProgram_26 : decode cX12_readProgram 26 = .ok (.putfield 349, 3) := by decide +kernel
theorem dX12_readProgram_29 : decode cX12_readProgram 29 = .ok (.aload_n 0, 1) := by decide +kernel
theorem dX12_readProgram_30 : decode cX12_readProgram 30 = .ok (.iconst 0, 1) := by decide +kernel
theorem dX12_readProgram_31 : decode cX12_readProgram 31 = .ok (.putfield 297, 3) := by decide +kernel
theorem dX12_readProgram_34 : decode cX12_readProgram 34 = .ok (.aload_n 0, 1) := by decide +kernel
theorem dX12_readProgram_35 : decode cX12_readProgram 35 = .ok (.iconst 0, 1) := by decide +kernel
theorem dX12_readProgram_36 : decode cX12_readProgram 36 = .ok (.putfield 133, 3) := by decide +kernel
theorem dX12_readProgram_39 : decode cX12_readProgram 39 = .ok (.aload_n 0, 1) := by decide +kernel
theorem dX12_readProgram_40 : decode cX12_readProgram 40 = .ok (.getfield 157, 3) := by decide +kernel
theorem dX12_readProgram_43 : decode cX12_readProgram 43 = .ok (.iconst 0, 1) := by decide +kernel
theorem dX12_readProgram_44 : decode cX12_readProgram 44 = .ok (.iconst 0, 1) := by decide +kernel
theorem dX12_readProgram_45 : decode cX12_readProgram 45 = .ok (.iastore, 1) := by decide +kernel
theorem dX12_readProgram_46 : decode cX12_readProgram 46 = .ok (.aload_n 0, 1) := by decide +kernel
theorem dX12_readProgram_47 : decode cX12_readProgram 47 = .ok (.iconst 1, 1) := by decide +kernel
theorem dX12_readProgram_48 : decode cX12_readProgram 48 = .ok (.putfield 233, 3) := by decide +kernel
theorem dX12_readProgram_51 : decode cX12_readProgram 51 = .ok (.aload_n 0, 1) := by decide +kernel
theorem dX12_readProgram_52 : decode cX12_readProgram 52 = .ok (.iconst 1, 1) := by decide +kernel
theorem dX12_readProgram_53 : decode cX12_readProgram 53 = .ok (.putfield 230, 3) := by decide +kernel
theorem dX12_readProgram_56 : decode cX12_readProgram 56 = .ok (.aload_n 0, 1) := by decide +kernel
theorem dX12_readProgram_57 : decode cX12_readProgram 57 = .ok (.invokevirtual 71, 3) := by decide +kernel
theorem dX12_readProgram_60 : decode cX12_readProgram 60 = .ok (.aload_n 0, 1) := by decide +kernel
theorem dX12_readProgram_61 : decode cX12_readProgram 61 = .ok (.getfield 11, 3) := by decide +kernel
theorem dX12_readProgram_64 : decode cX12_readProgram 64 = .ok (.ifCond .ne 54, 3) := by decide +kernel
theorem dX12_readProgram_67 : decode cX12_readProgram 67 = .ok (.aload_n 0, 1) := by decide +kernel
theorem dX12_readProgram_68 : decode cX12_readProgram 68 = .ok (.iconst 0, 1) := by decide +kernel
theorem dX12_readProgram_69 : decode cX12_readProgram 69 = .ok (.invokevirtual 74, 3) := by decide +kernel
theorem dX12_readProgram_72 : decode cX12_readProgram 72 = .ok (.ifCond .ne 19, 3) := by decide +kernel
theorem dX12_readProgram_75 : decode cX12_readProgram 75 = .ok (.aload_n 0, 1) := by decide +kernel
theorem dX12_readProgram_76 : decode cX12_readProgram 76 = .ok (.iconst 2, 1) := by decide +kernel
theorem dX12_readProgram_77 : decode cX12_readProgram 77 = .ok (.invokevirtual 74, 3) := by decide +kernel
theorem dX12_readProgram_80 : decode cX12_readProgram 80 = .ok (.ifCond .ne 11, 3) := by decide +kernel
theorem dX12_readProgram_83 : decode cX12_readProgram 83 = .ok (.aload_n 0, 1) := by decide +kernel
theorem dX12_readProgram_84 : decode cX12_readProgram 84 = .ok (.iconst 1, 1) := by decide +kernel
theorem dX12_readProgram_85 : decode cX12_readProgram 85 = .ok (.invokevirtual 74, 3) := by decide +kernel
theorem dX12_readProgram_88 : decode cX12_readProgram 88 = .ok (.ifCond .eq 30, 3) := by decide +kernel
theorem dX12_readProgram_91 : decode cX12_readProgram 91 = .ok (.aload_n 0, 1) := by decide +kernel
theorem dX12_readProgram_92 : decode cX12_readProgram 92 = .ok (.iconst 0, 1) := by decide +kernel
theorem dX12_readProgram_93 : decode cX12_readProgram 93 = .ok (.invokevirtual 74, 3) := by decide +kernel
theorem dX12_readProgram_96 : decode cX12_readProgram 96 = .ok (.ifCond .eq 10, 3) := by decide +kernel
theorem dX12_readProgram_99 : decode cX12_readProgram 99 = .ok (.aload_n 0, 1) := by decide +kernel
theorem dX12_readProgram_100 : decode cX12_readProgram 100 = .ok (.invokevirtual 356, 3) := by decide +kernel
theorem dX12_readProgram_103 : decode cX12_readProgram 103 = .ok (.goto (-43), 3) := by decide +kernel
theorem dX12_readProgram_106 : decode cX12_readProgram 106 = .ok (.aload_n 0, 1) := by decide +kernel
theorem dX12_readProgram_107 : decode cX12_readProgram 107 = .ok (.aload_n 0, 1) := by decide +kernel
theorem dX12_readProgram_108 : decode cX12_readProgram 108 = .ok (.iconst 1, 1) := by decide +kernel
theorem dX12_readProgram_109 : decode cX12_readProgram 109 = .ok (.invokevirtual 74, 3) := by decide +kernel
theorem dX12_readProgram_112 : decode cX12_readProgram 112 = .ok (.invokevirtual 987, 3) := by decide +kernel
theorem dX12_readProgram_115 : decode cX12_readProgram 115 = .ok (.goto (-55), 3) := by decide +kernel
theorem dX12_readProgram_118 : decode cX12_readProgram 118 = .ok (.aload_n 0, 1) := by decide +kernel
theorem dX12_readProgram_119 : decode cX12_readProgram 119 = .ok (.aload_n 0, 1) := by decide +kernel
theorem dX12_readProgram_120 : decode cX12_readProgram 120 = .ok (.iconst (-1), 1) := by decide +kernel
theorem dX12_readProgram_121 : decode cX12_readProgram 121 = .ok (.invokevirtual 336, 3) := by decide +kernel
theorem dX12_readProgram_124 : decode cX12_readProgram 124 = .ok (.putfield 990, 3) := by decide +kernel
theorem dX12_readProgram_127 : decode cX12_readProgram 127 = .ok (.aload_n 0, 1) := by decide +kernel
theorem dX12_readProgram_128 : decode cX12_readProgram 128 = .ok (.getfield 11, 3) := by decide +kernel
theorem dX12_readProgram_131 : decode cX12_readProgram 131 = .ok (.ifCond .ne 14, 3) := by decide +kernel
theorem dX12_readProgram_134 : decode cX12_readProgram 134 = .ok (.aload_n 0, 1) := by decide +kernel
theorem dX12_readProgram_135 : decode cX12_readProgram 135 = .ok (.getfield 35, 3) := by decide +kernel
theorem dX12_readProgram_138 : decode cX12_readProgram 138 = .ok (.ifCond .eq 7, 3) := by decide +kernel
theorem dX12_readProgram_141 : decode cX12_readProgram 141 = .ok (.aload_n 0, 1) := by decide +kernel
theorem dX12_readProgram_142 : decode cX12_readProgram 142 = .ok (.invokevirtual 68, 3) := by decide +kernel
theorem dX12_readProgram_145 : decode cX12_readProgram 145 = .ok (.return_, 1) := by decide +kernel
theorem dX12_beginText_0 : decode cX12_beginText 0 = .ok (.aload_n 0, 1) := by decide +kernel
theorem dX12_beginText_1 : decode cX12_beginText 1 = .ok (.iconst 0, 1) := by decide +kernel
theorem dX12_beginText_2 : decode cX12_beginText 2 = .ok (.putfield 21, 3) := by decide +kernel
theorem dX12_beginText_5 : decode cX12_beginText 5 = .ok (.aload_n 0, 1) := by decide +kernel
theorem dX12_beginText_6 : decode cX12_beginText 6 = .ok (.iconst 0, 1) := by decide +kernel
theorem dX12_beginText_7 : decode cX12_beginText 7 = .ok (.putfield 11, 3) := by decide +kernel
theorem dX12_beginText_10 : decode cX12_beginText 10 = .ok (.aload_n 0, 1) := by decide +kernel
theorem dX12_beginText_11 : decode cX12_beginText 11 = .ok (.iconst 0, 1) := by decide +kernel
theorem dX12_beginText_12 : decode cX12_beginText 12 = .ok (.putfield 77, 3) := by decide +kernel
theorem dX12_beginText_15 : decode cX12_beginText 15 = .ok (.aload_n 0, 1) := by decide +kernel
theorem dX12_beginText_16 : decode cX12_beginText 16 = .ok (.iconst 0, 1) := by decide +kernel
theorem dX12_beginText_17 : decode cX12_beginText 17 = .ok (.putfield 114, 3) := by decide +kernel
theorem dX12_beginText_20 : decode cX12_beginText 20 = .ok (.aload_n 0, 1) := by decide +kernel
theorem dX12_beginText_21 : decode cX12_beginText 21 = .ok (.iconst 0, 1) := by decide +kernel
theorem dX12_beginText_22 : decode cX12_beginText 22 = .ok (.putfield 256, 3) := by decide +kernel
theorem dX12_beginText_25 : decode cX12_beginText 25 = .ok (.aload_n 0, 1) := by decide +kernel
theorem dX12_beginText_26 : decode cX12_beginText 26 = .ok (.iconst 0, 1) := by decide +kernel
theorem dX12_beginText_27 : decode cX12_beginText 27 = .ok (.putfield 321, 3) := by decide +kernel
theorem dX12_beginText_30 : decode cX12_beginText 30 = .ok (.return_, 1) := by decide +kernel
theorem dX12_take_0 : decode cX12_take 0 = .ok (.aload_n 0, 1) := by decide +kernel
theorem dX12_take_1 : decode cX12_take 1 = .ok (.invokevirtual 28, 3) := by decide +kernel
theorem dX12_take_4 : decode cX12_take 4 = .ok (.aload_n 0, 1) := by decide +kernel
theorem dX12_take_5 : decode cX12_take 5 = .ok (.aload_n 0, 1) := by decide +kernel
theorem dX12_take_6 : decode cX12_take 6 = .ok (.getfield 21, 3) := by decide +kernel
theorem dX12_take_9 : decode cX12_take 9 = .ok (.putfield 32, 3) := by decide +kernel
theorem dX12_take_12 : decode cX12_take 12 = .ok (.aload_n 0, 1) := by decide +kernel
theorem dX12_take_13 : decode cX12_take 13 = .ok (.getfield 21, 3) := by decide +kernel
theorem dX12_take_16 : decode cX12_take 16 = .ok (.aload_n 0, 1) := by decide +kernel
theorem dX12_take_17 : decode cX12_take 17 = .ok (.getfield 1, 3) := by decide +kernel
theorem dX12_take_20 : decode cX12_take 20 = .ok (.if_icmp .ne 11, 3) := by decide +kernel
theorem dX12_take_23 : decode cX12_take 23 = .ok (.aload_n 0, 1) := by decide +kernel
theorem dX12_take_24 : decode cX12_take 24 = .ok (.iconst 0, 1) := by decide +kernel
theorem dX12_take_25 : decode cX12_take 25 = .ok (.putfield 35, 3) := by decide +kernel
theorem dX12_take_28 : decode cX12_take 28 = .ok (.goto 459, 3) := by decide +kernel
theorem dX12_take_31 : decode cX12_take 31 = .ok (.aload_n 0, 1) := by decide +kernel
theorem dX12_take_32 : decode cX12_take 32 = .ok (.aload_n 0, 1) := by decide +kernel
theorem dX12_take_33 : decode cX12_take 33 = .ok (.getfield 21, 3) := by decide +kernel
theorem dX12_take_36 : decode cX12_take 36 = .ok (.invokevirtual 24, 3) := by decide +kernel
theorem dX12_take_39 : decode cX12_take 39 = .ok (.invokestatic 38, 3) := by decide +kernel
theorem dX12_take_42 : decode cX12_take 42 = .ok (.ifCond .eq 112, 3) := by decide +kernel
theorem dX12_take_45 : decode cX12_take 45 = .ok (.aload_n 0, 1) := by decide +kernel
theorem dX12_take_46 : decode cX12_take 46 = .ok (.aload_n 0, 1) := by decide +kernel
theorem dX12_take_47 : decode cX12_take 47 = .ok (.getfield 21, 3) := by decide +kernel
theorem dX12_take_50 : decode cX12_take 50 = .ok (.invokevirtual 24, 3) := by decide +kernel
theorem dX12_take_53 : decode cX12_take 53 = .ok (.invokestatic 38, 3) := by decide +kernel
theorem dX12_take_56 : decode cX12_take 56 = .ok (.ifCond .ne 30, 3) := by decide +kernel
theorem dX12_take_59 : decode cX12_take 59 = .ok (.aload_n 0, 1) := by decide +kernel
theorem dX12_take_60 : decode cX12_take 60 = .ok (.aload_n 0, 1) := by decide +kernel
theorem dX12_take_61 : decode cX12_take 61 = .ok (.getfield 21, 3) := by decide +kernel
theorem dX12_take_64 : decode cX12_take 64 = .ok (.invokevirtual 24, 3) := by decide +kernel
theorem dX12_take_67 : decode cX12_take 67 = .ok (.invokestatic 42, 3) := by decide +kernel
theorem dX12_take_70 : decode cX12_take 70 = .ok (.ifCond .ne 16, 3) := by decide +kernel
theorem dX12_take_73 : decode cX12_take 73 = .ok (.aload_n 0, 1) := by decide +kernel
theorem dX12_take_74 : decode cX12_take 74 = .ok (.aload_n 0, 1) := by decide +kernel
theorem dX12_take_75 : decode cX12_take 75 = .ok (.getfield 21, 3) := by decide +kernel
theorem dX12_take_78 : decode cX12_take 78 = .ok (.invokevirtual 24, 3) := by decide +kernel
theorem dX12_take_81 : decode cX12_take 81 = .ok (.bipush 95, 2) := by decide +kernel
theorem dX12_take_83 : decode cX12_take 83 = .ok (.if_icmp .ne 16, 3) := by decide +kernel
theorem dX12_take_86 : decode cX12_take 86 = .ok (.aload_n 0, 1) := by decide +kernel
theorem dX12_take_87 : decode cX12_take 87 = .ok (.dup, 1) := by decide +kernel
theorem dX12_take_88 : decode cX12_take 88 = .ok (.getfield 21, 3) := by decide +kernel
theorem dX12_take_91 : decode cX12_take 91 = .ok (.iconst 1, 1) := by decide +kernel
theorem dX12_take_92 : decode cX12_take 92 = .ok (.iadd, 1) := by decide +kernel
theorem dX12_take_93 : decode cX12_take 93 = .ok (.putfield 21, 3) := by decide +kernel
theorem dX12_take_96 : decode cX12_take 96 = .ok (.goto (-51), 3) := by decide +kernel
theorem dX12_take_99 : decode cX12_take 99 = .ok (.aload_n 0, 1) := by decide +kernel
theorem dX12_take_100 : decode cX12_take 100 = .ok (.aload_n 0, 1) := by decide +kernel
theorem dX12_take_101 : decode cX12_take 101 = .ok (.aload_n 0, 1) := by decide +kernel
theorem dX12_take_102 : decode cX12_take 102 = .ok (.getfield 32, 3) := by decide +kernel
theorem dX12_take_105 : decode cX12_take 105 = .ok (.aload_n 0, 1) := by decide +kernel
theorem dX12_take_106 : decode cX12_take 106 = .ok (.getfield 21, 3) := by decide +kernel
theorem dX12_take_109 : decode cX12_take 109 = .ok (.invokevirtual 45, 3) := by decide +kernel
theorem dX12_take_112 : decode cX12_take 112 = .ok (.putfield 49, 3) := by decide +kernel
theorem dX12_take_115 : decode cX12_take 115 = .ok (.aload_n 0, 1) := by decide +kernel
theorem dX12_take_116 : decode cX12_take 116 = .ok (.aload_n 0, 1) := by decide +kernel
theorem dX12_take_117 : decode cX12_take 117 = .ok (.getfield 21, 3) := by decide +kernel
theorem dX12_take_120 : decode cX12_take 120 = .ok (.aload_n 0, 1) := by decide +kernel
theorem dX12_take_121 : decode cX12_take 121 = .ok (.getfield 32, 3) := by decide +kernel
theorem dX12_take_124 : decode cX12_take 124 = .ok (.isub, 1) := by decide +kernel
theorem dX12_take_125 : decode cX12_take 125 = .ok (.bipush 16, 2) := by decide +kernel
theorem dX12_take_127 : decode cX12_take 127 = .ok (.if_icmp .le 8, 3) := by decide +kernel
theorem dX12_take_130 : decode cX12_take 130 = .ok (.bipush 6, 2) := by decide +kernel
theorem dX12_take_132 : decode cX12_take 132 = .ok (.goto 16, 3) := by decide +kernel
theorem dX12_take_135 : decode cX12_take 135 = .ok (.aload_n 0, 1) := by decide +kernel
theorem dX12_take_136 : decode cX12_take 136 = .ok (.getfield 49, 3) := by decide +kernel
theorem dX12_take_139 : decode cX12_take 139 = .ok (.iconst (-1), 1) := by decide +kernel
theorem dX12_take_140 : decode cX12_take 140 = .ok (.if_icmp .ne 7, 3) := by decide +kernel
theorem dX12_take_143 : decode cX12_take 143 = .ok (.iconst 1, 1) := by decide +kernel
theorem dX12_take_144 : decode cX12_take 144 = .ok (.goto 4, 3) := by decide +kernel
theorem dX12_take_147 : decode cX12_take 147 = .ok (.iconst 5, 1) := by decide +kernel
theorem dX12_take_148 : decode cX12_take 148 = .ok (.putfield 35, 3) := by decide +kernel
theorem dX12_take_151 : decode cX12_take 151 = .ok (.goto 336, 3) := by decide +kernel
theorem dX12_take_154 : decode cX12_take 154 = .ok (.aload_n 0, 1) := by decide +kernel
theorem dX12_take_155 : decode cX12_take 155 = .ok (.aload_n 0, 1) := by decide +kernel
theorem dX12_take_156 : decode cX12_take 156 = .ok (.getfield 21, 3) := by decide +kernel
theorem dX12_take_159 : decode cX12_take 159 = .ok (.invokevirtual 24, 3) := by decide +kernel
theorem dX12_take_162 : decode cX12_take 162 = .ok (.invokestatic 42, 3) := by decide +kernel
theorem dX12_take_165 : decode cX12_take 165 = .ok (.ifCond .eq 57, 3) := by decide +kernel
theorem dX12_take_168 : decode cX12_take 168 = .ok (.aload_n 0, 1) := by decide +kernel
theorem dX12_take_169 : decode cX12_take 169 = .ok (.aload_n 0, 1) := by decide +kernel
theorem dX12_take_170 : decode cX12_take 170 = .ok (.getfield 21, 3) := by decide +kernel
theorem dX12_take_173 : decode cX12_take 173 = .ok (.invokevirtual 24, 3) := by decide +kernel
theorem dX12_take_176 : decode cX12_take 176 = .ok (.invokestatic 42, 3) := by decide +kernel
theorem dX12_take_179 : decode cX12_take 179 = .ok (.ifCond .eq 16, 3) := by decide +kernel
theorem dX12_take_182 : decode cX12_take 182 = .ok (.aload_n 0, 1) := by decide +kernel
theorem dX12_take_183 : decode cX12_take 183 = .ok (.dup, 1) := by decide +kernel
theorem dX12_take_184 : decode cX12_take 184 = .ok (.getfield 21, 3) := by decide +kernel
theorem dX12_take_187 : decode cX12_take 187 = .ok (.iconst 1, 1) := by decide +kernel
theorem dX12_take_188 : decode cX12_take 188 = .ok (.iadd, 1) := by decide +kernel
theorem dX12_take_189 : decode cX12_take 189 = .ok (.putfield 21, 3) := by decide +kernel
theorem dX12_take_192 : decode cX12_take 192 = .ok (.goto (-24), 3) := by decide +kernel
theorem dX12_take_195 : decode cX12_take 195 = .ok (.aload_n 0, 1) := by decide +kernel
theorem dX12_take_196 : decode cX12_take 196 = .ok (.aload_n 0, 1) := by decide +kernel
theorem dX12_take_197 : decode cX12_take 197 = .ok (.getfield 21, 3) := by decide +kernel
theorem dX12_take_200 : decode cX12_take 200 = .ok (.aload_n 0, 1) := by decide +kernel
theorem dX12_take_201 : decode cX12_take 201 = .ok (.getfield 32, 3) := by decide +kernel
theorem dX12_take_204 : decode cX12_take 204 = .ok (.isub, 1) := by decide +kernel
theorem dX12_take_205 : decode cX12_take 205 = .ok (.bipush 60, 2) := by decide +kernel
theorem dX12_take_207 : decode cX12_take 207 = .ok (.if_icmp .le 8, 3) := by decide +kernel
theorem dX12_take_210 : decode cX12_take 210 = .ok (.bipush 6, 2) := by decide +kernel
theorem dX12_take_212 : decode cX12_take 212 = .ok (.goto 4, 3) := by decide +kernel
theorem dX12_take_215 : decode cX12_take 215 = .ok (.iconst 2, 1) := by decide +kernel
theorem dX12_take_216 : decode cX12_take 216 = .ok (.putfield 35, 3) := by decide +kernel
theorem dX12_take_219 : decode cX12_take 219 = .ok (.goto 268, 3) := by decide +kernel
theorem dX12_take_222 : decode cX12_take 222 = .ok (.aload_n 0, 1) := by decide +kernel
theorem dX12_take_223 : decode cX12_take 223 = .ok (.aload_n 0, 1) := by decide +kernel
theorem dX12_take_224 : decode cX12_take 224 = .ok (.getfield 21, 3) := by decide +kernel
theorem dX12_take_227 : decode cX12_take 227 = .ok (.invokevirtual 24, 3) := by decide +kernel
theorem dX12_take_230 : decode cX12_take 230 = .ok (.bipush 34, 2) := by decide +kernel
theorem dX12_take_232 : decode cX12_take 232 = .ok (.if_icmp .ne 147, 3) := by decide +kernel
theorem dX12_take_235 : decode cX12_take 235 = .ok (.aload_n 0, 1) := by decide +kernel
theorem dX12_take_236 : decode cX12_take 236 = .ok (.dup, 1) := by decide +kernel
theorem dX12_take_237 : decode cX12_take 237 = .ok (.getfield 21, 3) := by decide +kernel
theorem dX12_take_240 : decode cX12_take 240 = .ok (.iconst 1, 1) := by decide +kernel
theorem dX12_take_241 : decode cX12_take 241 = .ok (.iadd, 1) := by decide +kernel
theorem dX12_take_242 : decode cX12_take 242 = .ok (.putfield 21, 3) := by decide +kernel
theorem dX12_take_245 : decode cX12_take 245 = .ok (.aload_n 0, 1) := by decide +kernel
theorem dX12_take_246 : decode cX12_take 246 = .ok (.getfield 21, 3) := by decide +kernel
theorem dX12_take_249 : decode cX12_take 249 = .ok (.aload_n 0, 1) := by decide +kernel
theorem dX12_take_250 : decode cX12_take 250 = .ok (.getfield 1, 3) := by decide +kernel
theorem dX12_take_253 : decode cX12_take 253 = .ok (.if_icmp .ge 44, 3) := by decide +kernel
theorem dX12_take_256 : decode cX12_take 256 = .ok (.aload_n 0, 1) := by decide +kernel
theorem dX12_take_257 : decode cX12_take 257 = .ok (.getfield 7, 3) := by decide +kernel
theorem dX12_take_260 : decode cX12_take 260 = .ok (.aload_n 0, 1) := by decide +kernel
theorem dX12_take_261 : decode cX12_take 261 = .ok (.getfield 21, 3) := by decide +kernel
theorem dX12_take_264 : decode cX12_take 264 = .ok (.iaload, 1) := by decide +kernel
theorem dX12_take_265 : decode cX12_take 265 = .ok (.bipush 34, 2) := by decide +kernel
theorem dX12_take_267 : decode cX12_take 267 = .ok (.if_icmp .eq 30, 3) := by decide +kernel
theorem dX12_take_270 : decode cX12_take 270 = .ok (.aload_n 0, 1) := by decide +kernel
theorem dX12_take_271 : decode cX12_take 271 = .ok (.getfield 7, 3) := by decide +kernel
theorem dX12_take_274 : decode cX12_take 274 = .ok (.aload_n 0, 1) := by decide +kernel
theorem dX12_take_275 : decode cX12_take 275 = .ok (.getfield 21, 3) := by decide +kernel
theorem dX12_take_278 : decode cX12_take 278 = .ok (.iaload, 1) := by decide +kernel
theorem dX12_take_279 : decode cX12_take 279 = .ok (.bipush 31, 2) := by decide +kernel
theorem dX12_take_281 : decode cX12_take 281 = .ok (.if_icmp .le 16, 3) := by decide +kernel
theorem dX12_take_284 : decode cX12_take 284 = .ok (.aload_n 0, 1) := by decide +kernel
theorem dX12_take_285 : decode cX12_take 285 = .ok (.dup, 1) := by decide +kernel
theorem dX12_take_286 : decode cX12_take 286 = .ok (.getfield 21, 3) := by decide +kernel
theorem dX12_take_289 : decode cX12_take 289 = .ok (.iconst 1, 1) := by decide +kernel
theorem dX12_take_290 : decode cX12_take 290 = .ok (.iadd, 1) := by decide +kernel
theorem dX12_take_291 : decode cX12_take 291 = .ok (.putfield 21, 3) := by decide +kernel
theorem dX12_take_294 : decode cX12_take 294 = .ok (.goto (-49), 3) := by decide +kernel
theorem dX12_take_297 : decode cX12_take 297 = .ok (.aload_n 0, 1) := by decide +kernel
theorem dX12_take_298 : decode cX12_take 298 = .ok (.getfield 21, 3) := by decide +kernel
theorem dX12_take_301 : decode cX12_take 301 = .ok (.aload_n 0, 1) := by decide +kernel
theorem dX12_take_302 : decode cX12_take 302 = .ok (.getfield 1, 3) := by decide +kernel
theorem dX12_take_305 : decode cX12_take 305 = .ok (.if_icmp .ge 21, 3) := by decide +kernel
theorem dX12_take_308 : decode cX12_take 308 = .ok (.aload_n 0, 1) := by decide +kernel
theorem dX12_take_309 : decode cX12_take 309 = .ok (.getfield 7, 3) := by decide +kernel
theorem dX12_take_312 : decode cX12_take 312 = .ok (.aload_n 0, 1) := by decide +kernel
theorem dX12_take_313 : decode cX12_take 313 = .ok (.getfield 21, 3) := by decide +kernel
theorem dX12_take_316 : decode cX12_take 316 = .ok (.iaload, 1) := by decide +kernel
theorem dX12_take_317 : decode cX12_take 317 = .ok (.bipush 34, 2) := by decide +kernel
theorem dX12_take_319 : decode cX12_take 319 = .ok (.if_icmp .ne 7, 3) := by decide +kernel
theorem dX12_take_322 : decode cX12_take 322 = .ok (.iconst 1, 1) := by decide +kernel
theorem dX12_take_323 : decode cX12_take 323 = .ok (.goto 4, 3) := by decide +kernel
theorem dX12_take_326 : decode cX12_take 326 = .ok (.iconst 0, 1) := by decide +kernel
theorem dX12_take_327 : decode cX12_take 327 = .ok (.istore_n 1, 1) := by decide +kernel
theorem dX12_take_328 : decode cX12_take 328 = .ok (.aload_n 0, 1) := by decide +kernel
theorem dX12_take_329 : decode cX12_take 329 = .ok (.iload_n 1, 1) := by decide +kernel
theorem dX12_take_330 : decode cX12_take 330 = .ok (.ifCond .eq 23, 3) := by decide +kernel
theorem dX12_take_333 : decode cX12_take 333 = .ok (.aload_n 0, 1) := by decide +kernel
theorem dX12_take_334 : decode cX12_take 334 = .ok (.getfield 21, 3) := by decide +kernel
theorem dX12_take_337 : decode cX12_take 337 = .ok (.aload_n 0, 1) := by decide +kernel
theorem dX12_take_338 : decode cX12_take 338 = .ok (.getfield 32, 3) := by decide +kernel
theorem dX12_take_341 : decode cX12_take 341 = .ok (.isub, 1) := by decide +kernel
theorem dX12_take_342 : decode cX12_take 342 = .ok (.iconst 1, 1) := by decide +kernel
theorem dX12_take_343 : decode cX12_take 343 = .ok (.isub, 1) := by decide +kernel
theorem dX12_take_344 : decode cX12_take 344 = .ok (.bipush 100, 2) := by decide +kernel
theorem dX12_take_346 : decode cX12_take 346 = .ok (.if_icmp .gt 7, 3) := by decide +kernel
theorem dX12_take_349 : decode cX12_take 349 = .ok (.iconst 3, 1) := by decide +kernel
theorem dX12_take_350 : decode cX12_take 350 = .ok (.goto 5, 3) := by decide +kernel
theorem dX12_take_353 : decode cX12_take 353 = .ok (.bipush 6, 2) := by decide +kernel
theorem dX12_take_355 : decode cX12_take 355 = .ok (.putfield 35, 3) := by decide +kernel
theorem dX12_take_358 : decode cX12_take 358 = .ok (.aload_n 0, 1) := by decide +kernel
theorem dX12_take_359 : decode cX12_take 359 = .ok (.dup, 1) := by decide +kernel
theorem dX12_take_360 : decode cX12_take 360 = .ok (.getfield 21, 3) := by decide +kernel
theorem dX12_take_363 : decode cX12_take 363 = .ok (.iload_n 1, 1) := by decide +kernel
theorem dX12_take_364 : decode cX12_take 364 = .ok (.ifCond .eq 7, 3) := by decide +kernel
theorem dX12_take_367 : decode cX12_take 367 = .ok (.iconst 1, 1) := by decide +kernel
theorem dX12_take_368 : decode cX12_take 368 = .ok (.goto 4, 3) := by decide +kernel
theorem dX12_take_371 : decode cX12_take 371 = .ok (.iconst 0, 1) := by decide +kernel
theorem dX12_take_372 : decode cX12_take 372 = .ok (.iadd, 1) := by decide +kernel
theorem dX12_take_373 : decode cX12_take 373 = .ok (.putfield 21, 3) := by decide +kernel
theorem dX12_take_376 : decode cX12_take 376 = .ok (.goto 111, 3) := by decide +kernel
theorem dX12_take_379 : decode cX12_take 379 = .ok (.aload_n 0, 1) := by decide +kernel
theorem dX12_take_380 : decode cX12_take 380 = .ok (.aload_n 0, 1) := by decide +kernel
theorem dX12_take_381 : decode cX12_take 381 = .ok (.aload_n 0, 1) := by decide +kernel
theorem dX12_take_382 : decode cX12_take 382 = .ok (.getfield 21, 3) := by decide +kernel
theorem dX12_take_385 : decode cX12_take 385 = .ok (.invokevirtual 24, 3) := by decide +kernel
theorem dX12_take_388 : decode cX12_take 388 = .ok (.aload_n 0, 1) := by decide +kernel
theorem dX12_take_389 : decode cX12_take 389 = .ok (.aload_n 0, 1) := by decide +kernel
theorem dX12_take_390 : decode cX12_take 390 = .ok (.getfield 21, 3) := by decide +kernel
theorem dX12_take_393 : decode cX12_take 393 = .ok (.iconst 1, 1) := by decide +kernel
theorem dX12_take_394 : decode cX12_take 394 = .ok (.iadd, 1) := by decide +kernel
theorem dX12_take_395 : decode cX12_take 395 = .ok (.invokevirtual 24, 3) := by decide +kernel
theorem dX12_take_398 : decode cX12_take 398 = .ok (.invokestatic 52, 3) := by decide +kernel
theorem dX12_take_401 : decode cX12_take 401 = .ok (.putfield 49, 3) := by decide +kernel
theorem dX12_take_404 : decode cX12_take 404 = .ok (.aload_n 0, 1) := by decide +kernel
theorem dX12_take_405 : decode cX12_take 405 = .ok (.aload_n 0, 1) := by decide +kernel
theorem dX12_take_406 : decode cX12_take 406 = .ok (.getfield 49, 3) := by decide +kernel
theorem dX12_take_409 : decode cX12_take 409 = .ok (.ifCond .ne 8, 3) := by decide +kernel
theorem dX12_take_412 : decode cX12_take 412 = .ok (.bipush 6, 2) := by decide +kernel
theorem dX12_take_414 : decode cX12_take 414 = .ok (.goto 4, 3) := by decide +kernel
theorem dX12_take_417 : decode cX12_take 417 = .ok (.iconst 4, 1) := by decide +kernel
theorem dX12_take_418 : decode cX12_take 418 = .ok (.putfield 35, 3) := by decide +kernel
theorem dX12_take_421 : decode cX12_take 421 = .ok (.aload_n 0, 1) := by decide +kernel
theorem dX12_take_422 : decode cX12_take 422 = .ok (.dup, 1) := by decide +kernel
theorem dX12_take_423 : decode cX12_take 423 = .ok (.getfield 21, 3) := by decide +kernel
theorem dX12_take_426 : decode cX12_take 426 = .ok (.aload_n 0, 1) := by decide +kernel
theorem dX12_take_427 : decode cX12_take 427 = .ok (.getfield 49, 3) := by decide +kernel
theorem dX12_take_430 : decode cX12_take 430 = .ok (.iconst 1, 1) := by decide +kernel
theorem dX12_take_431 : decode cX12_take 431 = .ok (.if_icmp .eq 47, 3) := by decide +kernel
theorem dX12_take_434 : decode cX12_take 434 = .ok (.aload_n 0, 1) := by decide +kernel
theorem dX12_take_435 : decode cX12_take 435 = .ok (.getfield 49, 3) := by decide +kernel
theorem dX12_take_438 : decode cX12_take 438 = .ok (.iconst 5, 1) := by decide +kernel
theorem dX12_take_439 : decode cX12_take 439 = .ok (.if_icmp .eq 39, 3) := by decide +kernel
theorem dX12_take_442 : decode cX12_take 442 = .ok (.aload_n 0, 1) := by decide +kernel
theorem dX12_take_443 : decode cX12_take 443 = .ok (.getfield 49, 3) := by decide +kernel
theorem dX12_take_446 : decode cX12_take 446 = .ok (.bipush 16, 2) := by decide +kernel
theorem dX12_take_448 : decode cX12_take 448 = .ok (.if_icmp .eq 30, 3) := by decide +kernel
theorem dX12_take_451 : decode cX12_take 451 = .ok (.aload_n 0, 1) := by decide +kernel
theorem dX12_take_452 : decode cX12_take 452 = .ok (.getfield 49, 3) := by decide +kernel
theorem dX12_take_455 : decode cX12_take 455 = .ok (.bipush 18, 2) := by decide +kernel
theorem dX12_take_457 : decode cX12_take 457 = .ok (.if_icmp .eq 21, 3) := by decide +kernel
theorem dX12_take_460 : decode cX12_take 460 = .ok (.aload_n 0, 1) := by decide +kernel
theorem dX12_take_461 : decode cX12_take 461 = .ok (.getfield 49, 3) := by decide +kernel
theorem dX12_take_464 : decode cX12_take 464 = .ok (.bipush 20, 2) := by decide +kernel
theorem dX12_take_466 : decode cX12_take 466 = .ok (.if_icmp .eq 12, 3) := by decide +kernel
theorem dX12_take_469 : decode cX12_take 469 = .ok (.aload_n 0, 1) := by decide +kernel
theorem dX12_take_470 : decode cX12_take 470 = .ok (.getfield 49, 3) := by decide +kernel
theorem dX12_take_473 : decode cX12_take 473 = .ok (.bipush 22, 2) := by decide +kernel
theorem dX12_take_475 : decode cX12_take 475 = .ok (.if_icmp .ne 7, 3) := by decide +kernel
theorem dX12_take_478 : decode cX12_take 478 = .ok (.iconst 2, 1) := by decide +kernel
theorem dX12_take_479 : decode cX12_take 479 = .ok (.goto 4, 3) := by decide +kernel
theorem dX12_take_482 : decode cX12_take 482 = .ok (.iconst 1, 1) := by decide +kernel
theorem dX12_take_483 : decode cX12_take 483 = .ok (.iadd, 1) := by decide +kernel
theorem dX12_take_484 : decode cX12_take 484 = .ok (.putfield 21, 3) := by decide +kernel
theorem dX12_take_487 : decode cX12_take 487 = .ok (.aload_n 0, 1) := by decide +kernel
theorem dX12_take_488 : decode cX12_take 488 = .ok (.aload_n 0, 1) := by decide +kernel
theorem dX12_take_489 : decode cX12_take 489 = .ok (.getfield 21, 3) := by decide +kernel
theorem dX12_take_492 : decode cX12_take 492 = .ok (.putfield 55, 3) := by decide +kernel
theorem dX12_take_495 : decode cX12_take 495 = .ok (.aload_n 0, 1) := by decide +kernel
theorem dX12_take_496 : decode cX12_take 496 = .ok (.getfield 35, 3) := by decide +kernel
theorem dX12_take_499 : decode cX12_take 499 = .ok (.bipush 6, 2) := by decide +kernel
theorem dX12_take_501 : decode cX12_take 501 = .ok (.if_icmp .ne 12, 3) := by decide +kernel
theorem dX12_take_504 : decode cX12_take 504 = .ok (.aload_n 0, 1) := by decide +kernel
theorem dX12_take_505 : decode cX12_take 505 = .ok (.iconst 1, 1) := by decide +kernel
theorem dX12_take_506 : decode cX12_take 506 = .ok (.aload_n 0, 1) := by decide +kernel
theorem dX12_take_507 : decode cX12_take 507 = .ok (.getfield 32, 3) := by decide +kernel
theorem dX12_take_510 : decode cX12_take 510 = .ok (.invokevirtual 58, 3) := by decide +kernel
theorem dX12_take_513 : decode cX12_take 513 = .ok (.return_, 1) := by decide +kernel
theorem dX12_skip_0 : decode cX12_skip 0 = .ok (.iconst 1, 1) := by decide +kernel
theorem dX12_skip_1 : decode cX12_skip 1 = .ok (.istore_n 1, 1) := by decide +kernel
theorem dX12_skip_2 : decode cX12_skip 2 = .ok (.iload_n 1, 1) := by decide +kernel
theorem dX12_skip_3 : decode cX12_skip 3 = .ok (.ifCond .eq 124, 3) := by decide +kernel
theorem dX12_skip_6 : decode cX12_skip 6 = .ok (.aload_n 0, 1) := by decide +kernel
theorem dX12_skip_7 : decode cX12_skip 7 = .ok (.aload_n 0, 1) := by decide +kernel
theorem dX12_skip_8 : decode cX12_skip 8 = .ok (.getfield 21, 3) := by decide +kernel
theorem dX12_skip_11 : decode cX12_skip 11 = .ok (.invokevirtual 24, 3) := by decide +kernel
theorem dX12_skip_14 : decode cX12_skip 14 = .ok (.istore_n 2, 1) := by decide +kernel
theorem dX12_skip_15 : decode cX12_skip 15 = .ok (.aload_n 0, 1) := by decide +kernel
theorem dX12_skip_16 : decode cX12_skip 16 = .ok (.getfield 21, 3) := by decide +kernel
theorem dX12_skip_19 : decode cX12_skip 19 = .ok (.aload_n 0, 1) := by decide +kernel
theorem dX12_skip_20 : decode cX12_skip 20 = .ok (.getfield 1, 3) := by decide +kernel
theorem dX12_skip_23 : decode cX12_skip 23 = .ok (.if_icmp .ge 40, 3) := by decide +kernel
theorem dX12_skip_26 : decode cX12_skip 26 = .ok (.iload_n 2, 1) := by decide +kernel
theorem dX12_skip_27 : decode cX12_skip 27 = .ok (.bipush 9, 2) := by decide +kernel
theorem dX12_skip_29 : decode cX12_skip 29 = .ok (.if_icmp .eq 21, 3) := by decide +kernel
theorem dX12_skip_32 : decode cX12_skip 32 = .ok (.iload_n 2, 1) := by decide +kernel
theorem dX12_skip_33 : decode cX12_skip 33 = .ok (.bipush 10, 2) := by decide +kernel
theorem dX12_skip_35 : decode cX12_skip 35 = .ok (.if_icmp .eq 15, 3) := by decide +kernel
theorem dX12_skip_38 : decode cX12_skip 38 = .ok (.iload_n 2, 1) := by decide +kernel
theorem dX12_skip_39 : decode cX12_skip 39 = .ok (.bipush 13, 2) := by decide +kernel
theorem dX12_skip_41 : decode cX12_skip 41 = .ok (.if_icmp .eq 9, 3) := by decide +kernel
theorem dX12_skip_44 : decode cX12_skip 44 = .ok (.iload_n 2, 1) := by decide +kernel
theorem dX12_skip_45 : decode cX12_skip 45 = .ok (.bipush 32, 2) := by decide +kernel
theorem dX12_skip_47 : decode cX12_skip 47 = .ok (.if_icmp .ne 16, 3) := by decide +kernel
theorem dX12_skip_50 : decode cX12_skip 50 = .ok (.aload_n 0, 1) := by decide +kernel
theorem dX12_skip_51 : decode cX12_skip 51 = .ok (.dup, 1) := by decide +kernel
theorem dX12_skip_52 : decode cX12_skip 52 = .ok (.getfield 21, 3) := by decide +kernel
theorem dX12_skip_55 : decode cX12_skip 55 = .ok (.iconst 1, 1) := by decide +kernel
theorem dX12_skip_56 : decode cX12_skip 56 = .ok (.iadd, 1) := by decide +kernel
theorem dX12_skip_57 : decode cX12_skip 57 = .ok (.putfield 21, 3) := by decide +kernel
theorem dX12_skip_60 : decode cX12_skip 60 = .ok (.goto 64, 3) := by decide +kernel
theorem dX12_skip_63 : decode cX12_skip 63 = .ok (.iload_n 2, 1) := by decide +kernel
theorem dX12_skip_64 : decode cX12_skip 64 = .ok (.bipush 45, 2) := by decide +kernel
theorem dX12_skip_66 : decode cX12_skip 66 = .ok (.if_icmp .ne 56, 3) := by decide +kernel
theorem dX12_skip_69 : decode cX12_skip 69 = .ok (.aload_n 0, 1) := by decide +kernel
theorem dX12_skip_70 : decode cX12_skip 70 = .ok (.aload_n 0, 1) := by decide +kernel
theorem dX12_skip_71 : decode cX12_skip 71 = .ok (.getfield 21, 3) := by decide +kernel
theorem dX12_skip_74 : decode cX12_skip 74 = .ok (.iconst 1, 1) := by decide +kernel
theorem dX12_skip_75 : decode cX12_skip 75 = .ok (.iadd, 1) := by decide +kernel
theorem dX12_skip_76 : decode cX12_skip 76 = .ok (.invokevirtual 24, 3) := by decide +kernel
theorem dX12_skip_79 : decode cX12_skip 79 = .ok (.bipush 45, 2) := by decide +kernel
theorem dX12_skip_81 : decode cX12_skip 81 = .ok (.if_icmp .ne 41, 3) := by decide +kernel
theorem dX12_skip_84 : decode cX12_skip 84 = .ok (.aload_n 0, 1) := by decide +kernel
theorem dX12_skip_85 : decode cX12_skip 85 = .ok (.getfield 21, 3) := by decide +kernel
theorem dX12_skip_88 : decode cX12_skip 88 = .ok (.aload_n 0, 1) := by decide +kernel
theorem dX12_skip_89 : decode cX12_skip 89 = .ok (.getfield 1, 3) := by decide +kernel
theorem dX12_skip_92 : decode cX12_skip 92 = .ok (.if_icmp .ge 32, 3) := by decide +kernel
theorem dX12_skip_95 : decode cX12_skip 95 = .ok (.aload_n 0, 1) := by decide +kernel
theorem dX12_skip_96 : decode cX12_skip 96 = .ok (.getfield 7, 3) := by decide +kernel
theorem dX12_skip_99 : decode cX12_skip 99 = .ok (.aload_n 0, 1) := by decide +kernel
theorem dX12_skip_100 : decode cX12_skip 100 = .ok (.getfield 21, 3) := by decide +kernel
theorem dX12_skip_103 : decode cX12_skip 103 = .ok (.iaload, 1) := by decide +kernel
theorem dX12_skip_104 : decode cX12_skip 104 = .ok (.bipush 10, 2) := by decide +kernel
theorem dX12_skip_106 : decode cX12_skip 106 = .ok (.if_icmp .eq 18, 3) := by decide +kernel
theorem dX12_skip_109 : decode cX12_skip 109 = .ok (.aload_n 0, 1) := by decide +kernel
theorem dX12_skip_110 : decode cX12_skip 110 = .ok (.dup, 1) := by decide +kernel
theorem dX12_skip_111 : decode cX12_skip 111 = .ok (.getfield 21, 3) := by decide +kernel
theorem dX12_skip_114 : decode cX12_skip 114 = .ok (.iconst 1, 1) := by decide +kernel
theorem dX12_skip_115 : decode cX12_skip 115 = .ok (.iadd, 1) := by decide +kernel
theorem dX12_skip_116 : decode cX12_skip 116 = .ok (.putfield 21, 3) := by decide +kernel
theorem dX12_skip_119 : decode cX12_skip 119 = .ok (.goto (-35), 3) := by decide +kernel
theorem dX12_skip_122 : decode cX12_skip 122 = .ok (.iconst 0, 1) := by decide +kernel
theorem dX12_skip_123 : decode cX12_skip 123 = .ok (.istore_n 1, 1) := by decide +kernel
theorem dX12_skip_124 : decode cX12_skip 124 = .ok (.goto (-122), 3) := by decide +kernel
theorem dX12_skip_127 : decode cX12_skip 127 = .ok (.return_, 1) := by decide +kernel
theorem dX12_byteAt_0 : decode cX12_byteAt 0 = .ok (.iload_n 1, 1) := by decide +kernel
theorem dX12_byteAt_1 : decode cX12_byteAt 1 = .ok (.aload_n 0, 1) := by decide +kernel
theorem dX12_byteAt_2 : decode cX12_byteAt 2 = .ok (.getfield 1, 3) := by decide +kernel
theorem dX12_byteAt_5 : decode cX12_byteAt 5 = .ok (.if_icmp .ge 12, 3) := by decide +kernel
theorem dX12_byteAt_8 : decode cX12_byteAt 8 = .ok (.aload_n 0, 1) := by decide +kernel
theorem dX12_byteAt_9 : decode cX12_byteAt 9 = .ok (.getfield 7, 3) := by decide +kernel
theorem dX12_byteAt_12 : decode cX12_byteAt 12 = .ok (.iload_n 1, 1) := by decide +kernel
theorem dX12_byteAt_13 : decode cX12_byteAt 13 = .ok (.iaload, 1) := by decide +kernel
theorem dX12_byteAt_14 : decode cX12_byteAt 14 = .ok (.goto 4, 3) := by decide +kernel
theorem dX12_byteAt_17 : decode cX12_byteAt 17 = .ok (.iconst 0, 1) := by decide +kernel
theorem dX12_byteAt_18 : decode cX12_byteAt 18 = .ok (.ireturn, 1) := by decide +kernel
theorem dX12_isWord_0 : decode cX12_isWord 0 = .ok (.aload_n 0, 1) := by decide +kernel
theorem dX12_isWord_1 : decode cX12_isWord 1 = .ok (.getfield 35, 3) := by decide +kernel
theorem dX12_isWord_4 : decode cX12_isWord 4 = .ok (.iconst 5, 1) := by decide +kernel
theorem dX12_isWord_5 : decode cX12_isWord 5 = .ok (.if_icmp .ne 15, 3) := by decide +kernel
theorem dX12_isWord_8 : decode cX12_isWord 8 = .ok (.aload_n 0, 1) := by decide +kernel
theorem dX12_isWord_9 : decode cX12_isWord 9 = .ok (.getfield 49, 3) := by decide +kernel
theorem dX12_isWord_12 : decode cX12_isWord 12 = .ok (.iload_n 1, 1) := by decide +kernel
theorem dX12_isWord_13 : decode cX12_isWord 13 = .ok (.if_icmp .ne 7, 3) := by decide +kernel
theorem dX12_isWord_16 : decode cX12_isWord 16 = .ok (.iconst 1, 1) := by decide +kernel
theorem dX12_isWord_17 : decode cX12_isWord 17 = .ok (.goto 4, 3) := by decide +kernel
theorem dX12_isWord_20 : decode cX12_isWord 20 = .ok (.iconst 0, 1) := by decide +kernel
theorem dX12_isWord_21 : decode cX12_isWord 21 = .ok (.ireturn, 1) := by decide +kernel
theorem dX12_block_0 : decode cX12_block 0 = .ok (.iconst (-1), 1) := by decide +kernel
theorem dX12_block_1 : decode cX12_block 1 = .ok (.istore_n 2, 1) := by decide +kernel
theorem dX12_block_2 : decode cX12_block 2 = .ok (.iconst (-1), 1) := by decide +kernel
theorem dX12_block_3 : decode cX12_block 3 = .ok (.istore_n 3, 1) := by decide +kernel
theorem dX12_block_4 : decode cX12_block 4 = .ok (.aload_n 0, 1) := by decide +kernel
theorem dX12_block_5 : decode cX12_block 5 = .ok (.getfield 11, 3) := by decide +kernel
theorem dX12_block_8 : decode cX12_block 8 = .ok (.ifCond .ne 63, 3) := by decide +kernel
theorem dX12_block_11 : decode cX12_block 11 = .ok (.aload_n 0, 1) := by decide +kernel
theorem dX12_block_12 : decode cX12_block 12 = .ok (.invokevirtual 285, 3) := by decide +kernel
theorem dX12_block_15 : decode cX12_block 15 = .ok (.ifCond .ne 56, 3) := by decide +kernel
theorem dX12_block_18 : decode cX12_block 18 = .ok (.aload_n 0, 1) := by decide +kernel
theorem dX12_block_19 : decode cX12_block 19 = .ok (.invokevirtual 288, 3) := by decide +kernel
theorem dX12_block_22 : decode cX12_block 22 = .ok (.istore 4, 2) := by decide +kernel
theorem dX12_block_24 : decode cX12_block 24 = .ok (.aload_n 0, 1) := by decide +kernel
theorem dX12_block_25 : decode cX12_block 25 = .ok (.getfield 11, 3) := by decide +kernel
theorem dX12_block_28 : decode cX12_block 28 = .ok (.ifCond .eq 5, 3) := by decide +kernel
theorem dX12_block_31 : decode cX12_block 31 = .ok (.iload_n 2, 1) := by decide +kernel
theorem dX12_block_32 : decode cX12_block 32 = .ok (.ireturn, 1) := by decide +kernel
theorem dX12_block_33 : decode cX12_block 33 = .ok (.aload_n 0, 1) := by decide +kernel
theorem dX12_block_34 : decode cX12_block 34 = .ok (.getfield 291, 3) := by decide +kernel
theorem dX12_block_37 : decode cX12_block 37 = .ok (.aload_n 0, 1) := by decide +kernel
theorem dX12_block_38 : decode cX12_block 38 = .ok (.getfield 95, 3) := by decide +kernel
theorem dX12_block_41 : decode cX12_block 41 = .ok (.iload 4, 2) := by decide +kernel
theorem dX12_block_43 : decode cX12_block 43 = .ok (.iaload, 1) := by decide +kernel
theorem dX12_block_44 : decode cX12_block 44 = .ok (.iload_n 1, 1) := by decide +kernel
theorem dX12_block_45 : decode cX12_block 45 = .ok (.iastore, 1) := by decide +kernel
theorem dX12_block_46 : decode cX12_block 46 = .ok (.iload_n 2, 1) := by decide +kernel
theorem dX12_block_47 : decode cX12_block 47 = .ok (.iconst (-1), 1) := by decide +kernel
theorem dX12_block_48 : decode cX12_block 48 = .ok (.if_icmp .ne 9, 3) := by decide +kernel
theorem dX12_block_51 : decode cX12_block 51 = .ok (.iload 4, 2) := by decide +kernel
theorem dX12_block_53 : decode cX12_block 53 = .ok (.istore_n 2, 1) := by decide +kernel
theorem dX12_block_54 : decode cX12_block 54 = .ok (.goto 11, 3) := by decide +kernel
theorem dX12_block_57 : decode cX12_block 57 = .ok (.aload_n 0, 1) := by decide +kernel
theorem dX12_block_58 : decode cX12_block 58 = .ok (.getfield 98, 3) := by decide +kernel
theorem dX12_block_61 : decode cX12_block 61 = .ok (.iload_n 3, 1) := by decide +kernel
theorem dX12_block_62 : decode cX12_block 62 = .ok (.iload 4, 2) := by decide +kernel
theorem dX12_block_64 : decode cX12_block 64 = .ok (.iastore, 1) := by decide +kernel
theorem dX12_block_65 : decode cX12_block 65 = .ok (.iload 4, 2) := by decide +kernel
theorem dX12_block_67 : decode cX12_block 67 = .ok (.istore_n 3, 1) := by decide +kernel
theorem dX12_block_68 : decode cX12_block 68 = .ok (.goto (-64), 3) := by decide +kernel
theorem dX12_block_71 : decode cX12_block 71 = .ok (.iload_n 2, 1) := by decide +kernel
theorem dX12_block_72 : decode cX12_block 72 = .ok (.ireturn, 1) := by decide +kernel
theorem dX12_isBlockEnd_0 : decode cX12_isBlockEnd 0 = .ok (.aload_n 0, 1) := by decide +kernel
theorem dX12_isBlockEnd_1 : decode cX12_isBlockEnd 1 = .ok (.getfield 35, 3) := by decide +kernel
theorem dX12_isBlockEnd_4 : decode cX12_isBlockEnd 4 = .ok (.ifCond .eq 30, 3) := by decide +kernel
theorem dX12_isBlockEnd_7 : decode cX12_isBlockEnd 7 = .ok (.aload_n 0, 1) := by decide +kernel
theorem dX12_isBlockEnd_8 : decode cX12_isBlockEnd 8 = .ok (.bipush 6, 2) := by decide +kernel
theorem dX12_isBlockEnd_10 : decode cX12_isBlockEnd 10 = .ok (.invokevirtual 74, 3) := by decide +kernel
theorem dX12_isBlockEnd_13 : decode cX12_isBlockEnd 13 = .ok (.ifCond .ne 21, 3) := by decide +kernel
theorem dX12_isBlockEnd_16 : decode cX12_isBlockEnd 16 = .ok (.aload_n 0, 1) := by decide +kernel
theorem dX12_isBlockEnd_17 : decode cX12_isBlockEnd 17 = .ok (.bipush 9, 2) := by decide +kernel
theorem dX12_isBlockEnd_19 : decode cX12_isBlockEnd 19 = .ok (.invokevirtual 74, 3) := by decide +kernel
theorem dX12_isBlockEnd_22 : decode cX12_isBlockEnd 22 = .ok (.ifCond .ne 12, 3) := by decide +kernel
theorem dX12_isBlockEnd_25 : decode cX12_isBlockEnd 25 = .ok (.aload_n 0, 1) := by decide +kernel
theorem dX12_isBlockEnd_26 : decode cX12_isBlockEnd 26 = .ok (.bipush 10, 2) := by decide +kernel
theorem dX12_isBlockEnd_28 : decode cX12_isBlockEnd 28 = .ok (.invokevirtual 74, 3) := by decide +kernel
theorem dX12_isBlockEnd_31 : decode cX12_isBlockEnd 31 = .ok (.ifCond .eq 7, 3) := by decide +kernel
theorem dX12_isBlockEnd_34 : decode cX12_isBlockEnd 34 = .ok (.iconst 1, 1) := by decide +kernel
theorem dX12_isBlockEnd_35 : decode cX12_isBlockEnd 35 = .ok (.goto 4, 3) := by decide +kernel
theorem dX12_isBlockEnd_38 : decode cX12_isBlockEnd 38 = .ok (.iconst 0, 1) := by decide +kernel
theorem dX12_isBlockEnd_39 : decode cX12_isBlockEnd 39 = .ok (.ireturn, 1) := by decide +kernel
