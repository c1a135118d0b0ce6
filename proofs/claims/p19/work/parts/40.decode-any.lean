/-! decode rows -/
theorem dX12_byteAt_0 : decode cX12_byteAt 0 = .ok (.iload_n 1, 1) := by decide +kernel
theorem dX12_byteAt_1 : decode cX12_byteAt 1 = .ok (.aload_n 0, 1) := by decide +kernel
theorem dX12_byteAt_2 : decode cX12_byteAt 2 = .ok (.getfield 1, 3) := by decide +kernel
theorem dX12_byteAt_5 : decode cX12_byteAt 5 = .ok (.if_icmp .ge 12, 3) := by decide +kernel
theorem dX12_byteAt_8 : decode cX12_byteAt 8 = .ok (.aload_n 0, 1) := by decide +kernel
theorem dX12_byteAt_9 : decode cX12_byteAt 9 = .ok (.getfield 7, 3) := by decide +kernel
theorem dX12_byteAt_12 : decode cX12_byteAt 12 = .ok (.iload_n 1, 1) := by decide +kernel
theorem dX12_byteAt_13 : decode cX12_byteAt 13 = .ok (.iaload, 1) := by decide +kernel
theorem dX12_byteAt_14 : decode cX12_byteAt 14 = .ok (.goto 4, 3) := by decide +kernel
theorem dX12_byteAt_17 : decode cX12_byteAt 17 = .ok (.iconst 0, 1) := by decide +kernel
theorem dX12_byteAt_18 : decode cX12_byteAt 18 = .ok (.ireturn, 1) := by decide +kernel
theorem dX12_skip_0 : decode cX12_skip 0 = .ok (.iconst 1, 1) := by decide +kernel
theorem dX12_skip_1 : decode cX12_skip 1 = .ok (.istore_n 1, 1) := by decide +kernel
theorem dX12_skip_2 : decode cX12_skip 2 = .ok (.iload_n 1, 1) := by decide +kernel
theorem dX12_skip_3 : decode cX12_skip 3 = .ok (.ifCond .eq 124, 3) := by decide +kernel
theorem dX12_skip_6 : decode cX12_skip 6 = .ok (.aload_n 0, 1) := by decide +kernel
theorem dX12_skip_7 : decode cX12_skip 7 = .ok (.aload_n 0, 1) := by decide +kernel
theorem dX12_skip_8 : decode cX12_skip 8 = .ok (.getfield 21, 3) := by decide +kernel
theorem dX12_skip_11 : decode cX12_skip 11 = .ok (.invokevirtual 24, 3) := by decide +kernel
theorem dX12_skip_14 : decode cX12_skip 14 = .ok (.istore_n 2, 1) := by decide +kernel
theorem dX12_skip_15 : decode cX12_skip 15 = .ok (.aload_n 0, 1) := by decide +kernel
theorem dX12_skip_16 : decode cX12_skip 16 = .ok (.getfield 21, 3) := by decide +kernel
theorem dX12_skip_19 : decode cX12_skip 19 = .ok (.aload_n 0, 1) := by decide +kernel
theorem dX12_skip_20 : decode cX12_skip 20 = .ok (.getfield 1, 3) := by decide +kernel
theorem dX12_skip_23 : decode cX12_skip 23 = .ok (.if_icmp .ge 40, 3) := by decide +kernel
theorem dX12_skip_26 : decode cX12_skip 26 = .ok (.iload_n 2, 1) := by decide +kernel
theorem dX12_skip_27 : decode cX12_skip 27 = .ok (.bipush 9, 2) := by decide +kernel
theorem dX12_skip_29 : decode cX12_skip 29 = .ok (.if_icmp .eq 21, 3) := by decide +kernel
theorem dX12_skip_32 : decode cX12_skip 32 = .ok (.iload_n 2, 1) := by decide +kernel
theorem dX12_skip_33 : decode cX12_skip 33 = .ok (.bipush 10, 2) := by decide +kernel
theorem dX12_skip_35 : decode cX12_skip 35 = .ok (.if_icmp .eq 15, 3) := by decide +kernel
theorem dX12_skip_38 : decode cX12_skip 38 = .ok (.iload_n 2, 1) := by decide +kernel
theorem dX12_skip_39 : decode cX12_skip 39 = .ok (.bipush 13, 2) := by decide +kernel
theorem dX12_skip_41 : decode cX12_skip 41 = .ok (.if_icmp .eq 9, 3) := by decide +kernel
theorem dX12_skip_44 : decode cX12_skip 44 = .ok (.iload_n 2, 1) := by decide +kernel
theorem dX12_skip_45 : decode cX12_skip 45 = .ok (.bipush 32, 2) := by decide +kernel
theorem dX12_skip_47 : decode cX12_skip 47 = .ok (.if_icmp .ne 16, 3) := by decide +kernel
theorem dX12_skip_50 : decode cX12_skip 50 = .ok (.aload_n 0, 1) := by decide +kernel
theorem dX12_skip_51 : decode cX12_skip 51 = .ok (.dup, 1) := by decide +kernel
theorem dX12_skip_52 : decode cX12_skip 52 = .ok (.getfield 21, 3) := by decide +kernel
theorem dX12_skip_55 : decode cX12_skip 55 = .ok (.iconst 1, 1) := by decide +kernel
theorem dX12_skip_56 : decode cX12_skip 56 = .ok (.iadd, 1) := by decide +kernel
theorem dX12_skip_57 : decode cX12_skip 57 = .ok (.putfield 21, 3) := by decide +kernel
theorem dX12_skip_60 : decode cX12_skip 60 = .ok (.goto 64, 3) := by decide +kernel
theorem dX12_skip_63 : decode cX12_skip 63 = .ok (.iload_n 2, 1) := by decide +kernel
theorem dX12_skip_64 : decode cX12_skip 64 = .ok (.bipush 45, 2) := by decide +kernel
theorem dX12_skip_66 : decode cX12_skip 66 = .ok (.if_icmp .ne 56, 3) := by decide +kernel
theorem dX12_skip_69 : decode cX12_skip 69 = .ok (.aload_n 0, 1) := by decide +kernel
theorem dX12_skip_70 : decode cX12_skip 70 = .ok (.aload_n 0, 1) := by decide +kernel
theorem dX12_skip_71 : decode cX12_skip 71 = .ok (.getfield 21, 3) := by decide +kernel
theorem dX12_skip_74 : decode cX12_skip 74 = .ok (.iconst 1, 1) := by decide +kernel
theorem dX12_skip_75 : decode cX12_skip 75 = .ok (.iadd, 1) := by decide +kernel
theorem dX12_skip_76 : decode cX12_skip 76 = .ok (.invokevirtual 24, 3) := by decide +kernel
theorem dX12_skip_79 : decode cX12_skip 79 = .ok (.bipush 45, 2) := by decide +kernel
theorem dX12_skip_81 : decode cX12_skip 81 = .ok (.if_icmp .ne 41, 3) := by decide +kernel
theorem dX12_skip_84 : decode cX12_skip 84 = .ok (.aload_n 0, 1) := by decide +kernel
theorem dX12_skip_85 : decode cX12_skip 85 = .ok (.getfield 21, 3) := by decide +kernel
theorem dX12_skip_88 : decode cX12_skip 88 = .ok (.aload_n 0, 1) := by decide +kernel
theorem dX12_skip_89 : decode cX12_skip 89 = .ok (.getfield 1, 3) := by decide +kernel
theorem dX12_skip_92 : decode cX12_skip 92 = .ok (.if_icmp .ge 32, 3) := by decide +kernel
theorem dX12_skip_95 : decode cX12_skip 95 = .ok (.aload_n 0, 1) := by decide +kernel
theorem dX12_skip_96 : decode cX12_skip 96 = .ok (.getfield 7, 3) := by decide +kernel
theorem dX12_skip_99 : decode cX12_skip 99 = .ok (.aload_n 0, 1) := by decide +kernel
theorem dX12_skip_100 : decode cX12_skip 100 = .ok (.getfield 21, 3) := by decide +kernel
theorem dX12_skip_103 : decode cX12_skip 103 = .ok (.iaload, 1) := by decide +kernel
theorem dX12_skip_104 : decode cX12_skip 104 = .ok (.bipush 10, 2) := by decide +kernel
theorem dX12_skip_106 : decode cX12_skip 106 = .ok (.if_icmp .eq 18, 3) := by decide +kernel
theorem dX12_skip_109 : decode cX12_skip 109 = .ok (.aload_n 0, 1) := by decide +kernel
theorem dX12_skip_110 : decode cX12_skip 110 = .ok (.dup, 1) := by decide +kernel
theorem dX12_skip_111 : decode cX12_skip 111 = .ok (.getfield 21, 3) := by decide +kernel
theorem dX12_skip_114 : decode cX12_skip 114 = .ok (.iconst 1, 1) := by decide +kernel
theorem dX12_skip_115 : decode cX12_skip 115 = .ok (.iadd, 1) := by decide +kernel
theorem dX12_skip_116 : decode cX12_skip 116 = .ok (.putfield 21, 3) := by decide +kernel
theorem dX12_skip_119 : decode cX12_skip 119 = .ok (.goto (-35), 3) := by decide +kernel
theorem dX12_skip_122 : decode cX12_skip 122 = .ok (.iconst 0, 1) := by decide +kernel
theorem dX12_skip_123 : decode cX12_skip 123 = .ok (.istore_n 1, 1) := by decide +kernel
theorem dX12_skip_124 : decode cX12_skip 124 = .ok (.goto (-122), 3) := by decide +kernel
theorem dX12_skip_127 : decode cX12_skip 127 = .ok (.return_, 1) := by decide +kernel
