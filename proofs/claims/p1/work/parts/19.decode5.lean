/-! decode rows -/
theorem dX11_program_0 : decode cX11_program 0 = .ok (.aload_n 0, 1) := by decide +kernel
theorem dX11_program_1 : decode cX11_program 1 = .ok (.getfield 92, 3) := by decide +kernel
theorem dX11_program_4 : decode cX11_program 4 = .ok (.aload_n 0, 1) := by decide +kernel
theorem dX11_program_5 : decode cX11_program 5 = .ok (.getfield 88, 3) := by decide +kernel
theorem dX11_program_8 : decode cX11_program 8 = .ok (.invokevirtual 111, 3) := by decide +kernel
theorem dX11_program_11 : decode cX11_program 11 = .ok (.aload_n 0, 1) := by decide +kernel
theorem dX11_program_12 : decode cX11_program 12 = .ok (.getfield 81, 3) := by decide +kernel
theorem dX11_program_15 : decode cX11_program 15 = .ok (.aload_n 0, 1) := by decide +kernel
theorem dX11_program_16 : decode cX11_program 16 = .ok (.getfield 92, 3) := by decide +kernel
theorem dX11_program_19 : decode cX11_program 19 = .ok (.invokevirtual 130, 3) := by decide +kernel
theorem dX11_program_22 : decode cX11_program 22 = .ok (.istore_n 1, 1) := by decide +kernel
theorem dX11_program_23 : decode cX11_program 23 = .ok (.aload_n 0, 1) := by decide +kernel
theorem dX11_program_24 : decode cX11_program 24 = .ok (.getfield 72, 3) := by decide +kernel
theorem dX11_program_27 : decode cX11_program 27 = .ok (.iconst 0, 1) := by decide +kernel
theorem dX11_program_28 : decode cX11_program 28 = .ok (.putfield 115, 3) := by decide +kernel
theorem dX11_program_31 : decode cX11_program 31 = .ok (.aload_n 0, 1) := by decide +kernel
theorem dX11_program_32 : decode cX11_program 32 = .ok (.aload_n 0, 1) := by decide +kernel
theorem dX11_program_33 : decode cX11_program 33 = .ok (.getfield 81, 3) := by decide +kernel
theorem dX11_program_36 : decode cX11_program 36 = .ok (.getfield 134, 3) := by decide +kernel
theorem dX11_program_39 : decode cX11_program 39 = .ok (.putfield 137, 3) := by decide +kernel
theorem dX11_program_42 : decode cX11_program 42 = .ok (.aload_n 0, 1) := by decide +kernel
theorem dX11_program_43 : decode cX11_program 43 = .ok (.getfield 88, 3) := by decide +kernel
theorem dX11_program_46 : decode cX11_program 46 = .ok (.aload_n 0, 1) := by decide +kernel
theorem dX11_program_47 : decode cX11_program 47 = .ok (.getfield 92, 3) := by decide +kernel
theorem dX11_program_50 : decode cX11_program 50 = .ok (.getfield 140, 3) := by decide +kernel
theorem dX11_program_53 : decode cX11_program 53 = .ok (.putfield 140, 3) := by decide +kernel
theorem dX11_program_56 : decode cX11_program 56 = .ok (.iload_n 1, 1) := by decide +kernel
theorem dX11_program_57 : decode cX11_program 57 = .ok (.ifCond .ne 13, 3) := by decide +kernel
theorem dX11_program_60 : decode cX11_program 60 = .ok (.iconst (-1), 1) := by decide +kernel
theorem dX11_program_61 : decode cX11_program 61 = .ok (.aload_n 0, 1) := by decide +kernel
theorem dX11_program_62 : decode cX11_program 62 = .ok (.getfield 81, 3) := by decide +kernel
theorem dX11_program_65 : decode cX11_program 65 = .ok (.getfield 143, 3) := by decide +kernel
theorem dX11_program_68 : decode cX11_program 68 = .ok (.isub, 1) := by decide +kernel
theorem dX11_program_69 : decode cX11_program 69 = .ok (.ireturn, 1) := by decide +kernel
theorem dX11_program_70 : decode cX11_program 70 = .ok (.aload_n 0, 1) := by decide +kernel
theorem dX11_program_71 : decode cX11_program 71 = .ok (.getfield 92, 3) := by decide +kernel
theorem dX11_program_74 : decode cX11_program 74 = .ok (.aload_n 0, 1) := by decide +kernel
theorem dX11_program_75 : decode cX11_program 75 = .ok (.getfield 88, 3) := by decide +kernel
theorem dX11_program_78 : decode cX11_program 78 = .ok (.getfield 146, 3) := by decide +kernel
theorem dX11_program_81 : decode cX11_program 81 = .ok (.invokevirtual 149, 3) := by decide +kernel
theorem dX11_program_84 : decode cX11_program 84 = .ok (.aload_n 0, 1) := by decide +kernel
theorem dX11_program_85 : decode cX11_program 85 = .ok (.getfield 88, 3) := by decide +kernel
theorem dX11_program_88 : decode cX11_program 88 = .ok (.astore_n 2, 1) := by decide +kernel
theorem dX11_program_89 : decode cX11_program 89 = .ok (.aload_n 0, 1) := by decide +kernel
theorem dX11_program_90 : decode cX11_program 90 = .ok (.aload_n 0, 1) := by decide +kernel
theorem dX11_program_91 : decode cX11_program 91 = .ok (.getfield 92, 3) := by decide +kernel
theorem dX11_program_94 : decode cX11_program 94 = .ok (.putfield 88, 3) := by decide +kernel
theorem dX11_program_97 : decode cX11_program 97 = .ok (.aload_n 0, 1) := by decide +kernel
theorem dX11_program_98 : decode cX11_program 98 = .ok (.aload_n 2, 1) := by decide +kernel
theorem dX11_program_99 : decode cX11_program 99 = .ok (.putfield 92, 3) := by decide +kernel
theorem dX11_program_102 : decode cX11_program 102 = .ok (.aload_n 0, 1) := by decide +kernel
theorem dX11_program_103 : decode cX11_program 103 = .ok (.iconst 1, 1) := by decide +kernel
theorem dX11_program_104 : decode cX11_program 104 = .ok (.putfield 152, 3) := by decide +kernel
theorem dX11_program_107 : decode cX11_program 107 = .ok (.aload_n 0, 1) := by decide +kernel
theorem dX11_program_108 : decode cX11_program 108 = .ok (.iconst 0, 1) := by decide +kernel
theorem dX11_program_109 : decode cX11_program 109 = .ok (.putfield 156, 3) := by decide +kernel
theorem dX11_program_112 : decode cX11_program 112 = .ok (.aload_n 0, 1) := by decide +kernel
theorem dX11_program_113 : decode cX11_program 113 = .ok (.iconst 0, 1) := by decide +kernel
theorem dX11_program_114 : decode cX11_program 114 = .ok (.putfield 159, 3) := by decide +kernel
theorem dX11_program_117 : decode cX11_program 117 = .ok (.aload_n 0, 1) := by decide +kernel
theorem dX11_program_118 : decode cX11_program 118 = .ok (.getfield 88, 3) := by decide +kernel
theorem dX11_program_121 : decode cX11_program 121 = .ok (.getfield 162, 3) := by decide +kernel
theorem dX11_program_124 : decode cX11_program 124 = .ok (.ireturn, 1) := by decide +kernel
theorem dX5_readProgram_0 : decode cX5_readProgram 0 = .ok (.aload_n 0, 1) := by decide +kernel
theorem dX5_readProgram_1 : decode cX5_readProgram 1 = .ok (.aload_n 1, 1) := by decide +kernel
theorem dX5_readProgram_2 : decode cX5_readProgram 2 = .ok (.iconst 0, 1) := by decide +kernel
theorem dX5_readProgram_3 : decode cX5_readProgram 3 = .ok (.iconst 2, 1) := by decide +kernel
theorem dX5_readProgram_4 : decode cX5_readProgram 4 = .ok (.invokevirtual 26, 3) := by decide +kernel
theorem dX5_readProgram_7 : decode cX5_readProgram 7 = .ok (.aload_n 0, 1) := by decide +kernel
theorem dX5_readProgram_8 : decode cX5_readProgram 8 = .ok (.getfield 18, 3) := by decide +kernel
theorem dX5_readProgram_11 : decode cX5_readProgram 11 = .ok (.invokevirtual 30, 3) := by decide +kernel
theorem dX5_readProgram_14 : decode cX5_readProgram 14 = .ok (.iconst 0, 1) := by decide +kernel
theorem dX5_readProgram_15 : decode cX5_readProgram 15 = .ok (.istore_n 2, 1) := by decide +kernel
theorem dX5_readProgram_16 : decode cX5_readProgram 16 = .ok (.iload_n 2, 1) := by decide +kernel
theorem dX5_readProgram_17 : decode cX5_readProgram 17 = .ok (.ldc 35, 2) := by decide +kernel
theorem dX5_readProgram_19 : decode cX5_readProgram 19 = .ok (.if_icmp .gt 76, 3) := by decide +kernel
theorem dX5_readProgram_22 : decode cX5_readProgram 22 = .ok (.aload_n 0, 1) := by decide +kernel
theorem dX5_readProgram_23 : decode cX5_readProgram 23 = .ok (.getfield 18, 3) := by decide +kernel
theorem dX5_readProgram_26 : decode cX5_readProgram 26 = .ok (.getfield 36, 3) := by decide +kernel
theorem dX5_readProgram_29 : decode cX5_readProgram 29 = .ok (.bipush 32, 2) := by decide +kernel
theorem dX5_readProgram_31 : decode cX5_readProgram 31 = .ok (.if_icmp .lt 64, 3) := by decide +kernel
theorem dX5_readProgram_34 : decode cX5_readProgram 34 = .ok (.aload_n 0, 1) := by decide +kernel
theorem dX5_readProgram_35 : decode cX5_readProgram 35 = .ok (.getfield 18, 3) := by decide +kernel
theorem dX5_readProgram_38 : decode cX5_readProgram 38 = .ok (.getfield 36, 3) := by decide +kernel
theorem dX5_readProgram_41 : decode cX5_readProgram 41 = .ok (.bipush 34, 2) := by decide +kernel
theorem dX5_readProgram_43 : decode cX5_readProgram 43 = .ok (.if_icmp .gt 52, 3) := by decide +kernel
theorem dX5_readProgram_46 : decode cX5_readProgram 46 = .ok (.aload_n 0, 1) := by decide +kernel
theorem dX5_readProgram_47 : decode cX5_readProgram 47 = .ok (.getfield 18, 3) := by decide +kernel
theorem dX5_readProgram_50 : decode cX5_readProgram 50 = .ok (.getfield 36, 3) := by decide +kernel
theorem dX5_readProgram_53 : decode cX5_readProgram 53 = .ok (.bipush 32, 2) := by decide +kernel
theorem dX5_readProgram_55 : decode cX5_readProgram 55 = .ok (.if_icmp .ne 11, 3) := by decide +kernel
theorem dX5_readProgram_58 : decode cX5_readProgram 58 = .ok (.aload_n 0, 1) := by decide +kernel
theorem dX5_readProgram_59 : decode cX5_readProgram 59 = .ok (.iconst 0, 1) := by decide +kernel
theorem dX5_readProgram_60 : decode cX5_readProgram 60 = .ok (.invokevirtual 40, 3) := by decide +kernel
theorem dX5_readProgram_63 : decode cX5_readProgram 63 = .ok (.goto 26, 3) := by decide +kernel
theorem dX5_readProgram_66 : decode cX5_readProgram 66 = .ok (.aload_n 0, 1) := by decide +kernel
theorem dX5_readProgram_67 : decode cX5_readProgram 67 = .ok (.getfield 18, 3) := by decide +kernel
theorem dX5_readProgram_70 : decode cX5_readProgram 70 = .ok (.getfield 36, 3) := by decide +kernel
theorem dX5_readProgram_73 : decode cX5_readProgram 73 = .ok (.bipush 34, 2) := by decide +kernel
theorem dX5_readProgram_75 : decode cX5_readProgram 75 = .ok (.if_icmp .ne 10, 3) := by decide +kernel
theorem dX5_readProgram_78 : decode cX5_readProgram 78 = .ok (.aload_n 0, 1) := by decide +kernel
theorem dX5_readProgram_79 : decode cX5_readProgram 79 = .ok (.invokevirtual 44, 3) := by decide +kernel
theorem dX5_readProgram_82 : decode cX5_readProgram 82 = .ok (.goto 7, 3) := by decide +kernel
theorem dX5_readProgram_85 : decode cX5_readProgram 85 = .ok (.aload_n 0, 1) := by decide +kernel
theorem dX5_readProgram_86 : decode cX5_readProgram 86 = .ok (.invokevirtual 47, 3) := by decide +kernel
theorem dX5_readProgram_89 : decode cX5_readProgram 89 = .ok (.iinc 2 1, 3) := by decide +kernel
theorem dX5_readProgram_92 : decode cX5_readProgram 92 = .ok (.goto (-76), 3) := by decide +kernel
theorem dX5_readProgram_95 : decode cX5_readProgram 95 = .ok (.aload_n 1, 1) := by decide +kernel
theorem dX5_readProgram_96 : decode cX5_readProgram 96 = .ok (.aload_n 1, 1) := by decide +kernel
theorem dX5_readProgram_97 : decode cX5_readProgram 97 = .ok (.getfield 50, 3) := by decide +kernel
theorem dX5_readProgram_100 : decode cX5_readProgram 100 = .ok (.putfield 55, 3) := by decide +kernel
theorem dX5_readProgram_103 : decode cX5_readProgram 103 = .ok (.aload_n 0, 1) := by decide +kernel
theorem dX5_readProgram_104 : decode cX5_readProgram 104 = .ok (.invokevirtual 58, 3) := by decide +kernel
theorem dX5_readProgram_107 : decode cX5_readProgram 107 = .ok (.aload_n 0, 1) := by decide +kernel
theorem dX5_readProgram_108 : decode cX5_readProgram 108 = .ok (.iconst 1, 1) := by decide +kernel
theorem dX5_readProgram_109 : decode cX5_readProgram 109 = .ok (.invokevirtual 61, 3) := by decide +kernel
theorem dX5_readProgram_112 : decode cX5_readProgram 112 = .ok (.aload_n 1, 1) := by decide +kernel
theorem dX5_readProgram_113 : decode cX5_readProgram 113 = .ok (.iconst 1, 1) := by decide +kernel
theorem dX5_readProgram_114 : decode cX5_readProgram 114 = .ok (.iconst 0, 1) := by decide +kernel
theorem dX5_readProgram_115 : decode cX5_readProgram 115 = .ok (.invokevirtual 66, 3) := by decide +kernel
theorem dX5_readProgram_118 : decode cX5_readProgram 118 = .ok (.pop, 1) := by decide +kernel
theorem dX5_readProgram_119 : decode cX5_readProgram 119 = .ok (.iconst 1, 1) := by decide +kernel
theorem dX5_readProgram_120 : decode cX5_readProgram 120 = .ok (.ireturn, 1) := by decide +kernel
theorem dX5_readProgram_121 : decode cX5_readProgram 121 = .ok (.astore_n 2, 1) := by decide +kernel
theorem dX5_readProgram_122 : decode cX5_readProgram 122 = .ok (.aload_n 0, 1) := by decide +kernel
theorem dX5_readProgram_123 : decode cX5_readProgram 123 = .ok (.invokevirtual 72, 3) := by decide +kernel
theorem dX5_readProgram_126 : decode cX5_readProgram 126 = .ok (.iconst 0, 1) := by decide +kernel
theorem dX5_readProgram_127 : decode cX5_readProgram 127 = .ok (.ireturn, 1) := by decide +kernel
theorem dX5_begin_0 : decode cX5_begin 0 = .ok (.aload_n 0, 1) := by decide +kernel
theorem dX5_begin_1 : decode cX5_begin 1 = .ok (.aload_n 1, 1) := by decide +kernel
theorem dX5_begin_2 : decode cX5_begin 2 = .ok (.putfield 93, 3) := by decide +kernel
theorem dX5_begin_5 : decode cX5_begin 5 = .ok (.aload_n 0, 1) := by decide +kernel
theorem dX5_begin_6 : decode cX5_begin 6 = .ok (.iload_n 2, 1) := by decide +kernel
theorem dX5_begin_7 : decode cX5_begin 7 = .ok (.putfield 97, 3) := by decide +kernel
theorem dX5_begin_10 : decode cX5_begin 10 = .ok (.aload_n 0, 1) := by decide +kernel
theorem dX5_begin_11 : decode cX5_begin 11 = .ok (.iload_n 3, 1) := by decide +kernel
theorem dX5_begin_12 : decode cX5_begin 12 = .ok (.putfield 100, 3) := by decide +kernel
theorem dX5_begin_15 : decode cX5_begin 15 = .ok (.aload_n 0, 1) := by decide +kernel
theorem dX5_begin_16 : decode cX5_begin 16 = .ok (.iconst 0, 1) := by decide +kernel
theorem dX5_begin_17 : decode cX5_begin 17 = .ok (.putfield 103, 3) := by decide +kernel
theorem dX5_begin_20 : decode cX5_begin 20 = .ok (.aload_n 0, 1) := by decide +kernel
theorem dX5_begin_21 : decode cX5_begin 21 = .ok (.iconst 0, 1) := by decide +kernel
theorem dX5_begin_22 : decode cX5_begin 22 = .ok (.putfield 75, 3) := by decide +kernel
theorem dX5_begin_25 : decode cX5_begin 25 = .ok (.aload_n 0, 1) := by decide +kernel
theorem dX5_begin_26 : decode cX5_begin 26 = .ok (.iconst 0, 1) := by decide +kernel
theorem dX5_begin_27 : decode cX5_begin 27 = .ok (.putfield 81, 3) := by decide +kernel
theorem dX5_begin_30 : decode cX5_begin 30 = .ok (.aload_n 0, 1) := by decide +kernel
theorem dX5_begin_31 : decode cX5_begin 31 = .ok (.iconst (-1), 1) := by decide +kernel
theorem dX5_begin_32 : decode cX5_begin 32 = .ok (.putfield 106, 3) := by decide +kernel
theorem dX5_begin_35 : decode cX5_begin 35 = .ok (.aload_n 0, 1) := by decide +kernel
theorem dX5_begin_36 : decode cX5_begin 36 = .ok (.iconst 0, 1) := by decide +kernel
theorem dX5_begin_37 : decode cX5_begin 37 = .ok (.putfield 109, 3) := by decide +kernel
theorem dX5_begin_40 : decode cX5_begin 40 = .ok (.aload_n 0, 1) := by decide +kernel
theorem dX5_begin_41 : decode cX5_begin 41 = .ok (.iconst 0, 1) := by decide +kernel
theorem dX5_begin_42 : decode cX5_begin 42 = .ok (.putfield 112, 3) := by decide +kernel
theorem dX5_begin_45 : decode cX5_begin 45 = .ok (.aload_n 0, 1) := by decide +kernel
theorem dX5_begin_46 : decode cX5_begin 46 = .ok (.iconst 0, 1) := by decide +kernel
theorem dX5_begin_47 : decode cX5_begin 47 = .ok (.putfield 115, 3) := by decide +kernel
theorem dX5_begin_50 : decode cX5_begin 50 = .ok (.aload_n 0, 1) := by decide +kernel
theorem dX5_begin_51 : decode cX5_begin 51 = .ok (.iconst (-1), 1) := by decide +kernel
theorem dX5_begin_52 : decode cX5_begin 52 = .ok (.putfield 118, 3) := by decide +kernel
theorem dX5_begin_55 : decode cX5_begin 55 = .ok (.aload_n 0, 1) := by decide +kernel
theorem dX5_begin_56 : decode cX5_begin 56 = .ok (.getfield 18, 3) := by decide +kernel
theorem dX5_begin_59 : decode cX5_begin 59 = .ok (.invokevirtual 121, 3) := by decide +kernel
theorem dX5_begin_62 : decode cX5_begin 62 = .ok (.return_, 1) := by decide +kernel
theorem dX2_rewind_0 : decode cX2_rewind 0 = .ok (.aload_n 0, 1) := by decide +kernel
theorem dX2_rewind_1 : decode cX2_rewind 1 = .ok (.aload_n 0, 1) := by decide +kernel
theorem dX2_rewind_2 : decode cX2_rewind 2 = .ok (.getfield 31, 3) := by decide +kernel
theorem dX2_rewind_5 : decode cX2_rewind 5 = .ok (.iconst 2, 1) := by decide +kernel
theorem dX2_rewind_6 : decode cX2_rewind 6 = .ok (.iadd, 1) := by decide +kernel
theorem dX2_rewind_7 : decode cX2_rewind 7 = .ok (.invokevirtual 34, 3) := by decide +kernel
theorem dX2_rewind_10 : decode cX2_rewind 10 = .ok (.aload_n 0, 1) := by decide +kernel
theorem dX2_rewind_11 : decode cX2_rewind 11 = .ok (.getfield 11, 3) := by decide +kernel
theorem dX2_rewind_14 : decode cX2_rewind 14 = .ok (.aload_n 0, 1) := by decide +kernel
theorem dX2_rewind_15 : decode cX2_rewind 15 = .ok (.getfield 31, 3) := by decide +kernel
theorem dX2_rewind_18 : decode cX2_rewind 18 = .ok (.iconst 0, 1) := by decide +kernel
theorem dX2_rewind_19 : decode cX2_rewind 19 = .ok (.bastore, 1) := by decide +kernel
theorem dX2_rewind_20 : decode cX2_rewind 20 = .ok (.aload_n 0, 1) := by decide +kernel
theorem dX2_rewind_21 : decode cX2_rewind 21 = .ok (.getfield 11, 3) := by decide +kernel
theorem dX2_rewind_24 : decode cX2_rewind 24 = .ok (.aload_n 0, 1) := by decide +kernel
theorem dX2_rewind_25 : decode cX2_rewind 25 = .ok (.getfield 31, 3) := by decide +kernel
theorem dX2_rewind_28 : decode cX2_rewind 28 = .ok (.iconst 1, 1) := by decide +kernel
theorem dX2_rewind_29 : decode cX2_rewind 29 = .ok (.iadd, 1) := by decide +kernel
theorem dX2_rewind_30 : decode cX2_rewind 30 = .ok (.iconst 0, 1) := by decide +kernel
theorem dX2_rewind_31 : decode cX2_rewind 31 = .ok (.bastore, 1) := by decide +kernel
theorem dX2_rewind_32 : decode cX2_rewind 32 = .ok (.aload_n 0, 1) := by decide +kernel
theorem dX2_rewind_33 : decode cX2_rewind 33 = .ok (.iconst 0, 1) := by decide +kernel
theorem dX2_rewind_34 : decode cX2_rewind 34 = .ok (.putfield 43, 3) := by decide +kernel
theorem dX2_rewind_37 : decode cX2_rewind 37 = .ok (.return_, 1) := by decide +kernel
theorem dX2_widen_0 : decode cX2_widen 0 = .ok (.aload_n 0, 1) := by decide +kernel
theorem dX2_widen_1 : decode cX2_widen 1 = .ok (.aload_n 0, 1) := by decide +kernel
theorem dX2_widen_2 : decode cX2_widen 2 = .ok (.getfield 11, 3) := by decide +kernel
theorem dX2_widen_5 : decode cX2_widen 5 = .ok (.iload_n 1, 1) := by decide +kernel
theorem dX2_widen_6 : decode cX2_widen 6 = .ok (.iload_n 1, 1) := by decide +kernel
theorem dX2_widen_7 : decode cX2_widen 7 = .ok (.sipush 10242, 3) := by decide +kernel
theorem dX2_widen_10 : decode cX2_widen 10 = .ok (.if_icmp .gt 9, 3) := by decide +kernel
theorem dX2_widen_13 : decode cX2_widen 13 = .ok (.sipush 10242, 3) := by decide +kernel
theorem dX2_widen_16 : decode cX2_widen 16 = .ok (.goto 5, 3) := by decide +kernel
theorem dX2_widen_19 : decode cX2_widen 19 = .ok (.ldc 38, 2) := by decide +kernel
theorem dX2_widen_21 : decode cX2_widen 21 = .ok (.invokestatic 39, 3) := by decide +kernel
theorem dX2_widen_24 : decode cX2_widen 24 = .ok (.putfield 11, 3) := by decide +kernel
theorem dX2_widen_27 : decode cX2_widen 27 = .ok (.return_, 1) := by decide +kernel
theorem dX11_widenedBytes_0 : decode cX11_widenedBytes 0 = .ok (.iload_n 1, 1) := by decide +kernel
theorem dX11_widenedBytes_1 : decode cX11_widenedBytes 1 = .ok (.aload_n 0, 1) := by decide +kernel
theorem dX11_widenedBytes_2 : decode cX11_widenedBytes 2 = .ok (.arraylength, 1) := by decide +kernel
theorem dX11_widenedBytes_3 : decode cX11_widenedBytes 3 = .ok (.if_icmp .le 17, 3) := by decide +kernel
theorem dX11_widenedBytes_6 : decode cX11_widenedBytes 6 = .ok (.aload_n 0, 1) := by decide +kernel
theorem dX11_widenedBytes_7 : decode cX11_widenedBytes 7 = .ok (.arraylength, 1) := by decide +kernel
theorem dX11_widenedBytes_8 : decode cX11_widenedBytes 8 = .ok (.iload_n 2, 1) := by decide +kernel
theorem dX11_widenedBytes_9 : decode cX11_widenedBytes 9 = .ok (.if_icmp .ge 11, 3) := by decide +kernel
theorem dX11_widenedBytes_12 : decode cX11_widenedBytes 12 = .ok (.aload_n 0, 1) := by decide +kernel
theorem dX11_widenedBytes_13 : decode cX11_widenedBytes 13 = .ok (.iload_n 2, 1) := by decide +kernel
theorem dX11_widenedBytes_14 : decode cX11_widenedBytes 14 = .ok (.invokestatic 13, 3) := by decide +kernel
theorem dX11_widenedBytes_17 : decode cX11_widenedBytes 17 = .ok (.goto 4, 3) := by decide +kernel
theorem dX11_widenedBytes_20 : decode cX11_widenedBytes 20 = .ok (.aload_n 0, 1) := by decide +kernel
theorem dX11_widenedBytes_21 : decode cX11_widenedBytes 21 = .ok (.areturn, 1) := by decide +kernel
theorem dX2_advance_0 : decode cX2_advance 0 = .ok (.aload_n 0, 1) := by decide +kernel
theorem dX2_advance_1 : decode cX2_advance 1 = .ok (.getfield 43, 3) := by decide +kernel
theorem dX2_advance_4 : decode cX2_advance 4 = .ok (.istore_n 1, 1) := by decide +kernel
theorem dX2_advance_5 : decode cX2_advance 5 = .ok (.iconst 0, 1) := by decide +kernel
theorem dX2_advance_6 : decode cX2_advance 6 = .ok (.istore_n 2, 1) := by decide +kernel
theorem dX2_advance_7 : decode cX2_advance 7 = .ok (.iconst 1, 1) := by decide +kernel
theorem dX2_advance_8 : decode cX2_advance 8 = .ok (.istore_n 3, 1) := by decide +kernel
theorem dX2_advance_9 : decode cX2_advance 9 = .ok (.aload_n 0, 1) := by decide +kernel
theorem dX2_advance_10 : decode cX2_advance 10 = .ok (.getfield 43, 3) := by decide +kernel
theorem dX2_advance_13 : decode cX2_advance 13 = .ok (.istore 4, 2) := by decide +kernel
theorem dX2_advance_15 : decode cX2_advance 15 = .ok (.iload 4, 2) := by decide +kernel
theorem dX2_advance_17 : decode cX2_advance 17 = .ok (.aload_n 0, 1) := by decide +kernel
theorem dX2_advance_18 : decode cX2_advance 18 = .ok (.getfield 31, 3) := by decide +kernel
theorem dX2_advance_21 : decode cX2_advance 21 = .ok (.if_icmp .ge 108, 3) := by decide +kernel
theorem dX2_advance_24 : decode cX2_advance 24 = .ok (.iload_n 3, 1) := by decide +kernel
theorem dX2_advance_25 : decode cX2_advance 25 = .ok (.ifCond .eq 104, 3) := by decide +kernel
theorem dX2_advance_28 : decode cX2_advance 28 = .ok (.aload_n 0, 1) := by decide +kernel
theorem dX2_advance_29 : decode cX2_advance 29 = .ok (.getfield 11, 3) := by decide +kernel
theorem dX2_advance_32 : decode cX2_advance 32 = .ok (.iload 4, 2) := by decide +kernel
theorem dX2_advance_34 : decode cX2_advance 34 = .ok (.baload, 1) := by decide +kernel
theorem dX2_advance_35 : decode cX2_advance 35 = .ok (.istore 5, 2) := by decide +kernel
theorem dX2_advance_37 : decode cX2_advance 37 = .ok (.iload_n 2, 1) := by decide +kernel
theorem dX2_advance_38 : decode cX2_advance 38 = .ok (.ifCond .eq 18, 3) := by decide +kernel
theorem dX2_advance_41 : decode cX2_advance 41 = .ok (.iload 5, 2) := by decide +kernel
theorem dX2_advance_43 : decode cX2_advance 43 = .ok (.bipush 10, 2) := by decide +kernel
theorem dX2_advance_45 : decode cX2_advance 45 = .ok (.if_icmp .eq 7, 3) := by decide +kernel
theorem dX2_advance_48 : decode cX2_advance 48 = .ok (.iconst 1, 1) := by decide +kernel
theorem dX2_advance_49 : decode cX2_advance 49 = .ok (.goto 33, 3) := by decide +kernel
theorem dX2_advance_52 : decode cX2_advance 52 = .ok (.iconst 0, 1) := by decide +kernel
theorem dX2_advance_53 : decode cX2_advance 53 = .ok (.goto 29, 3) := by decide +kernel
theorem dX2_advance_56 : decode cX2_advance 56 = .ok (.iload 5, 2) := by decide +kernel
theorem dX2_advance_58 : decode cX2_advance 58 = .ok (.bipush 45, 2) := by decide +kernel
theorem dX2_advance_60 : decode cX2_advance 60 = .ok (.if_icmp .ne 21, 3) := by decide +kernel
theorem dX2_advance_63 : decode cX2_advance 63 = .ok (.aload_n 0, 1) := by decide +kernel
theorem dX2_advance_64 : decode cX2_advance 64 = .ok (.getfield 11, 3) := by decide +kernel
theorem dX2_advance_67 : decode cX2_advance 67 = .ok (.iload 4, 2) := by decide +kernel
theorem dX2_advance_69 : decode cX2_advance 69 = .ok (.iconst 1, 1) := by decide +kernel
theorem dX2_advance_70 : decode cX2_advance 70 = .ok (.iadd, 1) := by decide +kernel
theorem dX2_advance_71 : decode cX2_advance 71 = .ok (.baload, 1) := by decide +kernel
theorem dX2_advance_72 : decode cX2_advance 72 = .ok (.bipush 45, 2) := by decide +kernel
theorem dX2_advance_74 : decode cX2_advance 74 = .ok (.if_icmp .ne 7, 3) := by decide +kernel
theorem dX2_advance_77 : decode cX2_advance 77 = .ok (.iconst 1, 1) := by decide +kernel
theorem dX2_advance_78 : decode cX2_advance 78 = .ok (.goto 4, 3) := by decide +kernel
theorem dX2_advance_81 : decode cX2_advance 81 = .ok (.iconst 0, 1) := by decide +kernel
theorem dX2_advance_82 : decode cX2_advance 82 = .ok (.istore_n 2, 1) := by decide +kernel
theorem dX2_advance_83 : decode cX2_advance 83 = .ok (.iload_n 2, 1) := by decide +kernel
theorem dX2_advance_84 : decode cX2_advance 84 = .ok (.ifCond .ne 19, 3) := by decide +kernel
theorem dX2_advance_87 : decode cX2_advance 87 = .ok (.iload 5, 2) := by decide +kernel
theorem dX2_advance_89 : decode cX2_advance 89 = .ok (.ifCond .lt 18, 3) := by decide +kernel
theorem dX2_advance_92 : decode cX2_advance 92 = .ok (.getstatic 46, 3) := by decide +kernel
theorem dX2_advance_95 : decode cX2_advance 95 = .ok (.iload 5, 2) := by decide +kernel
theorem dX2_advance_97 : decode cX2_advance 97 = .ok (.baload, 1) := by decide +kernel
theorem dX2_advance_98 : decode cX2_advance 98 = .ok (.bipush 31, 2) := by decide +kernel
theorem dX2_advance_100 : decode cX2_advance 100 = .ok (.if_icmp .ne 7, 3) := by decide +kernel
theorem dX2_advance_103 : decode cX2_advance 103 = .ok (.iconst 1, 1) := by decide +kernel
theorem dX2_advance_104 : decode cX2_advance 104 = .ok (.goto 4, 3) := by decide +kernel
theorem dX2_advance_107 : decode cX2_advance 107 = .ok (.iconst 0, 1) := by decide +kernel
theorem dX2_advance_108 : decode cX2_advance 108 = .ok (.istore_n 3, 1) := by decide +kernel
theorem dX2_advance_109 : decode cX2_advance 109 = .ok (.iload_n 3, 1) := by decide +kernel
theorem dX2_advance_110 : decode cX2_advance 110 = .ok (.ifCond .eq 10, 3) := by decide +kernel
theorem dX2_advance_113 : decode cX2_advance 113 = .ok (.iload 4, 2) := by decide +kernel
theorem dX2_advance_115 : decode cX2_advance 115 = .ok (.iconst 1, 1) := by decide +kernel
theorem dX2_advance_116 : decode cX2_advance 116 = .ok (.iadd, 1) := by decide +kernel
theorem dX2_advance_117 : decode cX2_advance 117 = .ok (.goto 5, 3) := by decide +kernel
theorem dX2_advance_120 : decode cX2_advance 120 = .ok (.iload 4, 2) := by decide +kernel
theorem dX2_advance_122 : decode cX2_advance 122 = .ok (.istore_n 1, 1) := by decide +kernel
theorem dX2_advance_123 : decode cX2_advance 123 = .ok (.iinc 4 1, 3) := by decide +kernel
theorem dX2_advance_126 : decode cX2_advance 126 = .ok (.goto (-111), 3) := by decide +kernel
theorem dX2_advance_129 : decode cX2_advance 129 = .ok (.aload_n 0, 1) := by decide +kernel
theorem dX2_advance_130 : decode cX2_advance 130 = .ok (.iload_n 1, 1) := by decide +kernel
theorem dX2_advance_131 : decode cX2_advance 131 = .ok (.putfield 49, 3) := by decide +kernel
theorem dX2_advance_134 : decode cX2_advance 134 = .ok (.aload_n 0, 1) := by decide +kernel
theorem dX2_advance_135 : decode cX2_advance 135 = .ok (.iload_n 1, 1) := by decide +kernel
theorem dX2_advance_136 : decode cX2_advance 136 = .ok (.aload_n 0, 1) := by decide +kernel
theorem dX2_advance_137 : decode cX2_advance 137 = .ok (.getfield 31, 3) := by decide +kernel
theorem dX2_advance_140 : decode cX2_advance 140 = .ok (.if_icmp .ge 9, 3) := by decide +kernel
theorem dX2_advance_143 : decode cX2_advance 143 = .ok (.iload_n 1, 1) := by decide +kernel
theorem dX2_advance_144 : decode cX2_advance 144 = .ok (.iconst 1, 1) := by decide +kernel
theorem dX2_advance_145 : decode cX2_advance 145 = .ok (.iadd, 1) := by decide +kernel
theorem dX2_advance_146 : decode cX2_advance 146 = .ok (.goto 4, 3) := by decide +kernel
theorem dX2_advance_149 : decode cX2_advance 149 = .ok (.iload_n 1, 1) := by decide +kernel
theorem dX2_advance_150 : decode cX2_advance 150 = .ok (.putfield 43, 3) := by decide +kernel
theorem dX2_advance_153 : decode cX2_advance 153 = .ok (.aload_n 0, 1) := by decide +kernel
theorem dX2_advance_154 : decode cX2_advance 154 = .ok (.iload_n 1, 1) := by decide +kernel
theorem dX2_advance_155 : decode cX2_advance 155 = .ok (.aload_n 0, 1) := by decide +kernel
theorem dX2_advance_156 : decode cX2_advance 156 = .ok (.getfield 31, 3) := by decide +kernel
theorem dX2_advance_159 : decode cX2_advance 159 = .ok (.if_icmp .lt 7, 3) := by decide +kernel
theorem dX2_advance_162 : decode cX2_advance 162 = .ok (.iconst 1, 1) := by decide +kernel
theorem dX2_advance_163 : decode cX2_advance 163 = .ok (.goto 26, 3) := by decide +kernel
theorem dX2_advance_166 : decode cX2_advance 166 = .ok (.aload_n 0, 1) := by decide +kernel
theorem dX2_advance_167 : decode cX2_advance 167 = .ok (.getfield 11, 3) := by decide +kernel
theorem dX2_advance_170 : decode cX2_advance 170 = .ok (.iload_n 1, 1) := by decide +kernel
theorem dX2_advance_171 : decode cX2_advance 171 = .ok (.baload, 1) := by decide +kernel
theorem dX2_advance_172 : decode cX2_advance 172 = .ok (.ifCond .ge 7, 3) := by decide +kernel
theorem dX2_advance_175 : decode cX2_advance 175 = .ok (.iconst 0, 1) := by decide +kernel
theorem dX2_advance_176 : decode cX2_advance 176 = .ok (.goto 13, 3) := by decide +kernel
theorem dX2_advance_179 : decode cX2_advance 179 = .ok (.getstatic 46, 3) := by decide +kernel
theorem dX2_advance_182 : decode cX2_advance 182 = .ok (.aload_n 0, 1) := by decide +kernel
theorem dX2_advance_183 : decode cX2_advance 183 = .ok (.getfield 11, 3) := by decide +kernel
theorem dX2_advance_186 : decode cX2_advance 186 = .ok (.iload_n 1, 1) := by decide +kernel
theorem dX2_advance_187 : decode cX2_advance 187 = .ok (.baload, 1) := by decide +kernel
theorem dX2_advance_188 : decode cX2_advance 188 = .ok (.baload, 1) := by decide +kernel
theorem dX2_advance_189 : decode cX2_advance 189 = .ok (.putfield 52, 3) := by decide +kernel
theorem dX2_advance_192 : decode cX2_advance 192 = .ok (.aload_n 0, 1) := by decide +kernel
theorem dX2_advance_193 : decode cX2_advance 193 = .ok (.getfield 11, 3) := by decide +kernel
theorem dX2_advance_196 : decode cX2_advance 196 = .ok (.aload_n 0, 1) := by decide +kernel
theorem dX2_advance_197 : decode cX2_advance 197 = .ok (.getfield 43, 3) := by decide +kernel
theorem dX2_advance_200 : decode cX2_advance 200 = .ok (.baload, 1) := by decide +kernel
theorem dX2_advance_201 : decode cX2_advance 201 = .ok (.istore 4, 2) := by decide +kernel
theorem dX2_advance_203 : decode cX2_advance 203 = .ok (.aload_n 0, 1) := by decide +kernel
theorem dX2_advance_204 : decode cX2_advance 204 = .ok (.getfield 52, 3) := by decide +kernel
theorem dX2_advance_207 : decode cX2_advance 207 = .ok (.iconst 2, 1) := by decide +kernel
theorem dX2_advance_208 : decode cX2_advance 208 = .ok (.if_icmp .ne 248, 3) := by decide +kernel
theorem dX2_advance_211 : decode cX2_advance 211 = .ok (.aload_n 0, 1) := by decide +kernel
theorem dX2_advance_212 : decode cX2_advance 212 = .ok (.lconst 0, 1) := by decide +kernel
theorem dX2_advance_213 : decode cX2_advance 213 = .ok (.putfield 55, 3) := by decide +kernel
theorem dX2_advance_216 : decode cX2_advance 216 = .ok (.aload_n 0, 1) := by decide +kernel
theorem dX2_advance_217 : decode cX2_advance 217 = .ok (.lconst 0, 1) := by decide +kernel
theorem dX2_advance_218 : decode cX2_advance 218 = .ok (.putfield 59, 3) := by decide +kernel
theorem dX2_advance_221 : decode cX2_advance 221 = .ok (.iconst 2, 1) := by decide +kernel
theorem dX2_advance_222 : decode cX2_advance 222 = .ok (.istore 5, 2) := by decide +kernel
theorem dX2_advance_224 : decode cX2_advance 224 = .ok (.iload_n 1, 1) := by decide +kernel
theorem dX2_advance_225 : decode cX2_advance 225 = .ok (.istore 6, 2) := by decide +kernel
theorem dX2_advance_227 : decode cX2_advance 227 = .ok (.iload 6, 2) := by decide +kernel
theorem dX2_advance_229 : decode cX2_advance 229 = .ok (.aload_n 0, 1) := by decide +kernel
theorem dX2_advance_230 : decode cX2_advance 230 = .ok (.getfield 31, 3) := by decide +kernel
theorem dX2_advance_233 : decode cX2_advance 233 = .ok (.if_icmp .ge 139, 3) := by decide +kernel
theorem dX2_advance_236 : decode cX2_advance 236 = .ok (.iload 5, 2) := by decide +kernel
theorem dX2_advance_238 : decode cX2_advance 238 = .ok (.iconst 2, 1) := by decide +kernel
theorem dX2_advance_239 : decode cX2_advance 239 = .ok (.if_icmp .eq 16, 3) := by decide +kernel
theorem dX2_advance_242 : decode cX2_advance 242 = .ok (.iload 5, 2) := by decide +kernel
theorem dX2_advance_244 : decode cX2_advance 244 = .ok (.iconst 3, 1) := by decide +kernel
theorem dX2_advance_245 : decode cX2_advance 245 = .ok (.if_icmp .eq 10, 3) := by decide +kernel
theorem dX2_advance_248 : decode cX2_advance 248 = .ok (.iload 5, 2) := by decide +kernel
theorem dX2_advance_250 : decode cX2_advance 250 = .ok (.bipush 30, 2) := by decide +kernel
theorem dX2_advance_252 : decode cX2_advance 252 = .ok (.if_icmp .ne 120, 3) := by decide +kernel
theorem dX2_advance_255 : decode cX2_advance 255 = .ok (.aload_n 0, 1) := by decide +kernel
theorem dX2_advance_256 : decode cX2_advance 256 = .ok (.iload 6, 2) := by decide +kernel
theorem dX2_advance_258 : decode cX2_advance 258 = .ok (.iload_n 1, 1) := by decide +kernel
theorem dX2_advance_259 : decode cX2_advance 259 = .ok (.isub, 1) := by decide +kernel
theorem dX2_advance_260 : decode cX2_advance 260 = .ok (.bipush 8, 2) := by decide +kernel
theorem dX2_advance_262 : decode cX2_advance 262 = .ok (.if_icmp .ge 22, 3) := by decide +kernel
theorem dX2_advance_265 : decode cX2_advance 265 = .ok (.aload_n 0, 1) := by decide +kernel
theorem dX2_advance_266 : decode cX2_advance 266 = .ok (.getfield 55, 3) := by decide +kernel
theorem dX2_advance_269 : decode cX2_advance 269 = .ok (.bipush 8, 2) := by decide +kernel
theorem dX2_advance_271 : decode cX2_advance 271 = .ok (.lshl, 1) := by decide +kernel
theorem dX2_advance_272 : decode cX2_advance 272 = .ok (.aload_n 0, 1) := by decide +kernel
theorem dX2_advance_273 : decode cX2_advance 273 = .ok (.getfield 11, 3) := by decide +kernel
theorem dX2_advance_276 : decode cX2_advance 276 = .ok (.iload 6, 2) := by decide +kernel
theorem dX2_advance_278 : decode cX2_advance 278 = .ok (.baload, 1) := by decide +kernel
theorem dX2_advance_279 : decode cX2_advance 279 = .ok (.i2l, 1) := by decide +kernel
theorem dX2_advance_280 : decode cX2_advance 280 = .ok (.lor, 1) := by decide +kernel
theorem dX2_advance_281 : decode cX2_advance 281 = .ok (.goto 7, 3) := by decide +kernel
theorem dX2_advance_284 : decode cX2_advance 284 = .ok (.aload_n 0, 1) := by decide +kernel
theorem dX2_advance_285 : decode cX2_advance 285 = .ok (.getfield 55, 3) := by decide +kernel
theorem dX2_advance_288 : decode cX2_advance 288 = .ok (.putfield 55, 3) := by decide +kernel
theorem dX2_advance_291 : decode cX2_advance 291 = .ok (.aload_n 0, 1) := by decide +kernel
theorem dX2_advance_292 : decode cX2_advance 292 = .ok (.iload 6, 2) := by decide +kernel
theorem dX2_advance_294 : decode cX2_advance 294 = .ok (.iload_n 1, 1) := by decide +kernel
theorem dX2_advance_295 : decode cX2_advance 295 = .ok (.isub, 1) := by decide +kernel
theorem dX2_advance_296 : decode cX2_advance 296 = .ok (.bipush 8, 2) := by decide +kernel
theorem dX2_advance_298 : decode cX2_advance 298 = .ok (.if_icmp .ge 10, 3) := by decide +kernel
theorem dX2_advance_301 : decode cX2_advance 301 = .ok (.aload_n 0, 1) := by decide +kernel
theorem dX2_advance_302 : decode cX2_advance 302 = .ok (.getfield 59, 3) := by decide +kernel
theorem dX2_advance_305 : decode cX2_advance 305 = .ok (.goto 19, 3) := by decide +kernel
theorem dX2_advance_308 : decode cX2_advance 308 = .ok (.aload_n 0, 1) := by decide +kernel
theorem dX2_advance_309 : decode cX2_advance 309 = .ok (.getfield 59, 3) := by decide +kernel
theorem dX2_advance_312 : decode cX2_advance 312 = .ok (.bipush 8, 2) := by decide +kernel
theorem dX2_advance_314 : decode cX2_advance 314 = .ok (.lshl, 1) := by decide +kernel
theorem dX2_advance_315 : decode cX2_advance 315 = .ok (.aload_n 0, 1) := by decide +kernel
theorem dX2_advance_316 : decode cX2_advance 316 = .ok (.getfield 11, 3) := by decide +kernel
theorem dX2_advance_319 : decode cX2_advance 319 = .ok (.iload 6, 2) := by decide +kernel
theorem dX2_advance_321 : decode cX2_advance 321 = .ok (.baload, 1) := by decide +kernel
theorem dX2_advance_322 : decode cX2_advance 322 = .ok (.i2l, 1) := by decide +kernel
theorem dX2_advance_323 : decode cX2_advance 323 = .ok (.lor, 1) := by decide +kernel
theorem dX2_advance_324 : decode cX2_advance 324 = .ok (.putfield 59, 3) := by decide +kernel
theorem dX2_advance_327 : decode cX2_advance 327 = .ok (.aload_n 0, 1) := by decide +kernel
theorem dX2_advance_328 : decode cX2_advance 328 = .ok (.iload 6, 2) := by decide +kernel
theorem dX2_advance_330 : decode cX2_advance 330 = .ok (.iconst 1, 1) := by decide +kernel
theorem dX2_advance_331 : decode cX2_advance 331 = .ok (.iadd, 1) := by decide +kernel
theorem dX2_advance_332 : decode cX2_advance 332 = .ok (.putfield 43, 3) := by decide +kernel
theorem dX2_advance_335 : decode cX2_advance 335 = .ok (.aload_n 0, 1) := by decide +kernel
theorem dX2_advance_336 : decode cX2_advance 336 = .ok (.getfield 11, 3) := by decide +kernel
theorem dX2_advance_339 : decode cX2_advance 339 = .ok (.aload_n 0, 1) := by decide +kernel
theorem dX2_advance_340 : decode cX2_advance 340 = .ok (.getfield 43, 3) := by decide +kernel
theorem dX2_advance_343 : decode cX2_advance 343 = .ok (.baload, 1) := by decide +kernel
theorem dX2_advance_344 : decode cX2_advance 344 = .ok (.ifCond .ge 7, 3) := by decide +kernel
theorem dX2_advance_347 : decode cX2_advance 347 = .ok (.iconst 0, 1) := by decide +kernel
theorem dX2_advance_348 : decode cX2_advance 348 = .ok (.goto 16, 3) := by decide +kernel
theorem dX2_advance_351 : decode cX2_advance 351 = .ok (.getstatic 46, 3) := by decide +kernel
theorem dX2_advance_354 : decode cX2_advance 354 = .ok (.aload_n 0, 1) := by decide +kernel
theorem dX2_advance_355 : decode cX2_advance 355 = .ok (.getfield 11, 3) := by decide +kernel
theorem dX2_advance_358 : decode cX2_advance 358 = .ok (.aload_n 0, 1) := by decide +kernel
theorem dX2_advance_359 : decode cX2_advance 359 = .ok (.getfield 43, 3) := by decide +kernel
theorem dX2_advance_362 : decode cX2_advance 362 = .ok (.baload, 1) := by decide +kernel
theorem dX2_advance_363 : decode cX2_advance 363 = .ok (.baload, 1) := by decide +kernel
theorem dX2_advance_364 : decode cX2_advance 364 = .ok (.istore 5, 2) := by decide +kernel
theorem dX2_advance_366 : decode cX2_advance 366 = .ok (.iinc 6 1, 3) := by decide +kernel
theorem dX2_advance_369 : decode cX2_advance 369 = .ok (.goto (-142), 3) := by decide +kernel
theorem dX2_advance_372 : decode cX2_advance 372 = .ok (.aload_n 0, 1) := by decide +kernel
theorem dX2_advance_373 : decode cX2_advance 373 = .ok (.aload_n 0, 1) := by decide +kernel
theorem dX2_advance_374 : decode cX2_advance 374 = .ok (.getfield 43, 3) := by decide +kernel
theorem dX2_advance_377 : decode cX2_advance 377 = .ok (.iload_n 1, 1) := by decide +kernel
theorem dX2_advance_378 : decode cX2_advance 378 = .ok (.isub, 1) := by decide +kernel
theorem dX2_advance_379 : decode cX2_advance 379 = .ok (.bipush 16, 2) := by decide +kernel
theorem dX2_advance_381 : decode cX2_advance 381 = .ok (.if_icmp .le 7, 3) := by decide +kernel
theorem dX2_advance_384 : decode cX2_advance 384 = .ok (.iconst 0, 1) := by decide +kernel
theorem dX2_advance_385 : decode cX2_advance 385 = .ok (.goto 4, 3) := by decide +kernel
theorem dX2_advance_388 : decode cX2_advance 388 = .ok (.iconst 2, 1) := by decide +kernel
theorem dX2_advance_389 : decode cX2_advance 389 = .ok (.putfield 52, 3) := by decide +kernel
theorem dX2_advance_392 : decode cX2_advance 392 = .ok (.iconst 0, 1) := by decide +kernel
theorem dX2_advance_393 : decode cX2_advance 393 = .ok (.istore 6, 2) := by decide +kernel
theorem dX2_advance_395 : decode cX2_advance 395 = .ok (.iload 6, 2) := by decide +kernel
theorem dX2_advance_397 : decode cX2_advance 397 = .ok (.aload_n 0, 1) := by decide +kernel
theorem dX2_advance_398 : decode cX2_advance 398 = .ok (.getfield 15, 3) := by decide +kernel
theorem dX2_advance_401 : decode cX2_advance 401 = .ok (.arraylength, 1) := by decide +kernel
theorem dX2_advance_402 : decode cX2_advance 402 = .ok (.if_icmp .ge 51, 3) := by decide +kernel
theorem dX2_advance_405 : decode cX2_advance 405 = .ok (.aload_n 0, 1) := by decide +kernel
theorem dX2_advance_406 : decode cX2_advance 406 = .ok (.getfield 43, 3) := by decide +kernel
theorem dX2_advance_409 : decode cX2_advance 409 = .ok (.iload_n 1, 1) := by decide +kernel
theorem dX2_advance_410 : decode cX2_advance 410 = .ok (.isub, 1) := by decide +kernel
theorem dX2_advance_411 : decode cX2_advance 411 = .ok (.bipush 8, 2) := by decide +kernel
theorem dX2_advance_413 : decode cX2_advance 413 = .ok (.if_icmp .gt 40, 3) := by decide +kernel
theorem dX2_advance_416 : decode cX2_advance 416 = .ok (.aload_n 0, 1) := by decide +kernel
theorem dX2_advance_417 : decode cX2_advance 417 = .ok (.aload_n 0, 1) := by decide +kernel
theorem dX2_advance_418 : decode cX2_advance 418 = .ok (.getfield 15, 3) := by decide +kernel
theorem dX2_advance_421 : decode cX2_advance 421 = .ok (.iload 6, 2) := by decide +kernel
theorem dX2_advance_423 : decode cX2_advance 423 = .ok (.laload, 1) := by decide +kernel
theorem dX2_advance_424 : decode cX2_advance 424 = .ok (.aload_n 0, 1) := by decide +kernel
theorem dX2_advance_425 : decode cX2_advance 425 = .ok (.getfield 55, 3) := by decide +kernel
theorem dX2_advance_428 : decode cX2_advance 428 = .ok (.lcmp, 1) := by decide +kernel
theorem dX2_advance_429 : decode cX2_advance 429 = .ok (.ifCond .ne 11, 3) := by decide +kernel
theorem dX2_advance_432 : decode cX2_advance 432 = .ok (.bipush 32, 2) := by decide +kernel
theorem dX2_advance_434 : decode cX2_advance 434 = .ok (.iload 6, 2) := by decide +kernel
theorem dX2_advance_436 : decode cX2_advance 436 = .ok (.iadd, 1) := by decide +kernel
theorem dX2_advance_437 : decode cX2_advance 437 = .ok (.goto 7, 3) := by decide +kernel
theorem dX2_advance_440 : decode cX2_advance 440 = .ok (.aload_n 0, 1) := by decide +kernel
theorem dX2_advance_441 : decode cX2_advance 441 = .ok (.getfield 52, 3) := by decide +kernel
theorem dX2_advance_444 : decode cX2_advance 444 = .ok (.putfield 52, 3) := by decide +kernel
theorem dX2_advance_447 : decode cX2_advance 447 = .ok (.iinc 6 1, 3) := by decide +kernel
theorem dX2_advance_450 : decode cX2_advance 450 = .ok (.goto (-55), 3) := by decide +kernel
theorem dX2_advance_453 : decode cX2_advance 453 = .ok (.goto 363, 3) := by decide +kernel
theorem dX2_advance_456 : decode cX2_advance 456 = .ok (.aload_n 0, 1) := by decide +kernel
theorem dX2_advance_457 : decode cX2_advance 457 = .ok (.getfield 52, 3) := by decide +kernel
theorem dX2_advance_460 : decode cX2_advance 460 = .ok (.iconst 3, 1) := by decide +kernel
theorem dX2_advance_461 : decode cX2_advance 461 = .ok (.if_icmp .ne 76, 3) := by decide +kernel
theorem dX2_advance_464 : decode cX2_advance 464 = .ok (.iload_n 1, 1) := by decide +kernel
theorem dX2_advance_465 : decode cX2_advance 465 = .ok (.istore 5, 2) := by decide +kernel
theorem dX2_advance_467 : decode cX2_advance 467 = .ok (.iload 5, 2) := by decide +kernel
theorem dX2_advance_469 : decode cX2_advance 469 = .ok (.aload_n 0, 1) := by decide +kernel
theorem dX2_advance_470 : decode cX2_advance 470 = .ok (.getfield 31, 3) := by decide +kernel
theorem dX2_advance_473 : decode cX2_advance 473 = .ok (.if_icmp .ge 41, 3) := by decide +kernel
theorem dX2_advance_476 : decode cX2_advance 476 = .ok (.aload_n 0, 1) := by decide +kernel
theorem dX2_advance_477 : decode cX2_advance 477 = .ok (.getfield 11, 3) := by decide +kernel
theorem dX2_advance_480 : decode cX2_advance 480 = .ok (.iload 5, 2) := by decide +kernel
theorem dX2_advance_482 : decode cX2_advance 482 = .ok (.baload, 1) := by decide +kernel
theorem dX2_advance_483 : decode cX2_advance 483 = .ok (.bipush 48, 2) := by decide +kernel
theorem dX2_advance_485 : decode cX2_advance 485 = .ok (.if_icmp .lt 29, 3) := by decide +kernel
theorem dX2_advance_488 : decode cX2_advance 488 = .ok (.aload_n 0, 1) := by decide +kernel
theorem dX2_advance_489 : decode cX2_advance 489 = .ok (.getfield 11, 3) := by decide +kernel
theorem dX2_advance_492 : decode cX2_advance 492 = .ok (.iload 5, 2) := by decide +kernel
theorem dX2_advance_494 : decode cX2_advance 494 = .ok (.baload, 1) := by decide +kernel
theorem dX2_advance_495 : decode cX2_advance 495 = .ok (.bipush 57, 2) := by decide +kernel
theorem dX2_advance_497 : decode cX2_advance 497 = .ok (.if_icmp .gt 17, 3) := by decide +kernel
theorem dX2_advance_500 : decode cX2_advance 500 = .ok (.aload_n 0, 1) := by decide +kernel
theorem dX2_advance_501 : decode cX2_advance 501 = .ok (.iload 5, 2) := by decide +kernel
theorem dX2_advance_503 : decode cX2_advance 503 = .ok (.iconst 1, 1) := by decide +kernel
theorem dX2_advance_504 : decode cX2_advance 504 = .ok (.iadd, 1) := by decide +kernel
theorem dX2_advance_505 : decode cX2_advance 505 = .ok (.putfield 43, 3) := by decide +kernel
theorem dX2_advance_508 : decode cX2_advance 508 = .ok (.iinc 5 1, 3) := by decide +kernel
theorem dX2_advance_511 : decode cX2_advance 511 = .ok (.goto (-44), 3) := by decide +kernel
theorem dX2_advance_514 : decode cX2_advance 514 = .ok (.aload_n 0, 1) := by decide +kernel
theorem dX2_advance_515 : decode cX2_advance 515 = .ok (.aload_n 0, 1) := by decide +kernel
theorem dX2_advance_516 : decode cX2_advance 516 = .ok (.getfield 43, 3) := by decide +kernel
theorem dX2_advance_519 : decode cX2_advance 519 = .ok (.iload_n 1, 1) := by decide +kernel
theorem dX2_advance_520 : decode cX2_advance 520 = .ok (.isub, 1) := by decide +kernel
theorem dX2_advance_521 : decode cX2_advance 521 = .ok (.bipush 60, 2) := by decide +kernel
theorem dX2_advance_523 : decode cX2_advance 523 = .ok (.if_icmp .le 7, 3) := by decide +kernel
theorem dX2_advance_526 : decode cX2_advance 526 = .ok (.iconst 0, 1) := by decide +kernel
theorem dX2_advance_527 : decode cX2_advance 527 = .ok (.goto 4, 3) := by decide +kernel
theorem dX2_advance_530 : decode cX2_advance 530 = .ok (.iconst 3, 1) := by decide +kernel
theorem dX2_advance_531 : decode cX2_advance 531 = .ok (.putfield 52, 3) := by decide +kernel
theorem dX2_advance_534 : decode cX2_advance 534 = .ok (.goto 282, 3) := by decide +kernel
theorem dX2_advance_537 : decode cX2_advance 537 = .ok (.aload_n 0, 1) := by decide +kernel
theorem dX2_advance_538 : decode cX2_advance 538 = .ok (.getfield 52, 3) := by decide +kernel
theorem dX2_advance_541 : decode cX2_advance 541 = .ok (.iconst 4, 1) := by decide +kernel
theorem dX2_advance_542 : decode cX2_advance 542 = .ok (.if_icmp .ne 119, 3) := by decide +kernel
theorem dX2_advance_545 : decode cX2_advance 545 = .ok (.iload_n 1, 1) := by decide +kernel
theorem dX2_advance_546 : decode cX2_advance 546 = .ok (.iconst 1, 1) := by decide +kernel
theorem dX2_advance_547 : decode cX2_advance 547 = .ok (.iadd, 1) := by decide +kernel
theorem dX2_advance_548 : decode cX2_advance 548 = .ok (.istore 5, 2) := by decide +kernel
theorem dX2_advance_550 : decode cX2_advance 550 = .ok (.iload 5, 2) := by decide +kernel
theorem dX2_advance_552 : decode cX2_advance 552 = .ok (.aload_n 0, 1) := by decide +kernel
theorem dX2_advance_553 : decode cX2_advance 553 = .ok (.getfield 31, 3) := by decide +kernel
theorem dX2_advance_556 : decode cX2_advance 556 = .ok (.if_icmp .ge 45, 3) := by decide +kernel
theorem dX2_advance_559 : decode cX2_advance 559 = .ok (.aload_n 0, 1) := by decide +kernel
theorem dX2_advance_560 : decode cX2_advance 560 = .ok (.getfield 11, 3) := by decide +kernel
theorem dX2_advance_563 : decode cX2_advance 563 = .ok (.iload 5, 2) := by decide +kernel
theorem dX2_advance_565 : decode cX2_advance 565 = .ok (.baload, 1) := by decide +kernel
theorem dX2_advance_566 : decode cX2_advance 566 = .ok (.sipush 255, 3) := by decide +kernel
theorem dX2_advance_569 : decode cX2_advance 569 = .ok (.iand, 1) := by decide +kernel
theorem dX2_advance_570 : decode cX2_advance 570 = .ok (.bipush 32, 2) := by decide +kernel
theorem dX2_advance_572 : decode cX2_advance 572 = .ok (.if_icmp .lt 29, 3) := by decide +kernel
theorem dX2_advance_575 : decode cX2_advance 575 = .ok (.aload_n 0, 1) := by decide +kernel
theorem dX2_advance_576 : decode cX2_advance 576 = .ok (.getfield 11, 3) := by decide +kernel
theorem dX2_advance_579 : decode cX2_advance 579 = .ok (.iload 5, 2) := by decide +kernel
theorem dX2_advance_581 : decode cX2_advance 581 = .ok (.baload, 1) := by decide +kernel
theorem dX2_advance_582 : decode cX2_advance 582 = .ok (.bipush 34, 2) := by decide +kernel
theorem dX2_advance_584 : decode cX2_advance 584 = .ok (.if_icmp .eq 17, 3) := by decide +kernel
theorem dX2_advance_587 : decode cX2_advance 587 = .ok (.aload_n 0, 1) := by decide +kernel
theorem dX2_advance_588 : decode cX2_advance 588 = .ok (.iload 5, 2) := by decide +kernel
theorem dX2_advance_590 : decode cX2_advance 590 = .ok (.iconst 1, 1) := by decide +kernel
theorem dX2_advance_591 : decode cX2_advance 591 = .ok (.iadd, 1) := by decide +kernel
theorem dX2_advance_592 : decode cX2_advance 592 = .ok (.putfield 43, 3) := by decide +kernel
theorem dX2_advance_595 : decode cX2_advance 595 = .ok (.iinc 5 1, 3) := by decide +kernel
theorem dX2_advance_598 : decode cX2_advance 598 = .ok (.goto (-48), 3) := by decide +kernel
theorem dX2_advance_601 : decode cX2_advance 601 = .ok (.aload_n 0, 1) := by decide +kernel
theorem dX2_advance_602 : decode cX2_advance 602 = .ok (.aload_n 0, 1) := by decide +kernel
theorem dX2_advance_603 : decode cX2_advance 603 = .ok (.getfield 43, 3) := by decide +kernel
theorem dX2_advance_606 : decode cX2_advance 606 = .ok (.aload_n 0, 1) := by decide +kernel
theorem dX2_advance_607 : decode cX2_advance 607 = .ok (.getfield 31, 3) := by decide +kernel
theorem dX2_advance_610 : decode cX2_advance 610 = .ok (.if_icmp .ge 34, 3) := by decide +kernel
theorem dX2_advance_613 : decode cX2_advance 613 = .ok (.aload_n 0, 1) := by decide +kernel
theorem dX2_advance_614 : decode cX2_advance 614 = .ok (.getfield 11, 3) := by decide +kernel
theorem dX2_advance_617 : decode cX2_advance 617 = .ok (.aload_n 0, 1) := by decide +kernel
theorem dX2_advance_618 : decode cX2_advance 618 = .ok (.getfield 43, 3) := by decide +kernel
theorem dX2_advance_621 : decode cX2_advance 621 = .ok (.baload, 1) := by decide +kernel
theorem dX2_advance_622 : decode cX2_advance 622 = .ok (.bipush 34, 2) := by decide +kernel
theorem dX2_advance_624 : decode cX2_advance 624 = .ok (.if_icmp .ne 20, 3) := by decide +kernel
theorem dX2_advance_627 : decode cX2_advance 627 = .ok (.aload_n 0, 1) := by decide +kernel
theorem dX2_advance_628 : decode cX2_advance 628 = .ok (.getfield 43, 3) := by decide +kernel
theorem dX2_advance_631 : decode cX2_advance 631 = .ok (.iload_n 1, 1) := by decide +kernel
theorem dX2_advance_632 : decode cX2_advance 632 = .ok (.isub, 1) := by decide +kernel
theorem dX2_advance_633 : decode cX2_advance 633 = .ok (.iconst 1, 1) := by decide +kernel
theorem dX2_advance_634 : decode cX2_advance 634 = .ok (.isub, 1) := by decide +kernel
theorem dX2_advance_635 : decode cX2_advance 635 = .ok (.bipush 100, 2) := by decide +kernel
theorem dX2_advance_637 : decode cX2_advance 637 = .ok (.if_icmp .gt 7, 3) := by decide +kernel
theorem dX2_advance_640 : decode cX2_advance 640 = .ok (.iconst 4, 1) := by decide +kernel
theorem dX2_advance_641 : decode cX2_advance 641 = .ok (.goto 4, 3) := by decide +kernel
theorem dX2_advance_644 : decode cX2_advance 644 = .ok (.iconst 0, 1) := by decide +kernel
theorem dX2_advance_645 : decode cX2_advance 645 = .ok (.putfield 52, 3) := by decide +kernel
theorem dX2_advance_648 : decode cX2_advance 648 = .ok (.aload_n 0, 1) := by decide +kernel
theorem dX2_advance_649 : decode cX2_advance 649 = .ok (.dup, 1) := by decide +kernel
theorem dX2_advance_650 : decode cX2_advance 650 = .ok (.getfield 43, 3) := by decide +kernel
theorem dX2_advance_653 : decode cX2_advance 653 = .ok (.iconst 1, 1) := by decide +kernel
theorem dX2_advance_654 : decode cX2_advance 654 = .ok (.iadd, 1) := by decide +kernel
theorem dX2_advance_655 : decode cX2_advance 655 = .ok (.putfield 43, 3) := by decide +kernel
theorem dX2_advance_658 : decode cX2_advance 658 = .ok (.goto 158, 3) := by decide +kernel
theorem dX2_advance_661 : decode cX2_advance 661 = .ok (.iload 4, 2) := by decide +kernel
theorem dX2_advance_663 : decode cX2_advance 663 = .ok (.bipush 61, 2) := by decide +kernel
theorem dX2_advance_665 : decode cX2_advance 665 = .ok (.if_icmp .ne 89, 3) := by decide +kernel
theorem dX2_advance_668 : decode cX2_advance 668 = .ok (.aload_n 0, 1) := by decide +kernel
theorem dX2_advance_669 : decode cX2_advance 669 = .ok (.getfield 52, 3) := by decide +kernel
theorem dX2_advance_672 : decode cX2_advance 672 = .ok (.bipush 27, 2) := by decide +kernel
theorem dX2_advance_674 : decode cX2_advance 674 = .ok (.if_icmp .eq 30, 3) := by decide +kernel
theorem dX2_advance_677 : decode cX2_advance 677 = .ok (.aload_n 0, 1) := by decide +kernel
theorem dX2_advance_678 : decode cX2_advance 678 = .ok (.getfield 52, 3) := by decide +kernel
theorem dX2_advance_681 : decode cX2_advance 681 = .ok (.bipush 22, 2) := by decide +kernel
theorem dX2_advance_683 : decode cX2_advance 683 = .ok (.if_icmp .eq 21, 3) := by decide +kernel
theorem dX2_advance_686 : decode cX2_advance 686 = .ok (.aload_n 0, 1) := by decide +kernel
theorem dX2_advance_687 : decode cX2_advance 687 = .ok (.getfield 52, 3) := by decide +kernel
theorem dX2_advance_690 : decode cX2_advance 690 = .ok (.bipush 24, 2) := by decide +kernel
theorem dX2_advance_692 : decode cX2_advance 692 = .ok (.if_icmp .eq 12, 3) := by decide +kernel
theorem dX2_advance_695 : decode cX2_advance 695 = .ok (.aload_n 0, 1) := by decide +kernel
theorem dX2_advance_696 : decode cX2_advance 696 = .ok (.getfield 52, 3) := by decide +kernel
theorem dX2_advance_699 : decode cX2_advance 699 = .ok (.bipush 18, 2) := by decide +kernel
theorem dX2_advance_701 : decode cX2_advance 701 = .ok (.if_icmp .ne 53, 3) := by decide +kernel
theorem dX2_advance_704 : decode cX2_advance 704 = .ok (.aload_n 0, 1) := by decide +kernel
theorem dX2_advance_705 : decode cX2_advance 705 = .ok (.aload_n 0, 1) := by decide +kernel
theorem dX2_advance_706 : decode cX2_advance 706 = .ok (.getfield 52, 3) := by decide +kernel
theorem dX2_advance_709 : decode cX2_advance 709 = .ok (.bipush 18, 2) := by decide +kernel
theorem dX2_advance_711 : decode cX2_advance 711 = .ok (.if_icmp .ne 7, 3) := by decide +kernel
theorem dX2_advance_714 : decode cX2_advance 714 = .ok (.iconst 5, 1) := by decide +kernel
theorem dX2_advance_715 : decode cX2_advance 715 = .ok (.goto 23, 3) := by decide +kernel
theorem dX2_advance_718 : decode cX2_advance 718 = .ok (.aload_n 0, 1) := by decide +kernel
theorem dX2_advance_719 : decode cX2_advance 719 = .ok (.getfield 52, 3) := by decide +kernel
theorem dX2_advance_722 : decode cX2_advance 722 = .ok (.bipush 27, 2) := by decide +kernel
theorem dX2_advance_724 : decode cX2_advance 724 = .ok (.if_icmp .ne 8, 3) := by decide +kernel
theorem dX2_advance_727 : decode cX2_advance 727 = .ok (.bipush 21, 2) := by decide +kernel
theorem dX2_advance_729 : decode cX2_advance 729 = .ok (.goto 9, 3) := by decide +kernel
theorem dX2_advance_732 : decode cX2_advance 732 = .ok (.aload_n 0, 1) := by decide +kernel
theorem dX2_advance_733 : decode cX2_advance 733 = .ok (.getfield 52, 3) := by decide +kernel
theorem dX2_advance_736 : decode cX2_advance 736 = .ok (.iconst 1, 1) := by decide +kernel
theorem dX2_advance_737 : decode cX2_advance 737 = .ok (.iadd, 1) := by decide +kernel
theorem dX2_advance_738 : decode cX2_advance 738 = .ok (.putfield 52, 3) := by decide +kernel
theorem dX2_advance_741 : decode cX2_advance 741 = .ok (.aload_n 0, 1) := by decide +kernel
theorem dX2_advance_742 : decode cX2_advance 742 = .ok (.dup, 1) := by decide +kernel
theorem dX2_advance_743 : decode cX2_advance 743 = .ok (.getfield 43, 3) := by decide +kernel
theorem dX2_advance_746 : decode cX2_advance 746 = .ok (.iconst 1, 1) := by decide +kernel
theorem dX2_advance_747 : decode cX2_advance 747 = .ok (.iadd, 1) := by decide +kernel
theorem dX2_advance_748 : decode cX2_advance 748 = .ok (.putfield 43, 3) := by decide +kernel
theorem dX2_advance_751 : decode cX2_advance 751 = .ok (.goto 65, 3) := by decide +kernel
theorem dX2_advance_754 : decode cX2_advance 754 = .ok (.aload_n 0, 1) := by decide +kernel
theorem dX2_advance_755 : decode cX2_advance 755 = .ok (.getfield 52, 3) := by decide +kernel
theorem dX2_advance_758 : decode cX2_advance 758 = .ok (.bipush 8, 2) := by decide +kernel
theorem dX2_advance_760 : decode cX2_advance 760 = .ok (.if_icmp .ne 10, 3) := by decide +kernel
theorem dX2_advance_763 : decode cX2_advance 763 = .ok (.iload 4, 2) := by decide +kernel
theorem dX2_advance_765 : decode cX2_advance 765 = .ok (.bipush 42, 2) := by decide +kernel
theorem dX2_advance_767 : decode cX2_advance 767 = .ok (.if_icmp .eq 19, 3) := by decide +kernel
theorem dX2_advance_770 : decode cX2_advance 770 = .ok (.aload_n 0, 1) := by decide +kernel
theorem dX2_advance_771 : decode cX2_advance 771 = .ok (.getfield 52, 3) := by decide +kernel
theorem dX2_advance_774 : decode cX2_advance 774 = .ok (.bipush 29, 2) := by decide +kernel
theorem dX2_advance_776 : decode cX2_advance 776 = .ok (.if_icmp .ne 40, 3) := by decide +kernel
theorem dX2_advance_779 : decode cX2_advance 779 = .ok (.iload 4, 2) := by decide +kernel
theorem dX2_advance_781 : decode cX2_advance 781 = .ok (.bipush 46, 2) := by decide +kernel
theorem dX2_advance_783 : decode cX2_advance 783 = .ok (.if_icmp .ne 33, 3) := by decide +kernel
theorem dX2_advance_786 : decode cX2_advance 786 = .ok (.aload_n 0, 1) := by decide +kernel
theorem dX2_advance_787 : decode cX2_advance 787 = .ok (.aload_n 0, 1) := by decide +kernel
theorem dX2_advance_788 : decode cX2_advance 788 = .ok (.getfield 52, 3) := by decide +kernel
theorem dX2_advance_791 : decode cX2_advance 791 = .ok (.bipush 8, 2) := by decide +kernel
theorem dX2_advance_793 : decode cX2_advance 793 = .ok (.if_icmp .ne 8, 3) := by decide +kernel
theorem dX2_advance_796 : decode cX2_advance 796 = .ok (.bipush 9, 2) := by decide +kernel
theorem dX2_advance_798 : decode cX2_advance 798 = .ok (.goto 5, 3) := by decide +kernel
theorem dX2_advance_801 : decode cX2_advance 801 = .ok (.bipush 28, 2) := by decide +kernel
theorem dX2_advance_803 : decode cX2_advance 803 = .ok (.putfield 52, 3) := by decide +kernel
theorem dX2_advance_806 : decode cX2_advance 806 = .ok (.aload_n 0, 1) := by decide +kernel
theorem dX2_advance_807 : decode cX2_advance 807 = .ok (.dup, 1) := by decide +kernel
theorem dX2_advance_808 : decode cX2_advance 808 = .ok (.getfield 43, 3) := by decide +kernel
theorem dX2_advance_811 : decode cX2_advance 811 = .ok (.iconst 1, 1) := by decide +kernel
theorem dX2_advance_812 : decode cX2_advance 812 = .ok (.iadd, 1) := by decide +kernel
theorem dX2_advance_813 : decode cX2_advance 813 = .ok (.putfield 43, 3) := by decide +kernel
theorem dX2_advance_816 : decode cX2_advance 816 = .ok (.aload_n 0, 1) := by decide +kernel
theorem dX2_advance_817 : decode cX2_advance 817 = .ok (.getfield 52, 3) := by decide +kernel
theorem dX2_advance_820 : decode cX2_advance 820 = .ok (.ifCond .eq 21, 3) := by decide +kernel
theorem dX2_advance_823 : decode cX2_advance 823 = .ok (.aload_n 0, 1) := by decide +kernel
theorem dX2_advance_824 : decode cX2_advance 824 = .ok (.getfield 52, 3) := by decide +kernel
theorem dX2_advance_827 : decode cX2_advance 827 = .ok (.bipush 29, 2) := by decide +kernel
theorem dX2_advance_829 : decode cX2_advance 829 = .ok (.if_icmp .eq 12, 3) := by decide +kernel
theorem dX2_advance_832 : decode cX2_advance 832 = .ok (.aload_n 0, 1) := by decide +kernel
theorem dX2_advance_833 : decode cX2_advance 833 = .ok (.getfield 52, 3) := by decide +kernel
theorem dX2_advance_836 : decode cX2_advance 836 = .ok (.bipush 30, 2) := by decide +kernel
theorem dX2_advance_838 : decode cX2_advance 838 = .ok (.if_icmp .ne 11, 3) := by decide +kernel
theorem dX2_advance_841 : decode cX2_advance 841 = .ok (.new 62, 3) := by decide +kernel
theorem dX2_advance_844 : decode cX2_advance 844 = .ok (.dup, 1) := by decide +kernel
theorem dX2_advance_845 : decode cX2_advance 845 = .ok (.invokespecial 64, 3) := by decide +kernel
theorem dX2_advance_848 : decode cX2_advance 848 = .ok (.athrow, 1) := by decide +kernel
theorem dX2_advance_849 : decode cX2_advance 849 = .ok (.return_, 1) := by decide +kernel
theorem dX5_block_0 : decode cX5_block 0 = .ok (.iconst 0, 1) := by decide +kernel
theorem dX5_block_1 : decode cX5_block 1 = .ok (.istore_n 1, 1) := by decide +kernel
theorem dX5_block_2 : decode cX5_block 2 = .ok (.iload_n 1, 1) := by decide +kernel
theorem dX5_block_3 : decode cX5_block 3 = .ok (.sipush 400, 3) := by decide +kernel
theorem dX5_block_6 : decode cX5_block 6 = .ok (.if_icmp .gt 54, 3) := by decide +kernel
theorem dX5_block_9 : decode cX5_block 9 = .ok (.aload_n 0, 1) := by decide +kernel
theorem dX5_block_10 : decode cX5_block 10 = .ok (.invokevirtual 205, 3) := by decide +kernel
theorem dX5_block_13 : decode cX5_block 13 = .ok (.ifCond .eq 47, 3) := by decide +kernel
theorem dX5_block_16 : decode cX5_block 16 = .ok (.aload_n 0, 1) := by decide +kernel
theorem dX5_block_17 : decode cX5_block 17 = .ok (.invokevirtual 209, 3) := by decide +kernel
theorem dX5_block_20 : decode cX5_block 20 = .ok (.aload_n 0, 1) := by decide +kernel
theorem dX5_block_21 : decode cX5_block 21 = .ok (.getfield 93, 3) := by decide +kernel
theorem dX5_block_24 : decode cX5_block 24 = .ok (.dup, 1) := by decide +kernel
theorem dX5_block_25 : decode cX5_block 25 = .ok (.getfield 212, 3) := by decide +kernel
theorem dX5_block_28 : decode cX5_block 28 = .ok (.iconst 1, 1) := by decide +kernel
theorem dX5_block_29 : decode cX5_block 29 = .ok (.iadd, 1) := by decide +kernel
theorem dX5_block_30 : decode cX5_block 30 = .ok (.putfield 212, 3) := by decide +kernel
theorem dX5_block_33 : decode cX5_block 33 = .ok (.aload_n 0, 1) := by decide +kernel
theorem dX5_block_34 : decode cX5_block 34 = .ok (.getfield 93, 3) := by decide +kernel
theorem dX5_block_37 : decode cX5_block 37 = .ok (.iconst 0, 1) := by decide +kernel
theorem dX5_block_38 : decode cX5_block 38 = .ok (.aload_n 0, 1) := by decide +kernel
theorem dX5_block_39 : decode cX5_block 39 = .ok (.getfield 18, 3) := by decide +kernel
theorem dX5_block_42 : decode cX5_block 42 = .ok (.getfield 78, 3) := by decide +kernel
theorem dX5_block_45 : decode cX5_block 45 = .ok (.invokevirtual 66, 3) := by decide +kernel
theorem dX5_block_48 : decode cX5_block 48 = .ok (.istore_n 2, 1) := by decide +kernel
theorem dX5_block_49 : decode cX5_block 49 = .ok (.aload_n 0, 1) := by decide +kernel
theorem dX5_block_50 : decode cX5_block 50 = .ok (.iload_n 2, 1) := by decide +kernel
theorem dX5_block_51 : decode cX5_block 51 = .ok (.invokevirtual 215, 3) := by decide +kernel
theorem dX5_block_54 : decode cX5_block 54 = .ok (.iinc 1 1, 3) := by decide +kernel
theorem dX5_block_57 : decode cX5_block 57 = .ok (.goto (-55), 3) := by decide +kernel
theorem dX5_block_60 : decode cX5_block 60 = .ok (.return_, 1) := by decide +kernel
theorem dX5_beginsStatement_0 : decode cX5_beginsStatement 0 = .ok (.aload_n 0, 1) := by decide +kernel
theorem dX5_beginsStatement_1 : decode cX5_beginsStatement 1 = .ok (.getfield 18, 3) := by decide +kernel
theorem dX5_beginsStatement_4 : decode cX5_beginsStatement 4 = .ok (.getfield 36, 3) := by decide +kernel
theorem dX5_beginsStatement_7 : decode cX5_beginsStatement 7 = .ok (.tableswitch 235 2 56 #[233, 235, 235, 235, 235, 235, 235, 235, 235, 235, 235, 235, 233, 235, 235, 235, 235, 235, 235, 235, 235, 235, 235, 235, 235, 235, 235, 235, 235, 235, 235, 235, 235, 235, 235, 235, 235, 233, 235, 235, 235, 233, 235, 233, 235, 235, 235, 233, 233, 233, 233, 233, 233, 233, 233], 233) := by decide +kernel
theorem dX5_beginsStatement_240 : decode cX5_beginsStatement 240 = .ok (.iconst 1, 1) := by decide +kernel
theorem dX5_beginsStatement_241 : decode cX5_beginsStatement 241 = .ok (.ireturn, 1) := by decide +kernel
theorem dX5_beginsStatement_242 : decode cX5_beginsStatement 242 = .ok (.iconst 0, 1) := by decide +kernel
theorem dX5_beginsStatement_243 : decode cX5_beginsStatement 243 = .ok (.ireturn, 1) := by decide +kernel
theorem dX5_want_0 : decode cX5_want 0 = .ok (.aload_n 0, 1) := by decide +kernel
theorem dX5_want_1 : decode cX5_want 1 = .ok (.getfield 18, 3) := by decide +kernel
theorem dX5_want_4 : decode cX5_want 4 = .ok (.getfield 36, 3) := by decide +kernel
theorem dX5_want_7 : decode cX5_want 7 = .ok (.iload_n 1, 1) := by decide +kernel
theorem dX5_want_8 : decode cX5_want 8 = .ok (.if_icmp .eq 15, 3) := by decide +kernel
theorem dX5_want_11 : decode cX5_want 11 = .ok (.aload_n 0, 1) := by decide +kernel
theorem dX5_want_12 : decode cX5_want 12 = .ok (.iconst 2, 1) := by decide +kernel
theorem dX5_want_13 : decode cX5_want 13 = .ok (.aload_n 0, 1) := by decide +kernel
theorem dX5_want_14 : decode cX5_want 14 = .ok (.getfield 18, 3) := by decide +kernel
theorem dX5_want_17 : decode cX5_want 17 = .ok (.getfield 78, 3) := by decide +kernel
theorem dX5_want_20 : decode cX5_want 20 = .ok (.invokevirtual 125, 3) := by decide +kernel
theorem dX5_want_23 : decode cX5_want 23 = .ok (.return_, 1) := by decide +kernel
theorem dX7_emit_0 : decode cX7_emit 0 = .ok (.aload_n 0, 1) := by decide +kernel
theorem dX7_emit_1 : decode cX7_emit 1 = .ok (.iconst 1, 1) := by decide +kernel
theorem dX7_emit_2 : decode cX7_emit 2 = .ok (.invokevirtual 85, 3) := by decide +kernel
theorem dX7_emit_5 : decode cX7_emit 5 = .ok (.aload_n 0, 1) := by decide +kernel
theorem dX7_emit_6 : decode cX7_emit 6 = .ok (.getfield 9, 3) := by decide +kernel
theorem dX7_emit_9 : decode cX7_emit 9 = .ok (.aload_n 0, 1) := by decide +kernel
theorem dX7_emit_10 : decode cX7_emit 10 = .ok (.getfield 53, 3) := by decide +kernel
theorem dX7_emit_13 : decode cX7_emit 13 = .ok (.iload_n 1, 1) := by decide +kernel
theorem dX7_emit_14 : decode cX7_emit 14 = .ok (.iload_n 2, 1) := by decide +kernel
theorem dX7_emit_15 : decode cX7_emit 15 = .ok (.bipush 8, 2) := by decide +kernel
theorem dX7_emit_17 : decode cX7_emit 17 = .ok (.ishl, 1) := by decide +kernel
theorem dX7_emit_18 : decode cX7_emit 18 = .ok (.ior, 1) := by decide +kernel
theorem dX7_emit_19 : decode cX7_emit 19 = .ok (.iastore, 1) := by decide +kernel
theorem dX7_emit_20 : decode cX7_emit 20 = .ok (.aload_n 0, 1) := by decide +kernel
theorem dX7_emit_21 : decode cX7_emit 21 = .ok (.dup, 1) := by decide +kernel
theorem dX7_emit_22 : decode cX7_emit 22 = .ok (.getfield 53, 3) := by decide +kernel
theorem dX7_emit_25 : decode cX7_emit 25 = .ok (.iconst 1, 1) := by decide +kernel
theorem dX7_emit_26 : decode cX7_emit 26 = .ok (.iadd, 1) := by decide +kernel
theorem dX7_emit_27 : decode cX7_emit 27 = .ok (.putfield 53, 3) := by decide +kernel
theorem dX7_emit_30 : decode cX7_emit 30 = .ok (.aload_n 0, 1) := by decide +kernel
theorem dX7_emit_31 : decode cX7_emit 31 = .ok (.getfield 53, 3) := by decide +kernel
theorem dX7_emit_34 : decode cX7_emit 34 = .ok (.iconst 1, 1) := by decide +kernel
theorem dX7_emit_35 : decode cX7_emit 35 = .ok (.isub, 1) := by decide +kernel
theorem dX7_emit_36 : decode cX7_emit 36 = .ok (.ireturn, 1) := by decide +kernel
theorem dX7_widen_0 : decode cX7_widen 0 = .ok (.aload_n 0, 1) := by decide +kernel
theorem dX7_widen_1 : decode cX7_widen 1 = .ok (.getfield 53, 3) := by decide +kernel
theorem dX7_widen_4 : decode cX7_widen 4 = .ok (.iload_n 1, 1) := by decide +kernel
theorem dX7_widen_5 : decode cX7_widen 5 = .ok (.iadd, 1) := by decide +kernel
theorem dX7_widen_6 : decode cX7_widen 6 = .ok (.aload_n 0, 1) := by decide +kernel
theorem dX7_widen_7 : decode cX7_widen 7 = .ok (.getfield 9, 3) := by decide +kernel
theorem dX7_widen_10 : decode cX7_widen 10 = .ok (.arraylength, 1) := by decide +kernel
theorem dX7_widen_11 : decode cX7_widen 11 = .ok (.if_icmp .le 26, 3) := by decide +kernel
theorem dX7_widen_14 : decode cX7_widen 14 = .ok (.aload_n 0, 1) := by decide +kernel
theorem dX7_widen_15 : decode cX7_widen 15 = .ok (.getfield 9, 3) := by decide +kernel
theorem dX7_widen_18 : decode cX7_widen 18 = .ok (.arraylength, 1) := by decide +kernel
theorem dX7_widen_19 : decode cX7_widen 19 = .ok (.ldc 88, 2) := by decide +kernel
theorem dX7_widen_21 : decode cX7_widen 21 = .ok (.if_icmp .ge 16, 3) := by decide +kernel
theorem dX7_widen_24 : decode cX7_widen 24 = .ok (.aload_n 0, 1) := by decide +kernel
theorem dX7_widen_25 : decode cX7_widen 25 = .ok (.aload_n 0, 1) := by decide +kernel
theorem dX7_widen_26 : decode cX7_widen 26 = .ok (.getfield 9, 3) := by decide +kernel
theorem dX7_widen_29 : decode cX7_widen 29 = .ok (.ldc 88, 2) := by decide +kernel
theorem dX7_widen_31 : decode cX7_widen 31 = .ok (.invokestatic 89, 3) := by decide +kernel
theorem dX7_widen_34 : decode cX7_widen 34 = .ok (.putfield 9, 3) := by decide +kernel
theorem dX7_widen_37 : decode cX7_widen 37 = .ok (.aload_n 0, 1) := by decide +kernel
theorem dX7_widen_38 : decode cX7_widen 38 = .ok (.getfield 53, 3) := by decide +kernel
theorem dX7_widen_41 : decode cX7_widen 41 = .ok (.iload_n 1, 1) := by decide +kernel
theorem dX7_widen_42 : decode cX7_widen 42 = .ok (.iadd, 1) := by decide +kernel
theorem dX7_widen_43 : decode cX7_widen 43 = .ok (.aload_n 0, 1) := by decide +kernel
theorem dX7_widen_44 : decode cX7_widen 44 = .ok (.getfield 9, 3) := by decide +kernel
theorem dX7_widen_47 : decode cX7_widen 47 = .ok (.arraylength, 1) := by decide +kernel
theorem dX7_widen_48 : decode cX7_widen 48 = .ok (.if_icmp .le 11, 3) := by decide +kernel
theorem dX7_widen_51 : decode cX7_widen 51 = .ok (.new 95, 3) := by decide +kernel
theorem dX7_widen_54 : decode cX7_widen 54 = .ok (.dup, 1) := by decide +kernel
theorem dX7_widen_55 : decode cX7_widen 55 = .ok (.invokespecial 97, 3) := by decide +kernel
theorem dX7_widen_58 : decode cX7_widen 58 = .ok (.athrow, 1) := by decide +kernel
theorem dX7_widen_59 : decode cX7_widen 59 = .ok (.return_, 1) := by decide +kernel
theorem dX7_moveDown_0 : decode cX7_moveDown 0 = .ok (.aload_n 0, 1) := by decide +kernel
theorem dX7_moveDown_1 : decode cX7_moveDown 1 = .ok (.aload_n 0, 1) := by decide +kernel
theorem dX7_moveDown_2 : decode cX7_moveDown 2 = .ok (.getfield 53, 3) := by decide +kernel
theorem dX7_moveDown_5 : decode cX7_moveDown 5 = .ok (.iload_n 1, 1) := by decide +kernel
theorem dX7_moveDown_6 : decode cX7_moveDown 6 = .ok (.isub, 1) := by decide +kernel
theorem dX7_moveDown_7 : decode cX7_moveDown 7 = .ok (.putfield 53, 3) := by decide +kernel
theorem dX7_moveDown_10 : decode cX7_moveDown 10 = .ok (.aload_n 0, 1) := by decide +kernel
theorem dX7_moveDown_11 : decode cX7_moveDown 11 = .ok (.aload_n 0, 1) := by decide +kernel
theorem dX7_moveDown_12 : decode cX7_moveDown 12 = .ok (.getfield 57, 3) := by decide +kernel
theorem dX7_moveDown_15 : decode cX7_moveDown 15 = .ok (.iload_n 1, 1) := by decide +kernel
theorem dX7_moveDown_16 : decode cX7_moveDown 16 = .ok (.isub, 1) := by decide +kernel
theorem dX7_moveDown_17 : decode cX7_moveDown 17 = .ok (.putfield 57, 3) := by decide +kernel
theorem dX7_moveDown_20 : decode cX7_moveDown 20 = .ok (.aload_n 0, 1) := by decide +kernel
theorem dX7_moveDown_21 : decode cX7_moveDown 21 = .ok (.getfield 9, 3) := by decide +kernel
theorem dX7_moveDown_24 : decode cX7_moveDown 24 = .ok (.iload_n 1, 1) := by decide +kernel
theorem dX7_moveDown_25 : decode cX7_moveDown 25 = .ok (.aload_n 0, 1) := by decide +kernel
theorem dX7_moveDown_26 : decode cX7_moveDown 26 = .ok (.getfield 9, 3) := by decide +kernel
theorem dX7_moveDown_29 : decode cX7_moveDown 29 = .ok (.iconst 0, 1) := by decide +kernel
theorem dX7_moveDown_30 : decode cX7_moveDown 30 = .ok (.aload_n 0, 1) := by decide +kernel
theorem dX7_moveDown_31 : decode cX7_moveDown 31 = .ok (.getfield 53, 3) := by decide +kernel
theorem dX7_moveDown_34 : decode cX7_moveDown 34 = .ok (.invokestatic 76, 3) := by decide +kernel
theorem dX7_moveDown_37 : decode cX7_moveDown 37 = .ok (.iconst 0, 1) := by decide +kernel
theorem dX7_moveDown_38 : decode cX7_moveDown 38 = .ok (.istore_n 2, 1) := by decide +kernel
theorem dX7_moveDown_39 : decode cX7_moveDown 39 = .ok (.iload_n 2, 1) := by decide +kernel
theorem dX7_moveDown_40 : decode cX7_moveDown 40 = .ok (.aload_n 0, 1) := by decide +kernel
theorem dX7_moveDown_41 : decode cX7_moveDown 41 = .ok (.getfield 69, 3) := by decide +kernel
theorem dX7_moveDown_44 : decode cX7_moveDown 44 = .ok (.if_icmp .gt 23, 3) := by decide +kernel
theorem dX7_moveDown_47 : decode cX7_moveDown 47 = .ok (.aload_n 0, 1) := by decide +kernel
theorem dX7_moveDown_48 : decode cX7_moveDown 48 = .ok (.getfield 35, 3) := by decide +kernel
theorem dX7_moveDown_51 : decode cX7_moveDown 51 = .ok (.iload_n 2, 1) := by decide +kernel
theorem dX7_moveDown_52 : decode cX7_moveDown 52 = .ok (.aload_n 0, 1) := by decide +kernel
theorem dX7_moveDown_53 : decode cX7_moveDown 53 = .ok (.getfield 35, 3) := by decide +kernel
theorem dX7_moveDown_56 : decode cX7_moveDown 56 = .ok (.iload_n 2, 1) := by decide +kernel
theorem dX7_moveDown_57 : decode cX7_moveDown 57 = .ok (.iaload, 1) := by decide +kernel
theorem dX7_moveDown_58 : decode cX7_moveDown 58 = .ok (.iload_n 1, 1) := by decide +kernel
theorem dX7_moveDown_59 : decode cX7_moveDown 59 = .ok (.isub, 1) := by decide +kernel
theorem dX7_moveDown_60 : decode cX7_moveDown 60 = .ok (.iastore, 1) := by decide +kernel
theorem dX7_moveDown_61 : decode cX7_moveDown 61 = .ok (.iinc 2 1, 3) := by decide +kernel
theorem dX7_moveDown_64 : decode cX7_moveDown 64 = .ok (.goto (-25), 3) := by decide +kernel
theorem dX7_moveDown_67 : decode cX7_moveDown 67 = .ok (.return_, 1) := by decide +kernel
theorem dX11_fault_0 : decode cX11_fault 0 = .ok (.aload_n 0, 1) := by decide +kernel
theorem dX11_fault_1 : decode cX11_fault 1 = .ok (.getfield 137, 3) := by decide +kernel
theorem dX11_fault_4 : decode cX11_fault 4 = .ok (.ireturn, 1) := by decide +kernel
theorem dX11_order_0 : decode cX11_order 0 = .ok (.aload_n 0, 1) := by decide +kernel
theorem dX11_order_1 : decode cX11_order 1 = .ok (.getfield 228, 3) := by decide +kernel
theorem dX11_order_4 : decode cX11_order 4 = .ok (.iconst 2, 1) := by decide +kernel
theorem dX11_order_5 : decode cX11_order 5 = .ok (.if_icmp .ge 7, 3) := by decide +kernel
theorem dX11_order_8 : decode cX11_order 8 = .ok (.iconst 0, 1) := by decide +kernel
theorem dX11_order_9 : decode cX11_order 9 = .ok (.goto 22, 3) := by decide +kernel
theorem dX11_order_12 : decode cX11_order 12 = .ok (.aload_n 0, 1) := by decide +kernel
theorem dX11_order_13 : decode cX11_order 13 = .ok (.getfield 25, 3) := by decide +kernel
theorem dX11_order_16 : decode cX11_order 16 = .ok (.aload_n 0, 1) := by decide +kernel
theorem dX11_order_17 : decode cX11_order 17 = .ok (.getfield 56, 3) := by decide +kernel
theorem dX11_order_20 : decode cX11_order 20 = .ok (.iconst 0, 1) := by decide +kernel
theorem dX11_order_21 : decode cX11_order 21 = .ok (.iaload, 1) := by decide +kernel
theorem dX11_order_22 : decode cX11_order 22 = .ok (.aload_n 0, 1) := by decide +kernel
theorem dX11_order_23 : decode cX11_order 23 = .ok (.getfield 56, 3) := by decide +kernel
theorem dX11_order_26 : decode cX11_order 26 = .ok (.iconst 1, 1) := by decide +kernel
theorem dX11_order_27 : decode cX11_order 27 = .ok (.iaload, 1) := by decide +kernel
theorem dX11_order_28 : decode cX11_order 28 = .ok (.invokevirtual 333, 3) := by decide +kernel
theorem dX11_order_31 : decode cX11_order 31 = .ok (.ireturn, 1) := by decide +kernel
theorem dX11_end_0 : decode cX11_end 0 = .ok (.iload_n 1, 1) := by decide +kernel
theorem dX11_end_1 : decode cX11_end 1 = .ok (.ifCond .lt 14, 3) := by decide +kernel
theorem dX11_end_4 : decode cX11_end 4 = .ok (.iload_n 1, 1) := by decide +kernel
theorem dX11_end_5 : decode cX11_end 5 = .ok (.aload_n 0, 1) := by decide +kernel
theorem dX11_end_6 : decode cX11_end 6 = .ok (.getfield 72, 3) := by decide +kernel
theorem dX11_end_9 : decode cX11_end 9 = .ok (.getfield 115, 3) := by decide +kernel
theorem dX11_end_12 : decode cX11_end 12 = .ok (.if_icmp .le 11, 3) := by decide +kernel
theorem dX11_end_15 : decode cX11_end 15 = .ok (.new 127, 3) := by decide +kernel
theorem dX11_end_18 : decode cX11_end 18 = .ok (.dup, 1) := by decide +kernel
theorem dX11_end_19 : decode cX11_end 19 = .ok (.invokespecial 129, 3) := by decide +kernel
theorem dX11_end_22 : decode cX11_end 22 = .ok (.athrow, 1) := by decide +kernel
theorem dX11_end_23 : decode cX11_end 23 = .ok (.aload_n 0, 1) := by decide +kernel
theorem dX11_end_24 : decode cX11_end 24 = .ok (.getfield 72, 3) := by decide +kernel
theorem dX11_end_27 : decode cX11_end 27 = .ok (.iload_n 1, 1) := by decide +kernel
theorem dX11_end_28 : decode cX11_end 28 = .ok (.putfield 115, 3) := by decide +kernel
theorem dX11_end_31 : decode cX11_end 31 = .ok (.return_, 1) := by decide +kernel
theorem dX11_shape_0 : decode cX11_shape 0 = .ok (.iload_n 1, 1) := by decide +kernel
theorem dX11_shape_1 : decode cX11_shape 1 = .ok (.ifCond .lt 8, 3) := by decide +kernel
theorem dX11_shape_4 : decode cX11_shape 4 = .ok (.iload_n 1, 1) := by decide +kernel
theorem dX11_shape_5 : decode cX11_shape 5 = .ok (.iconst 3, 1) := by decide +kernel
theorem dX11_shape_6 : decode cX11_shape 6 = .ok (.if_icmp .le 11, 3) := by decide +kernel
theorem dX11_shape_9 : decode cX11_shape 9 = .ok (.new 194, 3) := by decide +kernel
theorem dX11_shape_12 : decode cX11_shape 12 = .ok (.dup, 1) := by decide +kernel
theorem dX11_shape_13 : decode cX11_shape 13 = .ok (.invokespecial 196, 3) := by decide +kernel
theorem dX11_shape_16 : decode cX11_shape 16 = .ok (.athrow, 1) := by decide +kernel
theorem dX11_shape_17 : decode cX11_shape 17 = .ok (.iload_n 1, 1) := by decide +kernel
theorem dX11_shape_18 : decode cX11_shape 18 = .ok (.iconst 3, 1) := by decide +kernel
theorem dX11_shape_19 : decode cX11_shape 19 = .ok (.if_icmp .ne 8, 3) := by decide +kernel
theorem dX11_shape_22 : decode cX11_shape 22 = .ok (.aload_n 0, 1) := by decide +kernel
theorem dX11_shape_23 : decode cX11_shape 23 = .ok (.getfield 298, 3) := by decide +kernel
theorem dX11_shape_26 : decode cX11_shape 26 = .ok (.ireturn, 1) := by decide +kernel
theorem dX11_shape_27 : decode cX11_shape 27 = .ok (.aload_n 0, 1) := by decide +kernel
theorem dX11_shape_28 : decode cX11_shape 28 = .ok (.getfield 228, 3) := by decide +kernel
theorem dX11_shape_31 : decode cX11_shape 31 = .ok (.ifCond .ne 5, 3) := by decide +kernel
theorem dX11_shape_34 : decode cX11_shape 34 = .ok (.iconst 0, 1) := by decide +kernel
theorem dX11_shape_35 : decode cX11_shape 35 = .ok (.ireturn, 1) := by decide +kernel
theorem dX11_shape_36 : decode cX11_shape 36 = .ok (.aload_n 0, 1) := by decide +kernel
theorem dX11_shape_37 : decode cX11_shape 37 = .ok (.getfield 56, 3) := by decide +kernel
theorem dX11_shape_40 : decode cX11_shape 40 = .ok (.iconst 0, 1) := by decide +kernel
theorem dX11_shape_41 : decode cX11_shape 41 = .ok (.iaload, 1) := by decide +kernel
theorem dX11_shape_42 : decode cX11_shape 42 = .ok (.istore_n 2, 1) := by decide +kernel
theorem dX11_shape_43 : decode cX11_shape 43 = .ok (.aload_n 0, 1) := by decide +kernel
theorem dX11_shape_44 : decode cX11_shape 44 = .ok (.getfield 25, 3) := by decide +kernel
theorem dX11_shape_47 : decode cX11_shape 47 = .ok (.iload_n 2, 1) := by decide +kernel
theorem dX11_shape_48 : decode cX11_shape 48 = .ok (.invokevirtual 321, 3) := by decide +kernel
theorem dX11_shape_51 : decode cX11_shape 51 = .ok (.istore_n 3, 1) := by decide +kernel
theorem dX11_shape_52 : decode cX11_shape 52 = .ok (.iload_n 1, 1) := by decide +kernel
theorem dX11_shape_53 : decode cX11_shape 53 = .ok (.lookupswitch 38 #[(0, 27), (1, 29)], 27) := by decide +kernel
theorem dX11_shape_80 : decode cX11_shape 80 = .ok (.iload_n 3, 1) := by decide +kernel
theorem dX11_shape_81 : decode cX11_shape 81 = .ok (.ireturn, 1) := by decide +kernel
theorem dX11_shape_82 : decode cX11_shape 82 = .ok (.aload_n 0, 1) := by decide +kernel
theorem dX11_shape_83 : decode cX11_shape 83 = .ok (.getfield 25, 3) := by decide +kernel
theorem dX11_shape_86 : decode cX11_shape 86 = .ok (.iload_n 2, 1) := by decide +kernel
theorem dX11_shape_87 : decode cX11_shape 87 = .ok (.invokevirtual 329, 3) := by decide +kernel
theorem dX11_shape_90 : decode cX11_shape 90 = .ok (.ireturn, 1) := by decide +kernel
theorem dX11_shape_91 : decode cX11_shape 91 = .ok (.iload_n 3, 1) := by decide +kernel
theorem dX11_shape_92 : decode cX11_shape 92 = .ok (.iconst 4, 1) := by decide +kernel
theorem dX11_shape_93 : decode cX11_shape 93 = .ok (.if_icmp .lt 14, 3) := by decide +kernel
theorem dX11_shape_96 : decode cX11_shape 96 = .ok (.aload_n 0, 1) := by decide +kernel
theorem dX11_shape_97 : decode cX11_shape 97 = .ok (.getfield 25, 3) := by decide +kernel
theorem dX11_shape_100 : decode cX11_shape 100 = .ok (.iload_n 2, 1) := by decide +kernel
theorem dX11_shape_101 : decode cX11_shape 101 = .ok (.invokevirtual 331, 3) := by decide +kernel
theorem dX11_shape_104 : decode cX11_shape 104 = .ok (.goto 4, 3) := by decide +kernel
theorem dX11_shape_107 : decode cX11_shape 107 = .ok (.iconst 0, 1) := by decide +kernel
theorem dX11_shape_108 : decode cX11_shape 108 = .ok (.ireturn, 1) := by decide +kernel
theorem dX11_count_0 : decode cX11_count 0 = .ok (.iload_n 1, 1) := by decide +kernel
theorem dX11_count_1 : decode cX11_count 1 = .ok (.tableswitch 74 0 4 #[35, 43, 51, 61, 69], 35) := by decide +kernel
theorem dX11_count_36 : decode cX11_count 36 = .ok (.aload_n 0, 1) := by decide +kernel
theorem dX11_count_37 : decode cX11_count 37 = .ok (.getfield 72, 3) := by decide +kernel
theorem dX11_count_40 : decode cX11_count 40 = .ok (.getfield 115, 3) := by decide +kernel
theorem dX11_count_43 : decode cX11_count 43 = .ok (.ireturn, 1) := by decide +kernel
theorem dX11_count_44 : decode cX11_count 44 = .ok (.aload_n 0, 1) := by decide +kernel
theorem dX11_count_45 : decode cX11_count 45 = .ok (.getfield 88, 3) := by decide +kernel
theorem dX11_count_48 : decode cX11_count 48 = .ok (.getfield 162, 3) := by decide +kernel
theorem dX11_count_51 : decode cX11_count 51 = .ok (.ireturn, 1) := by decide +kernel
theorem dX11_count_52 : decode cX11_count 52 = .ok (.aload_n 0, 1) := by decide +kernel
theorem dX11_count_53 : decode cX11_count 53 = .ok (.getfield 88, 3) := by decide +kernel
theorem dX11_count_56 : decode cX11_count 56 = .ok (.getfield 336, 3) := by decide +kernel
theorem dX11_count_59 : decode cX11_count 59 = .ok (.iconst 0, 1) := by decide +kernel
theorem dX11_count_60 : decode cX11_count 60 = .ok (.iaload, 1) := by decide +kernel
theorem dX11_count_61 : decode cX11_count 61 = .ok (.ireturn, 1) := by decide +kernel
theorem dX11_count_62 : decode cX11_count 62 = .ok (.aload_n 0, 1) := by decide +kernel
theorem dX11_count_63 : decode cX11_count 63 = .ok (.getfield 88, 3) := by decide +kernel
theorem dX11_count_66 : decode cX11_count 66 = .ok (.getfield 339, 3) := by decide +kernel
theorem dX11_count_69 : decode cX11_count 69 = .ok (.ireturn, 1) := by decide +kernel
theorem dX11_count_70 : decode cX11_count 70 = .ok (.aload_n 0, 1) := by decide +kernel
theorem dX11_count_71 : decode cX11_count 71 = .ok (.getfield 159, 3) := by decide +kernel
theorem dX11_count_74 : decode cX11_count 74 = .ok (.ireturn, 1) := by decide +kernel
theorem dX11_count_75 : decode cX11_count 75 = .ok (.new 194, 3) := by decide +kernel
theorem dX11_count_78 : decode cX11_count 78 = .ok (.dup, 1) := by decide +kernel
theorem dX11_count_79 : decode cX11_count 79 = .ok (.invokespecial 196, 3) := by decide +kernel
theorem dX11_count_82 : decode cX11_count 82 = .ok (.athrow, 1) := by decide +kernel
theorem dX11_feed_0 : decode cX11_feed 0 = .ok (.aload_n 0, 1) := by decide +kernel
theorem dX11_feed_1 : decode cX11_feed 1 = .ok (.getfield 72, 3) := by decide +kernel
theorem dX11_feed_4 : decode cX11_feed 4 = .ok (.getfield 115, 3) := by decide +kernel
theorem dX11_feed_7 : decode cX11_feed 7 = .ok (.bipush 20, 2) := by decide +kernel
theorem dX11_feed_9 : decode cX11_feed 9 = .ok (.iadd, 1) := by decide +kernel
theorem dX11_feed_10 : decode cX11_feed 10 = .ok (.ldc 119, 2) := by decide +kernel
theorem dX11_feed_12 : decode cX11_feed 12 = .ok (.if_icmp .le 11, 3) := by decide +kernel
theorem dX11_feed_15 : decode cX11_feed 15 = .ok (.new 120, 3) := by decide +kernel
theorem dX11_feed_18 : decode cX11_feed 18 = .ok (.dup, 1) := by decide +kernel
theorem dX11_feed_19 : decode cX11_feed 19 = .ok (.invokespecial 122, 3) := by decide +kernel
theorem dX11_feed_22 : decode cX11_feed 22 = .ok (.athrow, 1) := by decide +kernel
theorem dX11_feed_23 : decode cX11_feed 23 = .ok (.aload_n 0, 1) := by decide +kernel
theorem dX11_feed_24 : decode cX11_feed 24 = .ok (.getfield 72, 3) := by decide +kernel
theorem dX11_feed_27 : decode cX11_feed 27 = .ok (.iload_n 1, 1) := by decide +kernel
theorem dX11_feed_28 : decode cX11_feed 28 = .ok (.invokevirtual 123, 3) := by decide +kernel
theorem dX11_feed_31 : decode cX11_feed 31 = .ok (.aload_n 0, 1) := by decide +kernel
theorem dX11_feed_32 : decode cX11_feed 32 = .ok (.getfield 72, 3) := by decide +kernel
theorem dX11_feed_35 : decode cX11_feed 35 = .ok (.iload_n 2, 1) := by decide +kernel
theorem dX11_feed_36 : decode cX11_feed 36 = .ok (.invokevirtual 123, 3) := by decide +kernel
theorem dX11_feed_39 : decode cX11_feed 39 = .ok (.aload_n 0, 1) := by decide +kernel
theorem dX11_feed_40 : decode cX11_feed 40 = .ok (.getfield 72, 3) := by decide +kernel
theorem dX11_feed_43 : decode cX11_feed 43 = .ok (.iload_n 3, 1) := by decide +kernel
theorem dX11_feed_44 : decode cX11_feed 44 = .ok (.invokevirtual 123, 3) := by decide +kernel
theorem dX11_feed_47 : decode cX11_feed 47 = .ok (.aload_n 0, 1) := by decide +kernel
theorem dX11_feed_48 : decode cX11_feed 48 = .ok (.getfield 72, 3) := by decide +kernel
theorem dX11_feed_51 : decode cX11_feed 51 = .ok (.iload 4, 2) := by decide +kernel
theorem dX11_feed_53 : decode cX11_feed 53 = .ok (.invokevirtual 123, 3) := by decide +kernel
theorem dX11_feed_56 : decode cX11_feed 56 = .ok (.aload_n 0, 1) := by decide +kernel
theorem dX11_feed_57 : decode cX11_feed 57 = .ok (.getfield 72, 3) := by decide +kernel
theorem dX11_feed_60 : decode cX11_feed 60 = .ok (.iload 5, 2) := by decide +kernel
theorem dX11_feed_62 : decode cX11_feed 62 = .ok (.invokevirtual 123, 3) := by decide +kernel
theorem dX11_feed_65 : decode cX11_feed 65 = .ok (.aload_n 0, 1) := by decide +kernel
theorem dX11_feed_66 : decode cX11_feed 66 = .ok (.getfield 72, 3) := by decide +kernel
theorem dX11_feed_69 : decode cX11_feed 69 = .ok (.getfield 115, 3) := by decide +kernel
theorem dX11_feed_72 : decode cX11_feed 72 = .ok (.ireturn, 1) := by decide +kernel
theorem dX2_append_0 : decode cX2_append 0 = .ok (.aload_n 0, 1) := by decide +kernel
theorem dX2_append_1 : decode cX2_append 1 = .ok (.aload_n 0, 1) := by decide +kernel
theorem dX2_append_2 : decode cX2_append 2 = .ok (.getfield 31, 3) := by decide +kernel
theorem dX2_append_5 : decode cX2_append 5 = .ok (.iconst 4, 1) := by decide +kernel
theorem dX2_append_6 : decode cX2_append 6 = .ok (.iadd, 1) := by decide +kernel
theorem dX2_append_7 : decode cX2_append 7 = .ok (.invokevirtual 34, 3) := by decide +kernel
theorem dX2_append_10 : decode cX2_append 10 = .ok (.bipush 24, 2) := by decide +kernel
theorem dX2_append_12 : decode cX2_append 12 = .ok (.istore_n 2, 1) := by decide +kernel
theorem dX2_append_13 : decode cX2_append 13 = .ok (.iload_n 2, 1) := by decide +kernel
theorem dX2_append_14 : decode cX2_append 14 = .ok (.ifCond .lt 34, 3) := by decide +kernel
theorem dX2_append_17 : decode cX2_append 17 = .ok (.aload_n 0, 1) := by decide +kernel
theorem dX2_append_18 : decode cX2_append 18 = .ok (.getfield 11, 3) := by decide +kernel
theorem dX2_append_21 : decode cX2_append 21 = .ok (.aload_n 0, 1) := by decide +kernel
theorem dX2_append_22 : decode cX2_append 22 = .ok (.getfield 31, 3) := by decide +kernel
theorem dX2_append_25 : decode cX2_append 25 = .ok (.iload_n 1, 1) := by decide +kernel
theorem dX2_append_26 : decode cX2_append 26 = .ok (.iload_n 2, 1) := by decide +kernel
theorem dX2_append_27 : decode cX2_append 27 = .ok (.ishr, 1) := by decide +kernel
theorem dX2_append_28 : decode cX2_append 28 = .ok (.i2b, 1) := by decide +kernel
theorem dX2_append_29 : decode cX2_append 29 = .ok (.bastore, 1) := by decide +kernel
theorem dX2_append_30 : decode cX2_append 30 = .ok (.aload_n 0, 1) := by decide +kernel
theorem dX2_append_31 : decode cX2_append 31 = .ok (.dup, 1) := by decide +kernel
theorem dX2_append_32 : decode cX2_append 32 = .ok (.getfield 31, 3) := by decide +kernel
theorem dX2_append_35 : decode cX2_append 35 = .ok (.iconst 1, 1) := by decide +kernel
theorem dX2_append_36 : decode cX2_append 36 = .ok (.iadd, 1) := by decide +kernel
theorem dX2_append_37 : decode cX2_append 37 = .ok (.putfield 31, 3) := by decide +kernel
theorem dX2_append_40 : decode cX2_append 40 = .ok (.iload_n 2, 1) := by decide +kernel
theorem dX2_append_41 : decode cX2_append 41 = .ok (.bipush 8, 2) := by decide +kernel
theorem dX2_append_43 : decode cX2_append 43 = .ok (.isub, 1) := by decide +kernel
theorem dX2_append_44 : decode cX2_append 44 = .ok (.istore_n 2, 1) := by decide +kernel
theorem dX2_append_45 : decode cX2_append 45 = .ok (.goto (-32), 3) := by decide +kernel
theorem dX2_append_48 : decode cX2_append 48 = .ok (.return_, 1) := by decide +kernel
