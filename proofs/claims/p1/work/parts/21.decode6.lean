/-! decode rows -/
theorem dX11_wantRun_0 : decode cX11_wantRun 0 = .ok (.aload_n 0, 1) := by decide +kernel
theorem dX11_wantRun_1 : decode cX11_wantRun 1 = .ok (.getfield 156, 3) := by decide +kernel
theorem dX11_wantRun_4 : decode cX11_wantRun 4 = .ok (.ifCond .ne 11, 3) := by decide +kernel
theorem dX11_wantRun_7 : decode cX11_wantRun 7 = .ok (.new 165, 3) := by decide +kernel
theorem dX11_wantRun_10 : decode cX11_wantRun 10 = .ok (.dup, 1) := by decide +kernel
theorem dX11_wantRun_11 : decode cX11_wantRun 11 = .ok (.invokespecial 167, 3) := by decide +kernel
theorem dX11_wantRun_14 : decode cX11_wantRun 14 = .ok (.athrow, 1) := by decide +kernel
theorem dX11_wantRun_15 : decode cX11_wantRun 15 = .ok (.return_, 1) := by decide +kernel
theorem dX11_start_0 : decode cX11_start 0 = .ok (.aload_n 0, 1) := by decide +kernel
theorem dX11_start_1 : decode cX11_start 1 = .ok (.getfield 152, 3) := by decide +kernel
theorem dX11_start_4 : decode cX11_start 4 = .ok (.ifCond .ne 11, 3) := by decide +kernel
theorem dX11_start_7 : decode cX11_start 7 = .ok (.new 165, 3) := by decide +kernel
theorem dX11_start_10 : decode cX11_start 10 = .ok (.dup, 1) := by decide +kernel
theorem dX11_start_11 : decode cX11_start 11 = .ok (.invokespecial 167, 3) := by decide +kernel
theorem dX11_start_14 : decode cX11_start 14 = .ok (.athrow, 1) := by decide +kernel
theorem dX11_start_15 : decode cX11_start 15 = .ok (.aload_n 0, 1) := by decide +kernel
theorem dX11_start_16 : decode cX11_start 16 = .ok (.iconst 1, 1) := by decide +kernel
theorem dX11_start_17 : decode cX11_start 17 = .ok (.putfield 156, 3) := by decide +kernel
theorem dX11_start_20 : decode cX11_start 20 = .ok (.aload_n 0, 1) := by decide +kernel
theorem dX11_start_21 : decode cX11_start 21 = .ok (.getfield 65, 3) := by decide +kernel
theorem dX11_start_24 : decode cX11_start 24 = .ok (.aload_n 0, 1) := by decide +kernel
theorem dX11_start_25 : decode cX11_start 25 = .ok (.getfield 88, 3) := by decide +kernel
theorem dX11_start_28 : decode cX11_start 28 = .ok (.lload_n 1, 1) := by decide +kernel
theorem dX11_start_29 : decode cX11_start 29 = .ok (.invokevirtual 168, 3) := by decide +kernel
theorem dX11_start_32 : decode cX11_start 32 = .ok (.aload_n 0, 1) := by decide +kernel
theorem dX11_start_33 : decode cX11_start 33 = .ok (.getfield 65, 3) := by decide +kernel
theorem dX11_start_36 : decode cX11_start 36 = .ok (.iconst 0, 1) := by decide +kernel
theorem dX11_start_37 : decode cX11_start 37 = .ok (.invokevirtual 172, 3) := by decide +kernel
theorem dX11_start_40 : decode cX11_start 40 = .ok (.return_, 1) := by decide +kernel
theorem dX11_view_0 : decode cX11_view 0 = .ok (.aload_n 0, 1) := by decide +kernel
theorem dX11_view_1 : decode cX11_view 1 = .ok (.getfield 152, 3) := by decide +kernel
theorem dX11_view_4 : decode cX11_view 4 = .ok (.ifCond .ne 11, 3) := by decide +kernel
theorem dX11_view_7 : decode cX11_view 7 = .ok (.new 165, 3) := by decide +kernel
theorem dX11_view_10 : decode cX11_view 10 = .ok (.dup, 1) := by decide +kernel
theorem dX11_view_11 : decode cX11_view 11 = .ok (.invokespecial 167, 3) := by decide +kernel
theorem dX11_view_14 : decode cX11_view 14 = .ok (.athrow, 1) := by decide +kernel
theorem dX11_view_15 : decode cX11_view 15 = .ok (.aload_n 0, 1) := by decide +kernel
theorem dX11_view_16 : decode cX11_view 16 = .ok (.getfield 159, 3) := by decide +kernel
theorem dX11_view_19 : decode cX11_view 19 = .ok (.bipush 8, 2) := by decide +kernel
theorem dX11_view_21 : decode cX11_view 21 = .ok (.if_icmp .lt 11, 3) := by decide +kernel
theorem dX11_view_24 : decode cX11_view 24 = .ok (.new 120, 3) := by decide +kernel
theorem dX11_view_27 : decode cX11_view 27 = .ok (.dup, 1) := by decide +kernel
theorem dX11_view_28 : decode cX11_view 28 = .ok (.invokespecial 122, 3) := by decide +kernel
theorem dX11_view_31 : decode cX11_view 31 = .ok (.athrow, 1) := by decide +kernel
theorem dX11_view_32 : decode cX11_view 32 = .ok (.aload_n 0, 1) := by decide +kernel
theorem dX11_view_33 : decode cX11_view 33 = .ok (.getfield 88, 3) := by decide +kernel
theorem dX11_view_36 : decode cX11_view 36 = .ok (.getfield 146, 3) := by decide +kernel
theorem dX11_view_39 : decode cX11_view 39 = .ok (.istore_n 1, 1) := by decide +kernel
theorem dX11_view_40 : decode cX11_view 40 = .ok (.aload_n 0, 1) := by decide +kernel
theorem dX11_view_41 : decode cX11_view 41 = .ok (.getfield 81, 3) := by decide +kernel
theorem dX11_view_44 : decode cX11_view 44 = .ok (.aload_n 0, 1) := by decide +kernel
theorem dX11_view_45 : decode cX11_view 45 = .ok (.getfield 88, 3) := by decide +kernel
theorem dX11_view_48 : decode cX11_view 48 = .ok (.iconst 0, 1) := by decide +kernel
theorem dX11_view_49 : decode cX11_view 49 = .ok (.invokevirtual 294, 3) := by decide +kernel
theorem dX11_view_52 : decode cX11_view 52 = .ok (.istore_n 2, 1) := by decide +kernel
theorem dX11_view_53 : decode cX11_view 53 = .ok (.aload_n 0, 1) := by decide +kernel
theorem dX11_view_54 : decode cX11_view 54 = .ok (.getfield 72, 3) := by decide +kernel
theorem dX11_view_57 : decode cX11_view 57 = .ok (.iconst 0, 1) := by decide +kernel
theorem dX11_view_58 : decode cX11_view 58 = .ok (.putfield 115, 3) := by decide +kernel
theorem dX11_view_61 : decode cX11_view 61 = .ok (.aload_n 0, 1) := by decide +kernel
theorem dX11_view_62 : decode cX11_view 62 = .ok (.aload_n 0, 1) := by decide +kernel
theorem dX11_view_63 : decode cX11_view 63 = .ok (.getfield 81, 3) := by decide +kernel
theorem dX11_view_66 : decode cX11_view 66 = .ok (.getfield 134, 3) := by decide +kernel
theorem dX11_view_69 : decode cX11_view 69 = .ok (.putfield 137, 3) := by decide +kernel
theorem dX11_view_72 : decode cX11_view 72 = .ok (.iload_n 2, 1) := by decide +kernel
theorem dX11_view_73 : decode cX11_view 73 = .ok (.ifCond .ne 13, 3) := by decide +kernel
theorem dX11_view_76 : decode cX11_view 76 = .ok (.iconst (-1), 1) := by decide +kernel
theorem dX11_view_77 : decode cX11_view 77 = .ok (.aload_n 0, 1) := by decide +kernel
theorem dX11_view_78 : decode cX11_view 78 = .ok (.getfield 81, 3) := by decide +kernel
theorem dX11_view_81 : decode cX11_view 81 = .ok (.getfield 143, 3) := by decide +kernel
theorem dX11_view_84 : decode cX11_view 84 = .ok (.isub, 1) := by decide +kernel
theorem dX11_view_85 : decode cX11_view 85 = .ok (.ireturn, 1) := by decide +kernel
theorem dX11_view_86 : decode cX11_view 86 = .ok (.iconst 3, 1) := by decide +kernel
theorem dX11_view_87 : decode cX11_view 87 = .ok (.iconst 3, 1) := by decide +kernel
theorem dX11_view_88 : decode cX11_view 88 = .ok (.aload_n 0, 1) := by decide +kernel
theorem dX11_view_89 : decode cX11_view 89 = .ok (.getfield 159, 3) := by decide +kernel
theorem dX11_view_92 : decode cX11_view 92 = .ok (.imul, 1) := by decide +kernel
theorem dX11_view_93 : decode cX11_view 93 = .ok (.iadd, 1) := by decide +kernel
theorem dX11_view_94 : decode cX11_view 94 = .ok (.istore_n 3, 1) := by decide +kernel
theorem dX11_view_95 : decode cX11_view 95 = .ok (.aload_n 0, 1) := by decide +kernel
theorem dX11_view_96 : decode cX11_view 96 = .ok (.getfield 95, 3) := by decide +kernel
theorem dX11_view_99 : decode cX11_view 99 = .ok (.aload_n 0, 1) := by decide +kernel
theorem dX11_view_100 : decode cX11_view 100 = .ok (.getfield 159, 3) := by decide +kernel
theorem dX11_view_103 : decode cX11_view 103 = .ok (.iload_n 1, 1) := by decide +kernel
theorem dX11_view_104 : decode cX11_view 104 = .ok (.iastore, 1) := by decide +kernel
theorem dX11_view_105 : decode cX11_view 105 = .ok (.aload_n 0, 1) := by decide +kernel
theorem dX11_view_106 : decode cX11_view 106 = .ok (.getfield 98, 3) := by decide +kernel
theorem dX11_view_109 : decode cX11_view 109 = .ok (.aload_n 0, 1) := by decide +kernel
theorem dX11_view_110 : decode cX11_view 110 = .ok (.getfield 159, 3) := by decide +kernel
theorem dX11_view_113 : decode cX11_view 113 = .ok (.iconst 0, 1) := by decide +kernel
theorem dX11_view_114 : decode cX11_view 114 = .ok (.bastore, 1) := by decide +kernel
theorem dX11_view_115 : decode cX11_view 115 = .ok (.aload_n 0, 1) := by decide +kernel
theorem dX11_view_116 : decode cX11_view 116 = .ok (.getfield 56, 3) := by decide +kernel
theorem dX11_view_119 : decode cX11_view 119 = .ok (.iload_n 3, 1) := by decide +kernel
theorem dX11_view_120 : decode cX11_view 120 = .ok (.ldc 106, 2) := by decide +kernel
theorem dX11_view_122 : decode cX11_view 122 = .ok (.iastore, 1) := by decide +kernel
theorem dX11_view_123 : decode cX11_view 123 = .ok (.aload_n 0, 1) := by decide +kernel
theorem dX11_view_124 : decode cX11_view 124 = .ok (.getfield 56, 3) := by decide +kernel
theorem dX11_view_127 : decode cX11_view 127 = .ok (.iload_n 3, 1) := by decide +kernel
theorem dX11_view_128 : decode cX11_view 128 = .ok (.iconst 1, 1) := by decide +kernel
theorem dX11_view_129 : decode cX11_view 129 = .ok (.iadd, 1) := by decide +kernel
theorem dX11_view_130 : decode cX11_view 130 = .ok (.ldc 106, 2) := by decide +kernel
theorem dX11_view_132 : decode cX11_view 132 = .ok (.iastore, 1) := by decide +kernel
theorem dX11_view_133 : decode cX11_view 133 = .ok (.aload_n 0, 1) := by decide +kernel
theorem dX11_view_134 : decode cX11_view 134 = .ok (.getfield 56, 3) := by decide +kernel
theorem dX11_view_137 : decode cX11_view 137 = .ok (.iload_n 3, 1) := by decide +kernel
theorem dX11_view_138 : decode cX11_view 138 = .ok (.iconst 2, 1) := by decide +kernel
theorem dX11_view_139 : decode cX11_view 139 = .ok (.iadd, 1) := by decide +kernel
theorem dX11_view_140 : decode cX11_view 140 = .ok (.ldc 106, 2) := by decide +kernel
theorem dX11_view_142 : decode cX11_view 142 = .ok (.iastore, 1) := by decide +kernel
theorem dX11_view_143 : decode cX11_view 143 = .ok (.aload_n 0, 1) := by decide +kernel
theorem dX11_view_144 : decode cX11_view 144 = .ok (.dup, 1) := by decide +kernel
theorem dX11_view_145 : decode cX11_view 145 = .ok (.getfield 159, 3) := by decide +kernel
theorem dX11_view_148 : decode cX11_view 148 = .ok (.iconst 1, 1) := by decide +kernel
theorem dX11_view_149 : decode cX11_view 149 = .ok (.iadd, 1) := by decide +kernel
theorem dX11_view_150 : decode cX11_view 150 = .ok (.putfield 159, 3) := by decide +kernel
theorem dX11_view_153 : decode cX11_view 153 = .ok (.aload_n 0, 1) := by decide +kernel
theorem dX11_view_154 : decode cX11_view 154 = .ok (.getfield 159, 3) := by decide +kernel
theorem dX11_view_157 : decode cX11_view 157 = .ok (.iconst 1, 1) := by decide +kernel
theorem dX11_view_158 : decode cX11_view 158 = .ok (.isub, 1) := by decide +kernel
theorem dX11_view_159 : decode cX11_view 159 = .ok (.ireturn, 1) := by decide +kernel
theorem dX11_step_0 : decode cX11_step 0 = .ok (.aload_n 0, 1) := by decide +kernel
theorem dX11_step_1 : decode cX11_step 1 = .ok (.invokevirtual 175, 3) := by decide +kernel
theorem dX11_step_4 : decode cX11_step 4 = .ok (.iload_n 1, 1) := by decide +kernel
theorem dX11_step_5 : decode cX11_step 5 = .ok (.ifCond .lt 10, 3) := by decide +kernel
theorem dX11_step_8 : decode cX11_step 8 = .ok (.iload_n 1, 1) := by decide +kernel
theorem dX11_step_9 : decode cX11_step 9 = .ok (.sipush 20000, 3) := by decide +kernel
theorem dX11_step_12 : decode cX11_step 12 = .ok (.if_icmp .le 11, 3) := by decide +kernel
theorem dX11_step_15 : decode cX11_step 15 = .ok (.new 127, 3) := by decide +kernel
theorem dX11_step_18 : decode cX11_step 18 = .ok (.dup, 1) := by decide +kernel
theorem dX11_step_19 : decode cX11_step 19 = .ok (.invokespecial 129, 3) := by decide +kernel
theorem dX11_step_22 : decode cX11_step 22 = .ok (.athrow, 1) := by decide +kernel
theorem dX11_step_23 : decode cX11_step 23 = .ok (.aload_n 0, 1) := by decide +kernel
theorem dX11_step_24 : decode cX11_step 24 = .ok (.getfield 65, 3) := by decide +kernel
theorem dX11_step_27 : decode cX11_step 27 = .ok (.iload_n 1, 1) := by decide +kernel
theorem dX11_step_28 : decode cX11_step 28 = .ok (.invokevirtual 172, 3) := by decide +kernel
theorem dX11_step_31 : decode cX11_step 31 = .ok (.aload_n 0, 1) := by decide +kernel
theorem dX11_step_32 : decode cX11_step 32 = .ok (.getfield 65, 3) := by decide +kernel
theorem dX11_step_35 : decode cX11_step 35 = .ok (.getfield 178, 3) := by decide +kernel
theorem dX11_step_38 : decode cX11_step 38 = .ok (.getfield 182, 3) := by decide +kernel
theorem dX11_step_41 : decode cX11_step 41 = .ok (.ireturn, 1) := by decide +kernel
theorem dX11_back_0 : decode cX11_back 0 = .ok (.aload_n 0, 1) := by decide +kernel
theorem dX11_back_1 : decode cX11_back 1 = .ok (.invokevirtual 175, 3) := by decide +kernel
theorem dX11_back_4 : decode cX11_back 4 = .ok (.iload_n 1, 1) := by decide +kernel
theorem dX11_back_5 : decode cX11_back 5 = .ok (.ifCond .lt 17, 3) := by decide +kernel
theorem dX11_back_8 : decode cX11_back 8 = .ok (.iload_n 1, 1) := by decide +kernel
theorem dX11_back_9 : decode cX11_back 9 = .ok (.aload_n 0, 1) := by decide +kernel
theorem dX11_back_10 : decode cX11_back 10 = .ok (.getfield 65, 3) := by decide +kernel
theorem dX11_back_13 : decode cX11_back 13 = .ok (.getfield 178, 3) := by decide +kernel
theorem dX11_back_16 : decode cX11_back 16 = .ok (.getfield 187, 3) := by decide +kernel
theorem dX11_back_19 : decode cX11_back 19 = .ok (.if_icmp .le 11, 3) := by decide +kernel
theorem dX11_back_22 : decode cX11_back 22 = .ok (.new 127, 3) := by decide +kernel
theorem dX11_back_25 : decode cX11_back 25 = .ok (.dup, 1) := by decide +kernel
theorem dX11_back_26 : decode cX11_back 26 = .ok (.invokespecial 129, 3) := by decide +kernel
theorem dX11_back_29 : decode cX11_back 29 = .ok (.athrow, 1) := by decide +kernel
theorem dX11_back_30 : decode cX11_back 30 = .ok (.iload_n 1, 1) := by decide +kernel
theorem dX11_back_31 : decode cX11_back 31 = .ok (.ifCond .le 29, 3) := by decide +kernel
theorem dX11_back_34 : decode cX11_back 34 = .ok (.aload_n 0, 1) := by decide +kernel
theorem dX11_back_35 : decode cX11_back 35 = .ok (.getfield 65, 3) := by decide +kernel
theorem dX11_back_38 : decode cX11_back 38 = .ok (.aload_n 0, 1) := by decide +kernel
theorem dX11_back_39 : decode cX11_back 39 = .ok (.getfield 65, 3) := by decide +kernel
theorem dX11_back_42 : decode cX11_back 42 = .ok (.aload_n 0, 1) := by decide +kernel
theorem dX11_back_43 : decode cX11_back 43 = .ok (.getfield 65, 3) := by decide +kernel
theorem dX11_back_46 : decode cX11_back 46 = .ok (.getfield 178, 3) := by decide +kernel
theorem dX11_back_49 : decode cX11_back 49 = .ok (.getfield 187, 3) := by decide +kernel
theorem dX11_back_52 : decode cX11_back 52 = .ok (.iload_n 1, 1) := by decide +kernel
theorem dX11_back_53 : decode cX11_back 53 = .ok (.isub, 1) := by decide +kernel
theorem dX11_back_54 : decode cX11_back 54 = .ok (.invokevirtual 190, 3) := by decide +kernel
theorem dX11_back_57 : decode cX11_back 57 = .ok (.invokevirtual 172, 3) := by decide +kernel
theorem dX11_back_60 : decode cX11_back 60 = .ok (.aload_n 0, 1) := by decide +kernel
theorem dX11_back_61 : decode cX11_back 61 = .ok (.getfield 65, 3) := by decide +kernel
theorem dX11_back_64 : decode cX11_back 64 = .ok (.getfield 178, 3) := by decide +kernel
theorem dX11_back_67 : decode cX11_back 67 = .ok (.getfield 187, 3) := by decide +kernel
theorem dX11_back_70 : decode cX11_back 70 = .ok (.ireturn, 1) := by decide +kernel
theorem dX11_value_0 : decode cX11_value 0 = .ok (.aload_n 0, 1) := by decide +kernel
theorem dX11_value_1 : decode cX11_value 1 = .ok (.invokevirtual 175, 3) := by decide +kernel
theorem dX11_value_4 : decode cX11_value 4 = .ok (.aload_n 0, 1) := by decide +kernel
theorem dX11_value_5 : decode cX11_value 5 = .ok (.getfield 72, 3) := by decide +kernel
theorem dX11_value_8 : decode cX11_value 8 = .ok (.invokevirtual 257, 3) := by decide +kernel
theorem dX11_value_11 : decode cX11_value 11 = .ok (.aload_n 0, 1) := by decide +kernel
theorem dX11_value_12 : decode cX11_value 12 = .ok (.getfield 72, 3) := by decide +kernel
theorem dX11_value_15 : decode cX11_value 15 = .ok (.invokevirtual 260, 3) := by decide +kernel
theorem dX11_value_18 : decode cX11_value 18 = .ok (.aload_n 0, 1) := by decide +kernel
theorem dX11_value_19 : decode cX11_value 19 = .ok (.getfield 72, 3) := by decide +kernel
theorem dX11_value_22 : decode cX11_value 22 = .ok (.getfield 262, 3) := by decide +kernel
theorem dX11_value_25 : decode cX11_value 25 = .ok (.iconst 2, 1) := by decide +kernel
theorem dX11_value_26 : decode cX11_value 26 = .ok (.if_icmp .ne 34, 3) := by decide +kernel
theorem dX11_value_29 : decode cX11_value 29 = .ok (.aload_n 0, 1) := by decide +kernel
theorem dX11_value_30 : decode cX11_value 30 = .ok (.getfield 72, 3) := by decide +kernel
theorem dX11_value_33 : decode cX11_value 33 = .ok (.getfield 265, 3) := by decide +kernel
theorem dX11_value_36 : decode cX11_value 36 = .ok (.ifCond .ne 24, 3) := by decide +kernel
theorem dX11_value_39 : decode cX11_value 39 = .ok (.aload_n 0, 1) := by decide +kernel
theorem dX11_value_40 : decode cX11_value 40 = .ok (.getfield 72, 3) := by decide +kernel
theorem dX11_value_43 : decode cX11_value 43 = .ok (.getfield 268, 3) := by decide +kernel
theorem dX11_value_46 : decode cX11_value 46 = .ok (.aload_n 0, 1) := by decide +kernel
theorem dX11_value_47 : decode cX11_value 47 = .ok (.getfield 72, 3) := by decide +kernel
theorem dX11_value_50 : decode cX11_value 50 = .ok (.getfield 115, 3) := by decide +kernel
theorem dX11_value_53 : decode cX11_value 53 = .ok (.if_icmp .ne 7, 3) := by decide +kernel
theorem dX11_value_56 : decode cX11_value 56 = .ok (.iconst 1, 1) := by decide +kernel
theorem dX11_value_57 : decode cX11_value 57 = .ok (.goto 4, 3) := by decide +kernel
theorem dX11_value_60 : decode cX11_value 60 = .ok (.iconst 0, 1) := by decide +kernel
theorem dX11_value_61 : decode cX11_value 61 = .ok (.istore_n 1, 1) := by decide +kernel
theorem dX11_value_62 : decode cX11_value 62 = .ok (.iload_n 1, 1) := by decide +kernel
theorem dX11_value_63 : decode cX11_value 63 = .ok (.ifCond .eq 27, 3) := by decide +kernel
theorem dX11_value_66 : decode cX11_value 66 = .ok (.aload_n 0, 1) := by decide +kernel
theorem dX11_value_67 : decode cX11_value 67 = .ok (.getfield 88, 3) := by decide +kernel
theorem dX11_value_70 : decode cX11_value 70 = .ok (.aload_n 0, 1) := by decide +kernel
theorem dX11_value_71 : decode cX11_value 71 = .ok (.getfield 72, 3) := by decide +kernel
theorem dX11_value_74 : decode cX11_value 74 = .ok (.getfield 271, 3) := by decide +kernel
theorem dX11_value_77 : decode cX11_value 77 = .ok (.aload_n 0, 1) := by decide +kernel
theorem dX11_value_78 : decode cX11_value 78 = .ok (.getfield 72, 3) := by decide +kernel
theorem dX11_value_81 : decode cX11_value 81 = .ok (.getfield 275, 3) := by decide +kernel
theorem dX11_value_84 : decode cX11_value 84 = .ok (.invokevirtual 278, 3) := by decide +kernel
theorem dX11_value_87 : decode cX11_value 87 = .ok (.goto 4, 3) := by decide +kernel
theorem dX11_value_90 : decode cX11_value 90 = .ok (.iconst (-1), 1) := by decide +kernel
theorem dX11_value_91 : decode cX11_value 91 = .ok (.istore_n 2, 1) := by decide +kernel
theorem dX11_value_92 : decode cX11_value 92 = .ok (.iload_n 2, 1) := by decide +kernel
theorem dX11_value_93 : decode cX11_value 93 = .ok (.iconst (-1), 1) := by decide +kernel
theorem dX11_value_94 : decode cX11_value 94 = .ok (.if_icmp .eq 15, 3) := by decide +kernel
theorem dX11_value_97 : decode cX11_value 97 = .ok (.aload_n 0, 1) := by decide +kernel
theorem dX11_value_98 : decode cX11_value 98 = .ok (.getfield 88, 3) := by decide +kernel
theorem dX11_value_101 : decode cX11_value 101 = .ok (.getfield 282, 3) := by decide +kernel
theorem dX11_value_104 : decode cX11_value 104 = .ok (.iload_n 2, 1) := by decide +kernel
theorem dX11_value_105 : decode cX11_value 105 = .ok (.iaload, 1) := by decide +kernel
theorem dX11_value_106 : decode cX11_value 106 = .ok (.ifCond .eq 11, 3) := by decide +kernel
theorem dX11_value_109 : decode cX11_value 109 = .ok (.new 127, 3) := by decide +kernel
theorem dX11_value_112 : decode cX11_value 112 = .ok (.dup, 1) := by decide +kernel
theorem dX11_value_113 : decode cX11_value 113 = .ok (.invokespecial 129, 3) := by decide +kernel
theorem dX11_value_116 : decode cX11_value 116 = .ok (.athrow, 1) := by decide +kernel
theorem dX11_value_117 : decode cX11_value 117 = .ok (.aload_n 0, 1) := by decide +kernel
theorem dX11_value_118 : decode cX11_value 118 = .ok (.getfield 72, 3) := by decide +kernel
theorem dX11_value_121 : decode cX11_value 121 = .ok (.iconst 0, 1) := by decide +kernel
theorem dX11_value_122 : decode cX11_value 122 = .ok (.putfield 115, 3) := by decide +kernel
theorem dX11_value_125 : decode cX11_value 125 = .ok (.aload_n 0, 1) := by decide +kernel
theorem dX11_value_126 : decode cX11_value 126 = .ok (.aload_n 0, 1) := by decide +kernel
theorem dX11_value_127 : decode cX11_value 127 = .ok (.getfield 65, 3) := by decide +kernel
theorem dX11_value_130 : decode cX11_value 130 = .ok (.aload_n 0, 1) := by decide +kernel
theorem dX11_value_131 : decode cX11_value 131 = .ok (.getfield 88, 3) := by decide +kernel
theorem dX11_value_134 : decode cX11_value 134 = .ok (.getfield 285, 3) := by decide +kernel
theorem dX11_value_137 : decode cX11_value 137 = .ok (.iload_n 2, 1) := by decide +kernel
theorem dX11_value_138 : decode cX11_value 138 = .ok (.iaload, 1) := by decide +kernel
theorem dX11_value_139 : decode cX11_value 139 = .ok (.invokevirtual 288, 3) := by decide +kernel
theorem dX11_value_142 : decode cX11_value 142 = .ok (.invokevirtual 291, 3) := by decide +kernel
theorem dX11_value_145 : decode cX11_value 145 = .ok (.ireturn, 1) := by decide +kernel
theorem dX11_work_0 : decode cX11_work 0 = .ok (.aload_n 0, 1) := by decide +kernel
theorem dX11_work_1 : decode cX11_work 1 = .ok (.invokevirtual 175, 3) := by decide +kernel
theorem dX11_work_4 : decode cX11_work 4 = .ok (.aload_n 0, 1) := by decide +kernel
theorem dX11_work_5 : decode cX11_work 5 = .ok (.getfield 88, 3) := by decide +kernel
theorem dX11_work_8 : decode cX11_work 8 = .ok (.getfield 146, 3) := by decide +kernel
theorem dX11_work_11 : decode cX11_work 11 = .ok (.istore_n 1, 1) := by decide +kernel
theorem dX11_work_12 : decode cX11_work 12 = .ok (.aload_n 0, 1) := by decide +kernel
theorem dX11_work_13 : decode cX11_work 13 = .ok (.getfield 81, 3) := by decide +kernel
theorem dX11_work_16 : decode cX11_work 16 = .ok (.aload_n 0, 1) := by decide +kernel
theorem dX11_work_17 : decode cX11_work 17 = .ok (.getfield 88, 3) := by decide +kernel
theorem dX11_work_20 : decode cX11_work 20 = .ok (.iconst 1, 1) := by decide +kernel
theorem dX11_work_21 : decode cX11_work 21 = .ok (.invokevirtual 294, 3) := by decide +kernel
theorem dX11_work_24 : decode cX11_work 24 = .ok (.istore_n 2, 1) := by decide +kernel
theorem dX11_work_25 : decode cX11_work 25 = .ok (.aload_n 0, 1) := by decide +kernel
theorem dX11_work_26 : decode cX11_work 26 = .ok (.getfield 72, 3) := by decide +kernel
theorem dX11_work_29 : decode cX11_work 29 = .ok (.iconst 0, 1) := by decide +kernel
theorem dX11_work_30 : decode cX11_work 30 = .ok (.putfield 115, 3) := by decide +kernel
theorem dX11_work_33 : decode cX11_work 33 = .ok (.aload_n 0, 1) := by decide +kernel
theorem dX11_work_34 : decode cX11_work 34 = .ok (.aload_n 0, 1) := by decide +kernel
theorem dX11_work_35 : decode cX11_work 35 = .ok (.getfield 81, 3) := by decide +kernel
theorem dX11_work_38 : decode cX11_work 38 = .ok (.getfield 134, 3) := by decide +kernel
theorem dX11_work_41 : decode cX11_work 41 = .ok (.putfield 137, 3) := by decide +kernel
theorem dX11_work_44 : decode cX11_work 44 = .ok (.aload_n 0, 1) := by decide +kernel
theorem dX11_work_45 : decode cX11_work 45 = .ok (.iconst 0, 1) := by decide +kernel
theorem dX11_work_46 : decode cX11_work 46 = .ok (.putfield 298, 3) := by decide +kernel
theorem dX11_work_49 : decode cX11_work 49 = .ok (.iload_n 2, 1) := by decide +kernel
theorem dX11_work_50 : decode cX11_work 50 = .ok (.ifCond .ne 14, 3) := by decide +kernel
theorem dX11_work_53 : decode cX11_work 53 = .ok (.bipush (-100), 2) := by decide +kernel
theorem dX11_work_55 : decode cX11_work 55 = .ok (.aload_n 0, 1) := by decide +kernel
theorem dX11_work_56 : decode cX11_work 56 = .ok (.getfield 81, 3) := by decide +kernel
theorem dX11_work_59 : decode cX11_work 59 = .ok (.getfield 143, 3) := by decide +kernel
theorem dX11_work_62 : decode cX11_work 62 = .ok (.isub, 1) := by decide +kernel
theorem dX11_work_63 : decode cX11_work 63 = .ok (.ireturn, 1) := by decide +kernel
theorem dX11_work_64 : decode cX11_work 64 = .ok (.aload_n 0, 1) := by decide +kernel
theorem dX11_work_65 : decode cX11_work 65 = .ok (.getfield 65, 3) := by decide +kernel
theorem dX11_work_68 : decode cX11_work 68 = .ok (.iload_n 1, 1) := by decide +kernel
theorem dX11_work_69 : decode cX11_work 69 = .ok (.invokevirtual 301, 3) := by decide +kernel
theorem dX11_work_72 : decode cX11_work 72 = .ok (.istore_n 3, 1) := by decide +kernel
theorem dX11_work_73 : decode cX11_work 73 = .ok (.aload_n 0, 1) := by decide +kernel
theorem dX11_work_74 : decode cX11_work 74 = .ok (.getfield 88, 3) := by decide +kernel
theorem dX11_work_77 : decode cX11_work 77 = .ok (.iload_n 1, 1) := by decide +kernel
theorem dX11_work_78 : decode cX11_work 78 = .ok (.putfield 146, 3) := by decide +kernel
theorem dX11_work_81 : decode cX11_work 81 = .ok (.aload_n 0, 1) := by decide +kernel
theorem dX11_work_82 : decode cX11_work 82 = .ok (.aload_n 0, 1) := by decide +kernel
theorem dX11_work_83 : decode cX11_work 83 = .ok (.getfield 65, 3) := by decide +kernel
theorem dX11_work_86 : decode cX11_work 86 = .ok (.getfield 304, 3) := by decide +kernel
theorem dX11_work_89 : decode cX11_work 89 = .ok (.putfield 298, 3) := by decide +kernel
theorem dX11_work_92 : decode cX11_work 92 = .ok (.iload_n 3, 1) := by decide +kernel
theorem dX11_work_93 : decode cX11_work 93 = .ok (.invokestatic 307, 3) := by decide +kernel
theorem dX11_work_96 : decode cX11_work 96 = .ok (.ifCond .eq 12, 3) := by decide +kernel
theorem dX11_work_99 : decode cX11_work 99 = .ok (.iconst (-1), 1) := by decide +kernel
theorem dX11_work_100 : decode cX11_work 100 = .ok (.iload_n 3, 1) := by decide +kernel
theorem dX11_work_101 : decode cX11_work 101 = .ok (.bipush 15, 2) := by decide +kernel
theorem dX11_work_103 : decode cX11_work 103 = .ok (.iand, 1) := by decide +kernel
theorem dX11_work_104 : decode cX11_work 104 = .ok (.isub, 1) := by decide +kernel
theorem dX11_work_105 : decode cX11_work 105 = .ok (.goto 8, 3) := by decide +kernel
theorem dX11_work_108 : decode cX11_work 108 = .ok (.aload_n 0, 1) := by decide +kernel
theorem dX11_work_109 : decode cX11_work 109 = .ok (.iload_n 3, 1) := by decide +kernel
theorem dX11_work_110 : decode cX11_work 110 = .ok (.invokevirtual 291, 3) := by decide +kernel
theorem dX11_work_113 : decode cX11_work 113 = .ok (.ireturn, 1) := by decide +kernel
theorem dX11_round_0 : decode cX11_round 0 = .ok (.aload_n 0, 1) := by decide +kernel
theorem dX11_round_1 : decode cX11_round 1 = .ok (.invokevirtual 175, 3) := by decide +kernel
theorem dX11_round_4 : decode cX11_round 4 = .ok (.iconst 0, 1) := by decide +kernel
theorem dX11_round_5 : decode cX11_round 5 = .ok (.istore_n 1, 1) := by decide +kernel
theorem dX11_round_6 : decode cX11_round 6 = .ok (.iconst 0, 1) := by decide +kernel
theorem dX11_round_7 : decode cX11_round 7 = .ok (.istore_n 2, 1) := by decide +kernel
theorem dX11_round_8 : decode cX11_round 8 = .ok (.iload_n 2, 1) := by decide +kernel
theorem dX11_round_9 : decode cX11_round 9 = .ok (.aload_n 0, 1) := by decide +kernel
theorem dX11_round_10 : decode cX11_round 10 = .ok (.getfield 159, 3) := by decide +kernel
theorem dX11_round_13 : decode cX11_round 13 = .ok (.if_icmp .ge 84, 3) := by decide +kernel
theorem dX11_round_16 : decode cX11_round 16 = .ok (.aload_n 0, 1) := by decide +kernel
theorem dX11_round_17 : decode cX11_round 17 = .ok (.getfield 65, 3) := by decide +kernel
theorem dX11_round_20 : decode cX11_round 20 = .ok (.aload_n 0, 1) := by decide +kernel
theorem dX11_round_21 : decode cX11_round 21 = .ok (.getfield 95, 3) := by decide +kernel
theorem dX11_round_24 : decode cX11_round 24 = .ok (.iload_n 2, 1) := by decide +kernel
theorem dX11_round_25 : decode cX11_round 25 = .ok (.iaload, 1) := by decide +kernel
theorem dX11_round_26 : decode cX11_round 26 = .ok (.invokevirtual 301, 3) := by decide +kernel
theorem dX11_round_29 : decode cX11_round 29 = .ok (.istore_n 3, 1) := by decide +kernel
theorem dX11_round_30 : decode cX11_round 30 = .ok (.aload_n 0, 1) := by decide +kernel
theorem dX11_round_31 : decode cX11_round 31 = .ok (.getfield 56, 3) := by decide +kernel
theorem dX11_round_34 : decode cX11_round 34 = .ok (.iconst 2, 1) := by decide +kernel
theorem dX11_round_35 : decode cX11_round 35 = .ok (.iload_n 3, 1) := by decide +kernel
theorem dX11_round_36 : decode cX11_round 36 = .ok (.invokestatic 307, 3) := by decide +kernel
theorem dX11_round_39 : decode cX11_round 39 = .ok (.ifCond .eq 8, 3) := by decide +kernel
theorem dX11_round_42 : decode cX11_round 42 = .ok (.ldc 106, 2) := by decide +kernel
theorem dX11_round_44 : decode cX11_round 44 = .ok (.goto 4, 3) := by decide +kernel
theorem dX11_round_47 : decode cX11_round 47 = .ok (.iload_n 3, 1) := by decide +kernel
theorem dX11_round_48 : decode cX11_round 48 = .ok (.iastore, 1) := by decide +kernel
theorem dX11_round_49 : decode cX11_round 49 = .ok (.aload_n 0, 1) := by decide +kernel
theorem dX11_round_50 : decode cX11_round 50 = .ok (.getfield 65, 3) := by decide +kernel
theorem dX11_round_53 : decode cX11_round 53 = .ok (.invokevirtual 311, 3) := by decide +kernel
theorem dX11_round_56 : decode cX11_round 56 = .ok (.iload_n 1, 1) := by decide +kernel
theorem dX11_round_57 : decode cX11_round 57 = .ok (.aload_n 0, 1) := by decide +kernel
theorem dX11_round_58 : decode cX11_round 58 = .ok (.iconst 3, 1) := by decide +kernel
theorem dX11_round_59 : decode cX11_round 59 = .ok (.iconst 3, 1) := by decide +kernel
theorem dX11_round_60 : decode cX11_round 60 = .ok (.iload_n 2, 1) := by decide +kernel
theorem dX11_round_61 : decode cX11_round 61 = .ok (.imul, 1) := by decide +kernel
theorem dX11_round_62 : decode cX11_round 62 = .ok (.iadd, 1) := by decide +kernel
theorem dX11_round_63 : decode cX11_round 63 = .ok (.invokevirtual 314, 3) := by decide +kernel
theorem dX11_round_66 : decode cX11_round 66 = .ok (.ifCond .eq 7, 3) := by decide +kernel
theorem dX11_round_69 : decode cX11_round 69 = .ok (.iconst 1, 1) := by decide +kernel
theorem dX11_round_70 : decode cX11_round 70 = .ok (.goto 4, 3) := by decide +kernel
theorem dX11_round_73 : decode cX11_round 73 = .ok (.iconst 0, 1) := by decide +kernel
theorem dX11_round_74 : decode cX11_round 74 = .ok (.iadd, 1) := by decide +kernel
theorem dX11_round_75 : decode cX11_round 75 = .ok (.istore_n 1, 1) := by decide +kernel
theorem dX11_round_76 : decode cX11_round 76 = .ok (.aload_n 0, 1) := by decide +kernel
theorem dX11_round_77 : decode cX11_round 77 = .ok (.getfield 56, 3) := by decide +kernel
theorem dX11_round_80 : decode cX11_round 80 = .ok (.iconst 2, 1) := by decide +kernel
theorem dX11_round_81 : decode cX11_round 81 = .ok (.ldc 106, 2) := by decide +kernel
theorem dX11_round_83 : decode cX11_round 83 = .ok (.iastore, 1) := by decide +kernel
theorem dX11_round_84 : decode cX11_round 84 = .ok (.aload_n 0, 1) := by decide +kernel
theorem dX11_round_85 : decode cX11_round 85 = .ok (.getfield 98, 3) := by decide +kernel
theorem dX11_round_88 : decode cX11_round 88 = .ok (.iload_n 2, 1) := by decide +kernel
theorem dX11_round_89 : decode cX11_round 89 = .ok (.iconst 1, 1) := by decide +kernel
theorem dX11_round_90 : decode cX11_round 90 = .ok (.bastore, 1) := by decide +kernel
theorem dX11_round_91 : decode cX11_round 91 = .ok (.iinc 2 1, 3) := by decide +kernel
theorem dX11_round_94 : decode cX11_round 94 = .ok (.goto (-86), 3) := by decide +kernel
theorem dX11_round_97 : decode cX11_round 97 = .ok (.iload_n 1, 1) := by decide +kernel
theorem dX11_round_98 : decode cX11_round 98 = .ok (.ireturn, 1) := by decide +kernel
theorem dX11_out_0 : decode cX11_out 0 = .ok (.aload_n 0, 1) := by decide +kernel
theorem dX11_out_1 : decode cX11_out 1 = .ok (.getfield 156, 3) := by decide +kernel
theorem dX11_out_4 : decode cX11_out 4 = .ok (.ifCond .eq 39, 3) := by decide +kernel
theorem dX11_out_7 : decode cX11_out 7 = .ok (.iload_n 1, 1) := by decide +kernel
theorem dX11_out_8 : decode cX11_out 8 = .ok (.ifCond .lt 35, 3) := by decide +kernel
theorem dX11_out_11 : decode cX11_out 11 = .ok (.iload_n 1, 1) := by decide +kernel
theorem dX11_out_12 : decode cX11_out 12 = .ok (.ldc 224, 2) := by decide +kernel
theorem dX11_out_14 : decode cX11_out 14 = .ok (.if_icmp .ge 29, 3) := by decide +kernel
theorem dX11_out_17 : decode cX11_out 17 = .ok (.iload_n 1, 1) := by decide +kernel
theorem dX11_out_18 : decode cX11_out 18 = .ok (.aload_n 0, 1) := by decide +kernel
theorem dX11_out_19 : decode cX11_out 19 = .ok (.getfield 65, 3) := by decide +kernel
theorem dX11_out_22 : decode cX11_out 22 = .ok (.getfield 178, 3) := by decide +kernel
theorem dX11_out_25 : decode cX11_out 25 = .ok (.getfield 197, 3) := by decide +kernel
theorem dX11_out_28 : decode cX11_out 28 = .ok (.if_icmp .ge 15, 3) := by decide +kernel
theorem dX11_out_31 : decode cX11_out 31 = .ok (.iload_n 1, 1) := by decide +kernel
theorem dX11_out_32 : decode cX11_out 32 = .ok (.aload_n 0, 1) := by decide +kernel
theorem dX11_out_33 : decode cX11_out 33 = .ok (.getfield 65, 3) := by decide +kernel
theorem dX11_out_36 : decode cX11_out 36 = .ok (.getfield 225, 3) := by decide +kernel
theorem dX11_out_39 : decode cX11_out 39 = .ok (.arraylength, 1) := by decide +kernel
theorem dX11_out_40 : decode cX11_out 40 = .ok (.if_icmp .lt 11, 3) := by decide +kernel
theorem dX11_out_43 : decode cX11_out 43 = .ok (.new 194, 3) := by decide +kernel
theorem dX11_out_46 : decode cX11_out 46 = .ok (.dup, 1) := by decide +kernel
theorem dX11_out_47 : decode cX11_out 47 = .ok (.invokespecial 196, 3) := by decide +kernel
theorem dX11_out_50 : decode cX11_out 50 = .ok (.athrow, 1) := by decide +kernel
theorem dX11_out_51 : decode cX11_out 51 = .ok (.aload_n 0, 1) := by decide +kernel
theorem dX11_out_52 : decode cX11_out 52 = .ok (.getfield 65, 3) := by decide +kernel
theorem dX11_out_55 : decode cX11_out 55 = .ok (.getfield 225, 3) := by decide +kernel
theorem dX11_out_58 : decode cX11_out 58 = .ok (.iload_n 1, 1) := by decide +kernel
theorem dX11_out_59 : decode cX11_out 59 = .ok (.baload, 1) := by decide +kernel
theorem dX11_out_60 : decode cX11_out 60 = .ok (.sipush 255, 3) := by decide +kernel
theorem dX11_out_63 : decode cX11_out 63 = .ok (.iand, 1) := by decide +kernel
theorem dX11_out_64 : decode cX11_out 64 = .ok (.ireturn, 1) := by decide +kernel
theorem dX11_state_0 : decode cX11_state 0 = .ok (.iload_n 1, 1) := by decide +kernel
theorem dX11_state_1 : decode cX11_state 1 = .ok (.ifCond .lt 9, 3) := by decide +kernel
theorem dX11_state_4 : decode cX11_state 4 = .ok (.iload_n 1, 1) := by decide +kernel
theorem dX11_state_5 : decode cX11_state 5 = .ok (.bipush 9, 2) := by decide +kernel
theorem dX11_state_7 : decode cX11_state 7 = .ok (.if_icmp .le 11, 3) := by decide +kernel
theorem dX11_state_10 : decode cX11_state 10 = .ok (.new 194, 3) := by decide +kernel
theorem dX11_state_13 : decode cX11_state 13 = .ok (.dup, 1) := by decide +kernel
theorem dX11_state_14 : decode cX11_state 14 = .ok (.invokespecial 196, 3) := by decide +kernel
theorem dX11_state_17 : decode cX11_state 17 = .ok (.athrow, 1) := by decide +kernel
theorem dX11_state_18 : decode cX11_state 18 = .ok (.aload_n 0, 1) := by decide +kernel
theorem dX11_state_19 : decode cX11_state 19 = .ok (.invokevirtual 175, 3) := by decide +kernel
theorem dX11_state_22 : decode cX11_state 22 = .ok (.aload_n 0, 1) := by decide +kernel
theorem dX11_state_23 : decode cX11_state 23 = .ok (.getfield 65, 3) := by decide +kernel
theorem dX11_state_26 : decode cX11_state 26 = .ok (.getfield 178, 3) := by decide +kernel
theorem dX11_state_29 : decode cX11_state 29 = .ok (.astore_n 2, 1) := by decide +kernel
theorem dX11_state_30 : decode cX11_state 30 = .ok (.iload_n 1, 1) := by decide +kernel
theorem dX11_state_31 : decode cX11_state 31 = .ok (.tableswitch 99 0 8 #[49, 54, 59, 64, 69, 74, 79, 89, 94], 49) := by decide +kernel
theorem dX11_state_80 : decode cX11_state 80 = .ok (.aload_n 2, 1) := by decide +kernel
theorem dX11_state_81 : decode cX11_state 81 = .ok (.getfield 187, 3) := by decide +kernel
theorem dX11_state_84 : decode cX11_state 84 = .ok (.ireturn, 1) := by decide +kernel
theorem dX11_state_85 : decode cX11_state 85 = .ok (.aload_n 2, 1) := by decide +kernel
theorem dX11_state_86 : decode cX11_state 86 = .ok (.getfield 197, 3) := by decide +kernel
theorem dX11_state_89 : decode cX11_state 89 = .ok (.ireturn, 1) := by decide +kernel
theorem dX11_state_90 : decode cX11_state 90 = .ok (.aload_n 2, 1) := by decide +kernel
theorem dX11_state_91 : decode cX11_state 91 = .ok (.getfield 200, 3) := by decide +kernel
theorem dX11_state_94 : decode cX11_state 94 = .ok (.ireturn, 1) := by decide +kernel
theorem dX11_state_95 : decode cX11_state 95 = .ok (.aload_n 2, 1) := by decide +kernel
theorem dX11_state_96 : decode cX11_state 96 = .ok (.getfield 203, 3) := by decide +kernel
theorem dX11_state_99 : decode cX11_state 99 = .ok (.ireturn, 1) := by decide +kernel
theorem dX11_state_100 : decode cX11_state 100 = .ok (.aload_n 2, 1) := by decide +kernel
theorem dX11_state_101 : decode cX11_state 101 = .ok (.getfield 206, 3) := by decide +kernel
theorem dX11_state_104 : decode cX11_state 104 = .ok (.ireturn, 1) := by decide +kernel
theorem dX11_state_105 : decode cX11_state 105 = .ok (.aload_n 2, 1) := by decide +kernel
theorem dX11_state_106 : decode cX11_state 106 = .ok (.getfield 209, 3) := by decide +kernel
theorem dX11_state_109 : decode cX11_state 109 = .ok (.ireturn, 1) := by decide +kernel
theorem dX11_state_110 : decode cX11_state 110 = .ok (.aload_n 2, 1) := by decide +kernel
theorem dX11_state_111 : decode cX11_state 111 = .ok (.getfield 212, 3) := by decide +kernel
theorem dX11_state_114 : decode cX11_state 114 = .ok (.aload_n 2, 1) := by decide +kernel
theorem dX11_state_115 : decode cX11_state 115 = .ok (.getfield 215, 3) := by decide +kernel
theorem dX11_state_118 : decode cX11_state 118 = .ok (.iadd, 1) := by decide +kernel
theorem dX11_state_119 : decode cX11_state 119 = .ok (.ireturn, 1) := by decide +kernel
theorem dX11_state_120 : decode cX11_state 120 = .ok (.aload_n 2, 1) := by decide +kernel
theorem dX11_state_121 : decode cX11_state 121 = .ok (.getfield 218, 3) := by decide +kernel
theorem dX11_state_124 : decode cX11_state 124 = .ok (.ireturn, 1) := by decide +kernel
theorem dX11_state_125 : decode cX11_state 125 = .ok (.aload_n 2, 1) := by decide +kernel
theorem dX11_state_126 : decode cX11_state 126 = .ok (.getfield 182, 3) := by decide +kernel
theorem dX11_state_129 : decode cX11_state 129 = .ok (.ireturn, 1) := by decide +kernel
theorem dX11_state_130 : decode cX11_state 130 = .ok (.aload_n 2, 1) := by decide +kernel
theorem dX11_state_131 : decode cX11_state 131 = .ok (.getfield 221, 3) := by decide +kernel
theorem dX11_state_134 : decode cX11_state 134 = .ok (.ireturn, 1) := by decide +kernel
theorem dX11_seen_0 : decode cX11_seen 0 = .ok (.iload_n 1, 1) := by decide +kernel
theorem dX11_seen_1 : decode cX11_seen 1 = .ok (.ifCond .lt 20, 3) := by decide +kernel
theorem dX11_seen_4 : decode cX11_seen 4 = .ok (.iload_n 1, 1) := by decide +kernel
theorem dX11_seen_5 : decode cX11_seen 5 = .ok (.aload_n 0, 1) := by decide +kernel
theorem dX11_seen_6 : decode cX11_seen 6 = .ok (.getfield 159, 3) := by decide +kernel
theorem dX11_seen_9 : decode cX11_seen 9 = .ok (.if_icmp .ge 12, 3) := by decide +kernel
theorem dX11_seen_12 : decode cX11_seen 12 = .ok (.iload_n 2, 1) := by decide +kernel
theorem dX11_seen_13 : decode cX11_seen 13 = .ok (.ifCond .lt 8, 3) := by decide +kernel
theorem dX11_seen_16 : decode cX11_seen 16 = .ok (.iload_n 2, 1) := by decide +kernel
theorem dX11_seen_17 : decode cX11_seen 17 = .ok (.iconst 2, 1) := by decide +kernel
theorem dX11_seen_18 : decode cX11_seen 18 = .ok (.if_icmp .le 11, 3) := by decide +kernel
theorem dX11_seen_21 : decode cX11_seen 21 = .ok (.new 194, 3) := by decide +kernel
theorem dX11_seen_24 : decode cX11_seen 24 = .ok (.dup, 1) := by decide +kernel
theorem dX11_seen_25 : decode cX11_seen 25 = .ok (.invokespecial 196, 3) := by decide +kernel
theorem dX11_seen_28 : decode cX11_seen 28 = .ok (.athrow, 1) := by decide +kernel
theorem dX11_seen_29 : decode cX11_seen 29 = .ok (.aload_n 0, 1) := by decide +kernel
theorem dX11_seen_30 : decode cX11_seen 30 = .ok (.getfield 98, 3) := by decide +kernel
theorem dX11_seen_33 : decode cX11_seen 33 = .ok (.iload_n 1, 1) := by decide +kernel
theorem dX11_seen_34 : decode cX11_seen 34 = .ok (.baload, 1) := by decide +kernel
theorem dX11_seen_35 : decode cX11_seen 35 = .ok (.ifCond .ne 11, 3) := by decide +kernel
theorem dX11_seen_38 : decode cX11_seen 38 = .ok (.new 165, 3) := by decide +kernel
theorem dX11_seen_41 : decode cX11_seen 41 = .ok (.dup, 1) := by decide +kernel
theorem dX11_seen_42 : decode cX11_seen 42 = .ok (.invokespecial 167, 3) := by decide +kernel
theorem dX11_seen_45 : decode cX11_seen 45 = .ok (.athrow, 1) := by decide +kernel
theorem dX11_seen_46 : decode cX11_seen 46 = .ok (.aload_n 0, 1) := by decide +kernel
theorem dX11_seen_47 : decode cX11_seen 47 = .ok (.aload_n 0, 1) := by decide +kernel
theorem dX11_seen_48 : decode cX11_seen 48 = .ok (.getfield 56, 3) := by decide +kernel
theorem dX11_seen_51 : decode cX11_seen 51 = .ok (.iconst 3, 1) := by decide +kernel
theorem dX11_seen_52 : decode cX11_seen 52 = .ok (.iconst 3, 1) := by decide +kernel
theorem dX11_seen_53 : decode cX11_seen 53 = .ok (.iload_n 1, 1) := by decide +kernel
theorem dX11_seen_54 : decode cX11_seen 54 = .ok (.imul, 1) := by decide +kernel
theorem dX11_seen_55 : decode cX11_seen 55 = .ok (.iadd, 1) := by decide +kernel
theorem dX11_seen_56 : decode cX11_seen 56 = .ok (.iload_n 2, 1) := by decide +kernel
theorem dX11_seen_57 : decode cX11_seen 57 = .ok (.iadd, 1) := by decide +kernel
theorem dX11_seen_58 : decode cX11_seen 58 = .ok (.iaload, 1) := by decide +kernel
theorem dX11_seen_59 : decode cX11_seen 59 = .ok (.invokevirtual 291, 3) := by decide +kernel
theorem dX11_seen_62 : decode cX11_seen 62 = .ok (.ireturn, 1) := by decide +kernel
theorem dX11_shown_0 : decode cX11_shown 0 = .ok (.iload_n 1, 1) := by decide +kernel
theorem dX11_shown_1 : decode cX11_shown 1 = .ok (.ifCond .lt 11, 3) := by decide +kernel
theorem dX11_shown_4 : decode cX11_shown 4 = .ok (.iload_n 1, 1) := by decide +kernel
theorem dX11_shown_5 : decode cX11_shown 5 = .ok (.aload_n 0, 1) := by decide +kernel
theorem dX11_shown_6 : decode cX11_shown 6 = .ok (.getfield 241, 3) := by decide +kernel
theorem dX11_shown_9 : decode cX11_shown 9 = .ok (.if_icmp .lt 11, 3) := by decide +kernel
theorem dX11_shown_12 : decode cX11_shown 12 = .ok (.new 194, 3) := by decide +kernel
theorem dX11_shown_15 : decode cX11_shown 15 = .ok (.dup, 1) := by decide +kernel
theorem dX11_shown_16 : decode cX11_shown 16 = .ok (.invokespecial 196, 3) := by decide +kernel
theorem dX11_shown_19 : decode cX11_shown 19 = .ok (.athrow, 1) := by decide +kernel
theorem dX11_shown_20 : decode cX11_shown 20 = .ok (.aload_n 0, 1) := by decide +kernel
theorem dX11_shown_21 : decode cX11_shown 21 = .ok (.getfield 102, 3) := by decide +kernel
theorem dX11_shown_24 : decode cX11_shown 24 = .ok (.iload_n 1, 1) := by decide +kernel
theorem dX11_shown_25 : decode cX11_shown 25 = .ok (.baload, 1) := by decide +kernel
theorem dX11_shown_26 : decode cX11_shown 26 = .ok (.sipush 255, 3) := by decide +kernel
theorem dX11_shown_29 : decode cX11_shown 29 = .ok (.iand, 1) := by decide +kernel
theorem dX11_shown_30 : decode cX11_shown 30 = .ok (.ireturn, 1) := by decide +kernel
