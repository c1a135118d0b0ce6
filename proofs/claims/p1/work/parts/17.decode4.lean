/-! decode rows -/
theorem dX12_thrown_0 : decode cX12_thrown 0 = .ok (.aload_n 0, 1) := by decide +kernel
theorem dX12_thrown_1 : decode cX12_thrown 1 = .ok (.getfield 993, 3) := by decide +kernel
theorem dX12_thrown_4 : decode cX12_thrown 4 = .ok (.ireturn, 1) := by decide +kernel
theorem dX12_fault__0 : decode cX12_fault_ 0 = .ok (.aload_n 0, 1) := by decide +kernel
theorem dX12_fault__1 : decode cX12_fault_ 1 = .ok (.iconst 0, 1) := by decide +kernel
theorem dX12_fault__2 : decode cX12_fault_ 2 = .ok (.putfield 993, 3) := by decide +kernel
theorem dX12_fault__5 : decode cX12_fault_ 5 = .ok (.aload_n 0, 1) := by decide +kernel
theorem dX12_fault__6 : decode cX12_fault_ 6 = .ok (.getfield 15, 3) := by decide +kernel
theorem dX12_fault__9 : decode cX12_fault_ 9 = .ok (.ireturn, 1) := by decide +kernel
theorem dX12_order_0 : decode cX12_order 0 = .ok (.aload_n 0, 1) := by decide +kernel
theorem dX12_order_1 : decode cX12_order 1 = .ok (.iconst 0, 1) := by decide +kernel
theorem dX12_order_2 : decode cX12_order 2 = .ok (.putfield 993, 3) := by decide +kernel
theorem dX12_order_5 : decode cX12_order 5 = .ok (.aload_n 0, 1) := by decide +kernel
theorem dX12_order_6 : decode cX12_order 6 = .ok (.getfield 1032, 3) := by decide +kernel
theorem dX12_order_9 : decode cX12_order 9 = .ok (.iconst 2, 1) := by decide +kernel
theorem dX12_order_10 : decode cX12_order 10 = .ok (.if_icmp .ge 5, 3) := by decide +kernel
theorem dX12_order_13 : decode cX12_order 13 = .ok (.iconst 0, 1) := by decide +kernel
theorem dX12_order_14 : decode cX12_order 14 = .ok (.ireturn, 1) := by decide +kernel
theorem dX12_order_15 : decode cX12_order 15 = .ok (.aload_n 0, 1) := by decide +kernel
theorem dX12_order_16 : decode cX12_order 16 = .ok (.aload_n 0, 1) := by decide +kernel
theorem dX12_order_17 : decode cX12_order 17 = .ok (.getfield 426, 3) := by decide +kernel
theorem dX12_order_20 : decode cX12_order 20 = .ok (.iconst 0, 1) := by decide +kernel
theorem dX12_order_21 : decode cX12_order 21 = .ok (.iaload, 1) := by decide +kernel
theorem dX12_order_22 : decode cX12_order 22 = .ok (.aload_n 0, 1) := by decide +kernel
theorem dX12_order_23 : decode cX12_order 23 = .ok (.getfield 426, 3) := by decide +kernel
theorem dX12_order_26 : decode cX12_order 26 = .ok (.iconst 1, 1) := by decide +kernel
theorem dX12_order_27 : decode cX12_order 27 = .ok (.iaload, 1) := by decide +kernel
theorem dX12_order_28 : decode cX12_order 28 = .ok (.invokevirtual 451, 3) := by decide +kernel
theorem dX12_order_31 : decode cX12_order 31 = .ok (.istore_n 1, 1) := by decide +kernel
theorem dX12_order_32 : decode cX12_order 32 = .ok (.iload_n 1, 1) := by decide +kernel
theorem dX12_order_33 : decode cX12_order 33 = .ok (.ifCond .ge 7, 3) := by decide +kernel
theorem dX12_order_36 : decode cX12_order 36 = .ok (.iconst (-1), 1) := by decide +kernel
theorem dX12_order_37 : decode cX12_order 37 = .ok (.goto 12, 3) := by decide +kernel
theorem dX12_order_40 : decode cX12_order 40 = .ok (.iload_n 1, 1) := by decide +kernel
theorem dX12_order_41 : decode cX12_order 41 = .ok (.ifCond .le 7, 3) := by decide +kernel
theorem dX12_order_44 : decode cX12_order 44 = .ok (.iconst 1, 1) := by decide +kernel
theorem dX12_order_45 : decode cX12_order 45 = .ok (.goto 4, 3) := by decide +kernel
theorem dX12_order_48 : decode cX12_order 48 = .ok (.iconst 0, 1) := by decide +kernel
theorem dX12_order_49 : decode cX12_order 49 = .ok (.ireturn, 1) := by decide +kernel
theorem dX12_start_0 : decode cX12_start 0 = .ok (.aload_n 0, 1) := by decide +kernel
theorem dX12_start_1 : decode cX12_start 1 = .ok (.aload_n 0, 1) := by decide +kernel
theorem dX12_start_2 : decode cX12_start 2 = .ok (.getfield 1041, 3) := by decide +kernel
theorem dX12_start_5 : decode cX12_start 5 = .ok (.ifCond .eq 7, 3) := by decide +kernel
theorem dX12_start_8 : decode cX12_start 8 = .ok (.iconst 0, 1) := by decide +kernel
theorem dX12_start_9 : decode cX12_start 9 = .ok (.goto 4, 3) := by decide +kernel
theorem dX12_start_12 : decode cX12_start 12 = .ok (.iconst 1, 1) := by decide +kernel
theorem dX12_start_13 : decode cX12_start 13 = .ok (.invokevirtual 1050, 3) := by decide +kernel
theorem dX12_start_16 : decode cX12_start 16 = .ok (.ifCond .ne 4, 3) := by decide +kernel
theorem dX12_start_19 : decode cX12_start 19 = .ok (.return_, 1) := by decide +kernel
theorem dX12_start_20 : decode cX12_start 20 = .ok (.aload_n 0, 1) := by decide +kernel
theorem dX12_start_21 : decode cX12_start 21 = .ok (.lload_n 1, 1) := by decide +kernel
theorem dX12_start_22 : decode cX12_start 22 = .ok (.putfield 1062, 3) := by decide +kernel
theorem dX12_start_25 : decode cX12_start 25 = .ok (.aload_n 0, 1) := by decide +kernel
theorem dX12_start_26 : decode cX12_start 26 = .ok (.iconst 1, 1) := by decide +kernel
theorem dX12_start_27 : decode cX12_start 27 = .ok (.putfield 1044, 3) := by decide +kernel
theorem dX12_start_30 : decode cX12_start 30 = .ok (.aload_n 0, 1) := by decide +kernel
theorem dX12_start_31 : decode cX12_start 31 = .ok (.invokevirtual 1065, 3) := by decide +kernel
theorem dX12_start_34 : decode cX12_start 34 = .ok (.return_, 1) := by decide +kernel
theorem dX12_good_0 : decode cX12_good 0 = .ok (.aload_n 0, 1) := by decide +kernel
theorem dX12_good_1 : decode cX12_good 1 = .ok (.iload_n 1, 1) := by decide +kernel
theorem dX12_good_2 : decode cX12_good 2 = .ok (.putfield 993, 3) := by decide +kernel
theorem dX12_good_5 : decode cX12_good 5 = .ok (.iload_n 1, 1) := by decide +kernel
theorem dX12_good_6 : decode cX12_good 6 = .ok (.ifCond .ne 7, 3) := by decide +kernel
theorem dX12_good_9 : decode cX12_good 9 = .ok (.iconst 1, 1) := by decide +kernel
theorem dX12_good_10 : decode cX12_good 10 = .ok (.goto 4, 3) := by decide +kernel
theorem dX12_good_13 : decode cX12_good 13 = .ok (.iconst 0, 1) := by decide +kernel
theorem dX12_good_14 : decode cX12_good 14 = .ok (.ireturn, 1) := by decide +kernel
theorem dX12_step_0 : decode cX12_step 0 = .ok (.aload_n 0, 1) := by decide +kernel
theorem dX12_step_1 : decode cX12_step 1 = .ok (.aload_n 0, 1) := by decide +kernel
theorem dX12_step_2 : decode cX12_step 2 = .ok (.getfield 1044, 3) := by decide +kernel
theorem dX12_step_5 : decode cX12_step 5 = .ok (.ifCond .ne 7, 3) := by decide +kernel
theorem dX12_step_8 : decode cX12_step 8 = .ok (.iconst 1, 1) := by decide +kernel
theorem dX12_step_9 : decode cX12_step 9 = .ok (.goto 19, 3) := by decide +kernel
theorem dX12_step_12 : decode cX12_step 12 = .ok (.iload_n 1, 1) := by decide +kernel
theorem dX12_step_13 : decode cX12_step 13 = .ok (.ifCond .lt 10, 3) := by decide +kernel
theorem dX12_step_16 : decode cX12_step 16 = .ok (.iload_n 1, 1) := by decide +kernel
theorem dX12_step_17 : decode cX12_step 17 = .ok (.sipush 20000, 3) := by decide +kernel
theorem dX12_step_20 : decode cX12_step 20 = .ok (.if_icmp .le 7, 3) := by decide +kernel
theorem dX12_step_23 : decode cX12_step 23 = .ok (.iconst 2, 1) := by decide +kernel
theorem dX12_step_24 : decode cX12_step 24 = .ok (.goto 4, 3) := by decide +kernel
theorem dX12_step_27 : decode cX12_step 27 = .ok (.iconst 0, 1) := by decide +kernel
theorem dX12_step_28 : decode cX12_step 28 = .ok (.invokevirtual 1050, 3) := by decide +kernel
theorem dX12_step_31 : decode cX12_step 31 = .ok (.ifCond .ne 5, 3) := by decide +kernel
theorem dX12_step_34 : decode cX12_step 34 = .ok (.iconst 0, 1) := by decide +kernel
theorem dX12_step_35 : decode cX12_step 35 = .ok (.ireturn, 1) := by decide +kernel
theorem dX12_step_36 : decode cX12_step 36 = .ok (.iconst 0, 1) := by decide +kernel
theorem dX12_step_37 : decode cX12_step 37 = .ok (.istore_n 2, 1) := by decide +kernel
theorem dX12_step_38 : decode cX12_step 38 = .ok (.iload_n 2, 1) := by decide +kernel
theorem dX12_step_39 : decode cX12_step 39 = .ok (.iload_n 1, 1) := by decide +kernel
theorem dX12_step_40 : decode cX12_step 40 = .ok (.if_icmp .ge 26, 3) := by decide +kernel
theorem dX12_step_43 : decode cX12_step 43 = .ok (.aload_n 0, 1) := by decide +kernel
theorem dX12_step_44 : decode cX12_step 44 = .ok (.getfield 868, 3) := by decide +kernel
theorem dX12_step_47 : decode cX12_step 47 = .ok (.ifCond .ne 19, 3) := by decide +kernel
theorem dX12_step_50 : decode cX12_step 50 = .ok (.aload_n 0, 1) := by decide +kernel
theorem dX12_step_51 : decode cX12_step 51 = .ok (.aload_n 0, 1) := by decide +kernel
theorem dX12_step_52 : decode cX12_step 52 = .ok (.getfield 395, 3) := by decide +kernel
theorem dX12_step_55 : decode cX12_step 55 = .ok (.iconst 0, 1) := by decide +kernel
theorem dX12_step_56 : decode cX12_step 56 = .ok (.iaload, 1) := by decide +kernel
theorem dX12_step_57 : decode cX12_step 57 = .ok (.invokevirtual 1068, 3) := by decide +kernel
theorem dX12_step_60 : decode cX12_step 60 = .ok (.iinc 2 1, 3) := by decide +kernel
theorem dX12_step_63 : decode cX12_step 63 = .ok (.goto (-25), 3) := by decide +kernel
theorem dX12_step_66 : decode cX12_step 66 = .ok (.aload_n 0, 1) := by decide +kernel
theorem dX12_step_67 : decode cX12_step 67 = .ok (.getfield 959, 3) := by decide +kernel
theorem dX12_step_70 : decode cX12_step 70 = .ok (.ifCond .le 7, 3) := by decide +kernel
theorem dX12_step_73 : decode cX12_step 73 = .ok (.iconst 2, 1) := by decide +kernel
theorem dX12_step_74 : decode cX12_step 74 = .ok (.goto 15, 3) := by decide +kernel
theorem dX12_step_77 : decode cX12_step 77 = .ok (.aload_n 0, 1) := by decide +kernel
theorem dX12_step_78 : decode cX12_step 78 = .ok (.getfield 868, 3) := by decide +kernel
theorem dX12_step_81 : decode cX12_step 81 = .ok (.ifCond .eq 7, 3) := by decide +kernel
theorem dX12_step_84 : decode cX12_step 84 = .ok (.iconst 1, 1) := by decide +kernel
theorem dX12_step_85 : decode cX12_step 85 = .ok (.goto 4, 3) := by decide +kernel
theorem dX12_step_88 : decode cX12_step 88 = .ok (.iconst 0, 1) := by decide +kernel
theorem dX12_step_89 : decode cX12_step 89 = .ok (.ireturn, 1) := by decide +kernel
theorem dX12_back_0 : decode cX12_back 0 = .ok (.aload_n 0, 1) := by decide +kernel
theorem dX12_back_1 : decode cX12_back 1 = .ok (.aload_n 0, 1) := by decide +kernel
theorem dX12_back_2 : decode cX12_back 2 = .ok (.getfield 1044, 3) := by decide +kernel
theorem dX12_back_5 : decode cX12_back 5 = .ok (.ifCond .ne 7, 3) := by decide +kernel
theorem dX12_back_8 : decode cX12_back 8 = .ok (.iconst 1, 1) := by decide +kernel
theorem dX12_back_9 : decode cX12_back 9 = .ok (.goto 20, 3) := by decide +kernel
theorem dX12_back_12 : decode cX12_back 12 = .ok (.iload_n 1, 1) := by decide +kernel
theorem dX12_back_13 : decode cX12_back 13 = .ok (.ifCond .lt 11, 3) := by decide +kernel
theorem dX12_back_16 : decode cX12_back 16 = .ok (.iload_n 1, 1) := by decide +kernel
theorem dX12_back_17 : decode cX12_back 17 = .ok (.aload_n 0, 1) := by decide +kernel
theorem dX12_back_18 : decode cX12_back 18 = .ok (.getfield 907, 3) := by decide +kernel
theorem dX12_back_21 : decode cX12_back 21 = .ok (.if_icmp .le 7, 3) := by decide +kernel
theorem dX12_back_24 : decode cX12_back 24 = .ok (.iconst 2, 1) := by decide +kernel
theorem dX12_back_25 : decode cX12_back 25 = .ok (.goto 4, 3) := by decide +kernel
theorem dX12_back_28 : decode cX12_back 28 = .ok (.iconst 0, 1) := by decide +kernel
theorem dX12_back_29 : decode cX12_back 29 = .ok (.invokevirtual 1050, 3) := by decide +kernel
theorem dX12_back_32 : decode cX12_back 32 = .ok (.ifCond .ne 5, 3) := by decide +kernel
theorem dX12_back_35 : decode cX12_back 35 = .ok (.iconst 0, 1) := by decide +kernel
theorem dX12_back_36 : decode cX12_back 36 = .ok (.ireturn, 1) := by decide +kernel
theorem dX12_back_37 : decode cX12_back 37 = .ok (.aload_n 0, 1) := by decide +kernel
theorem dX12_back_38 : decode cX12_back 38 = .ok (.getfield 907, 3) := by decide +kernel
theorem dX12_back_41 : decode cX12_back 41 = .ok (.iload_n 1, 1) := by decide +kernel
theorem dX12_back_42 : decode cX12_back 42 = .ok (.isub, 1) := by decide +kernel
theorem dX12_back_43 : decode cX12_back 43 = .ok (.istore_n 2, 1) := by decide +kernel
theorem dX12_back_44 : decode cX12_back 44 = .ok (.aload_n 0, 1) := by decide +kernel
theorem dX12_back_45 : decode cX12_back 45 = .ok (.invokevirtual 1065, 3) := by decide +kernel
theorem dX12_back_48 : decode cX12_back 48 = .ok (.aload_n 0, 1) := by decide +kernel
theorem dX12_back_49 : decode cX12_back 49 = .ok (.getfield 907, 3) := by decide +kernel
theorem dX12_back_52 : decode cX12_back 52 = .ok (.iload_n 2, 1) := by decide +kernel
theorem dX12_back_53 : decode cX12_back 53 = .ok (.if_icmp .ge 16, 3) := by decide +kernel
theorem dX12_back_56 : decode cX12_back 56 = .ok (.aload_n 0, 1) := by decide +kernel
theorem dX12_back_57 : decode cX12_back 57 = .ok (.aload_n 0, 1) := by decide +kernel
theorem dX12_back_58 : decode cX12_back 58 = .ok (.getfield 395, 3) := by decide +kernel
theorem dX12_back_61 : decode cX12_back 61 = .ok (.iconst 0, 1) := by decide +kernel
theorem dX12_back_62 : decode cX12_back 62 = .ok (.iaload, 1) := by decide +kernel
theorem dX12_back_63 : decode cX12_back 63 = .ok (.invokevirtual 1068, 3) := by decide +kernel
theorem dX12_back_66 : decode cX12_back 66 = .ok (.goto (-18), 3) := by decide +kernel
theorem dX12_back_69 : decode cX12_back 69 = .ok (.iload_n 2, 1) := by decide +kernel
theorem dX12_back_70 : decode cX12_back 70 = .ok (.ireturn, 1) := by decide +kernel
theorem dX12_out_0 : decode cX12_out 0 = .ok (.aload_n 0, 1) := by decide +kernel
theorem dX12_out_1 : decode cX12_out 1 = .ok (.aload_n 0, 1) := by decide +kernel
theorem dX12_out_2 : decode cX12_out 2 = .ok (.getfield 1044, 3) := by decide +kernel
theorem dX12_out_5 : decode cX12_out 5 = .ok (.ifCond .eq 22, 3) := by decide +kernel
theorem dX12_out_8 : decode cX12_out 8 = .ok (.iload_n 1, 1) := by decide +kernel
theorem dX12_out_9 : decode cX12_out 9 = .ok (.ifCond .lt 18, 3) := by decide +kernel
theorem dX12_out_12 : decode cX12_out 12 = .ok (.iload_n 1, 1) := by decide +kernel
theorem dX12_out_13 : decode cX12_out 13 = .ok (.aload_n 0, 1) := by decide +kernel
theorem dX12_out_14 : decode cX12_out 14 = .ok (.getfield 977, 3) := by decide +kernel
theorem dX12_out_17 : decode cX12_out 17 = .ok (.if_icmp .ge 10, 3) := by decide +kernel
theorem dX12_out_20 : decode cX12_out 20 = .ok (.iload_n 1, 1) := by decide +kernel
theorem dX12_out_21 : decode cX12_out 21 = .ok (.ldc_w 368, 3) := by decide +kernel
theorem dX12_out_24 : decode cX12_out 24 = .ok (.if_icmp .lt 7, 3) := by decide +kernel
theorem dX12_out_27 : decode cX12_out 27 = .ok (.iconst 1, 1) := by decide +kernel
theorem dX12_out_28 : decode cX12_out 28 = .ok (.goto 4, 3) := by decide +kernel
theorem dX12_out_31 : decode cX12_out 31 = .ok (.iconst 0, 1) := by decide +kernel
theorem dX12_out_32 : decode cX12_out 32 = .ok (.invokevirtual 1050, 3) := by decide +kernel
theorem dX12_out_35 : decode cX12_out 35 = .ok (.ifCond .eq 12, 3) := by decide +kernel
theorem dX12_out_38 : decode cX12_out 38 = .ok (.aload_n 0, 1) := by decide +kernel
theorem dX12_out_39 : decode cX12_out 39 = .ok (.getfield 980, 3) := by decide +kernel
theorem dX12_out_42 : decode cX12_out 42 = .ok (.iload_n 1, 1) := by decide +kernel
theorem dX12_out_43 : decode cX12_out 43 = .ok (.iaload, 1) := by decide +kernel
theorem dX12_out_44 : decode cX12_out 44 = .ok (.goto 4, 3) := by decide +kernel
theorem dX12_out_47 : decode cX12_out 47 = .ok (.iconst 0, 1) := by decide +kernel
theorem dX12_out_48 : decode cX12_out 48 = .ok (.ireturn, 1) := by decide +kernel
theorem dX12_value_0 : decode cX12_value 0 = .ok (.aload_n 0, 1) := by decide +kernel
theorem dX12_value_1 : decode cX12_value 1 = .ok (.aload_n 0, 1) := by decide +kernel
theorem dX12_value_2 : decode cX12_value 2 = .ok (.getfield 1044, 3) := by decide +kernel
theorem dX12_value_5 : decode cX12_value 5 = .ok (.ifCond .eq 7, 3) := by decide +kernel
theorem dX12_value_8 : decode cX12_value 8 = .ok (.iconst 0, 1) := by decide +kernel
theorem dX12_value_9 : decode cX12_value 9 = .ok (.goto 4, 3) := by decide +kernel
theorem dX12_value_12 : decode cX12_value 12 = .ok (.iconst 1, 1) := by decide +kernel
theorem dX12_value_13 : decode cX12_value 13 = .ok (.invokevirtual 1050, 3) := by decide +kernel
theorem dX12_value_16 : decode cX12_value 16 = .ok (.ifCond .ne 5, 3) := by decide +kernel
theorem dX12_value_19 : decode cX12_value 19 = .ok (.iconst 0, 1) := by decide +kernel
theorem dX12_value_20 : decode cX12_value 20 = .ok (.ireturn, 1) := by decide +kernel
theorem dX12_value_21 : decode cX12_value 21 = .ok (.aload_n 0, 1) := by decide +kernel
theorem dX12_value_22 : decode cX12_value 22 = .ok (.iconst 0, 1) := by decide +kernel
theorem dX12_value_23 : decode cX12_value 23 = .ok (.putfield 32, 3) := by decide +kernel
theorem dX12_value_26 : decode cX12_value 26 = .ok (.aload_n 0, 1) := by decide +kernel
theorem dX12_value_27 : decode cX12_value 27 = .ok (.aload_n 0, 1) := by decide +kernel
theorem dX12_value_28 : decode cX12_value 28 = .ok (.getfield 1, 3) := by decide +kernel
theorem dX12_value_31 : decode cX12_value 31 = .ok (.putfield 55, 3) := by decide +kernel
theorem dX12_value_34 : decode cX12_value 34 = .ok (.iconst 0, 1) := by decide +kernel
theorem dX12_value_35 : decode cX12_value 35 = .ok (.istore_n 1, 1) := by decide +kernel
theorem dX12_value_36 : decode cX12_value 36 = .ok (.iload_n 1, 1) := by decide +kernel
theorem dX12_value_37 : decode cX12_value 37 = .ok (.aload_n 0, 1) := by decide +kernel
theorem dX12_value_38 : decode cX12_value 38 = .ok (.getfield 139, 3) := by decide +kernel
theorem dX12_value_41 : decode cX12_value 41 = .ok (.if_icmp .ge 61, 3) := by decide +kernel
theorem dX12_value_44 : decode cX12_value 44 = .ok (.aload_n 0, 1) := by decide +kernel
theorem dX12_value_45 : decode cX12_value 45 = .ok (.getfield 148, 3) := by decide +kernel
theorem dX12_value_48 : decode cX12_value 48 = .ok (.iload_n 1, 1) := by decide +kernel
theorem dX12_value_49 : decode cX12_value 49 = .ok (.iaload, 1) := by decide +kernel
theorem dX12_value_50 : decode cX12_value 50 = .ok (.iconst 1, 1) := by decide +kernel
theorem dX12_value_51 : decode cX12_value 51 = .ok (.if_icmp .ne 45, 3) := by decide +kernel
theorem dX12_value_54 : decode cX12_value 54 = .ok (.aload_n 0, 1) := by decide +kernel
theorem dX12_value_55 : decode cX12_value 55 = .ok (.aload_n 0, 1) := by decide +kernel
theorem dX12_value_56 : decode cX12_value 56 = .ok (.getfield 142, 3) := by decide +kernel
theorem dX12_value_59 : decode cX12_value 59 = .ok (.iload_n 1, 1) := by decide +kernel
theorem dX12_value_60 : decode cX12_value 60 = .ok (.iaload, 1) := by decide +kernel
theorem dX12_value_61 : decode cX12_value 61 = .ok (.aload_n 0, 1) := by decide +kernel
theorem dX12_value_62 : decode cX12_value 62 = .ok (.getfield 145, 3) := by decide +kernel
theorem dX12_value_65 : decode cX12_value 65 = .ok (.iload_n 1, 1) := by decide +kernel
theorem dX12_value_66 : decode cX12_value 66 = .ok (.iaload, 1) := by decide +kernel
theorem dX12_value_67 : decode cX12_value 67 = .ok (.invokevirtual 123, 3) := by decide +kernel
theorem dX12_value_70 : decode cX12_value 70 = .ok (.ifCond .eq 26, 3) := by decide +kernel
theorem dX12_value_73 : decode cX12_value 73 = .ok (.aload_n 0, 1) := by decide +kernel
theorem dX12_value_74 : decode cX12_value 74 = .ok (.iconst 0, 1) := by decide +kernel
theorem dX12_value_75 : decode cX12_value 75 = .ok (.putfield 1, 3) := by decide +kernel
theorem dX12_value_78 : decode cX12_value 78 = .ok (.aload_n 0, 1) := by decide +kernel
theorem dX12_value_79 : decode cX12_value 79 = .ok (.aload_n 0, 1) := by decide +kernel
theorem dX12_value_80 : decode cX12_value 80 = .ok (.getfield 395, 3) := by decide +kernel
theorem dX12_value_83 : decode cX12_value 83 = .ok (.iconst 4, 1) := by decide +kernel
theorem dX12_value_84 : decode cX12_value 84 = .ok (.aload_n 0, 1) := by decide +kernel
theorem dX12_value_85 : decode cX12_value 85 = .ok (.getfield 151, 3) := by decide +kernel
theorem dX12_value_88 : decode cX12_value 88 = .ok (.iload_n 1, 1) := by decide +kernel
theorem dX12_value_89 : decode cX12_value 89 = .ok (.iaload, 1) := by decide +kernel
theorem dX12_value_90 : decode cX12_value 90 = .ok (.iadd, 1) := by decide +kernel
theorem dX12_value_91 : decode cX12_value 91 = .ok (.iaload, 1) := by decide +kernel
theorem dX12_value_92 : decode cX12_value 92 = .ok (.invokevirtual 1071, 3) := by decide +kernel
theorem dX12_value_95 : decode cX12_value 95 = .ok (.ireturn, 1) := by decide +kernel
theorem dX12_value_96 : decode cX12_value 96 = .ok (.iinc 1 1, 3) := by decide +kernel
theorem dX12_value_99 : decode cX12_value 99 = .ok (.goto (-63), 3) := by decide +kernel
theorem dX12_value_102 : decode cX12_value 102 = .ok (.aload_n 0, 1) := by decide +kernel
theorem dX12_value_103 : decode cX12_value 103 = .ok (.iconst 2, 1) := by decide +kernel
theorem dX12_value_104 : decode cX12_value 104 = .ok (.putfield 993, 3) := by decide +kernel
theorem dX12_value_107 : decode cX12_value 107 = .ok (.iconst 0, 1) := by decide +kernel
theorem dX12_value_108 : decode cX12_value 108 = .ok (.ireturn, 1) := by decide +kernel
theorem dX12_work_0 : decode cX12_work 0 = .ok (.aload_n 0, 1) := by decide +kernel
theorem dX12_work_1 : decode cX12_work 1 = .ok (.aload_n 0, 1) := by decide +kernel
theorem dX12_work_2 : decode cX12_work 2 = .ok (.getfield 1044, 3) := by decide +kernel
theorem dX12_work_5 : decode cX12_work 5 = .ok (.ifCond .eq 7, 3) := by decide +kernel
theorem dX12_work_8 : decode cX12_work 8 = .ok (.iconst 0, 1) := by decide +kernel
theorem dX12_work_9 : decode cX12_work 9 = .ok (.goto 4, 3) := by decide +kernel
theorem dX12_work_12 : decode cX12_work 12 = .ok (.iconst 1, 1) := by decide +kernel
theorem dX12_work_13 : decode cX12_work 13 = .ok (.invokevirtual 1050, 3) := by decide +kernel
theorem dX12_work_16 : decode cX12_work 16 = .ok (.ifCond .ne 5, 3) := by decide +kernel
theorem dX12_work_19 : decode cX12_work 19 = .ok (.iconst 0, 1) := by decide +kernel
theorem dX12_work_20 : decode cX12_work 20 = .ok (.ireturn, 1) := by decide +kernel
theorem dX12_work_21 : decode cX12_work 21 = .ok (.aload_n 0, 1) := by decide +kernel
theorem dX12_work_22 : decode cX12_work 22 = .ok (.getfield 80, 3) := by decide +kernel
theorem dX12_work_25 : decode cX12_work 25 = .ok (.istore_n 1, 1) := by decide +kernel
theorem dX12_work_26 : decode cX12_work 26 = .ok (.aload_n 0, 1) := by decide +kernel
theorem dX12_work_27 : decode cX12_work 27 = .ok (.getfield 105, 3) := by decide +kernel
theorem dX12_work_30 : decode cX12_work 30 = .ok (.istore_n 2, 1) := by decide +kernel
theorem dX12_work_31 : decode cX12_work 31 = .ok (.aload_n 0, 1) := by decide +kernel
theorem dX12_work_32 : decode cX12_work 32 = .ok (.iconst 0, 1) := by decide +kernel
theorem dX12_work_33 : decode cX12_work 33 = .ok (.putfield 15, 3) := by decide +kernel
theorem dX12_work_36 : decode cX12_work 36 = .ok (.aload_n 0, 1) := by decide +kernel
theorem dX12_work_37 : decode cX12_work 37 = .ok (.iconst 1, 1) := by decide +kernel
theorem dX12_work_38 : decode cX12_work 38 = .ok (.invokevirtual 1074, 3) := by decide +kernel
theorem dX12_work_41 : decode cX12_work 41 = .ok (.istore_n 3, 1) := by decide +kernel
theorem dX12_work_42 : decode cX12_work 42 = .ok (.aload_n 0, 1) := by decide +kernel
theorem dX12_work_43 : decode cX12_work 43 = .ok (.iconst 0, 1) := by decide +kernel
theorem dX12_work_44 : decode cX12_work 44 = .ok (.putfield 1, 3) := by decide +kernel
theorem dX12_work_47 : decode cX12_work 47 = .ok (.aload_n 0, 1) := by decide +kernel
theorem dX12_work_48 : decode cX12_work 48 = .ok (.iconst 0, 1) := by decide +kernel
theorem dX12_work_49 : decode cX12_work 49 = .ok (.putfield 1035, 3) := by decide +kernel
theorem dX12_work_52 : decode cX12_work 52 = .ok (.iconst 0, 1) := by decide +kernel
theorem dX12_work_53 : decode cX12_work 53 = .ok (.istore 4, 2) := by decide +kernel
theorem dX12_work_55 : decode cX12_work 55 = .ok (.aload_n 0, 1) := by decide +kernel
theorem dX12_work_56 : decode cX12_work 56 = .ok (.getfield 11, 3) := by decide +kernel
theorem dX12_work_59 : decode cX12_work 59 = .ok (.ifCond .eq 15, 3) := by decide +kernel
theorem dX12_work_62 : decode cX12_work 62 = .ok (.bipush (-100), 2) := by decide +kernel
theorem dX12_work_64 : decode cX12_work 64 = .ok (.aload_n 0, 1) := by decide +kernel
theorem dX12_work_65 : decode cX12_work 65 = .ok (.getfield 18, 3) := by decide +kernel
theorem dX12_work_68 : decode cX12_work 68 = .ok (.isub, 1) := by decide +kernel
theorem dX12_work_69 : decode cX12_work 69 = .ok (.istore 4, 2) := by decide +kernel
theorem dX12_work_71 : decode cX12_work 71 = .ok (.goto 59, 3) := by decide +kernel
theorem dX12_work_74 : decode cX12_work 74 = .ok (.aload_n 0, 1) := by decide +kernel
theorem dX12_work_75 : decode cX12_work 75 = .ok (.getfield 791, 3) := by decide +kernel
theorem dX12_work_78 : decode cX12_work 78 = .ok (.lstore 5, 2) := by decide +kernel
theorem dX12_work_80 : decode cX12_work 80 = .ok (.aload_n 0, 1) := by decide +kernel
theorem dX12_work_81 : decode cX12_work 81 = .ok (.iload_n 3, 1) := by decide +kernel
theorem dX12_work_82 : decode cX12_work 82 = .ok (.invokevirtual 1077, 3) := by decide +kernel
theorem dX12_work_85 : decode cX12_work 85 = .ok (.aload_n 0, 1) := by decide +kernel
theorem dX12_work_86 : decode cX12_work 86 = .ok (.aload_n 0, 1) := by decide +kernel
theorem dX12_work_87 : decode cX12_work 87 = .ok (.getfield 365, 3) := by decide +kernel
theorem dX12_work_90 : decode cX12_work 90 = .ok (.putfield 1035, 3) := by decide +kernel
theorem dX12_work_93 : decode cX12_work 93 = .ok (.aload_n 0, 1) := by decide +kernel
theorem dX12_work_94 : decode cX12_work 94 = .ok (.lload 5, 2) := by decide +kernel
theorem dX12_work_96 : decode cX12_work 96 = .ok (.putfield 791, 3) := by decide +kernel
theorem dX12_work_99 : decode cX12_work 99 = .ok (.aload_n 0, 1) := by decide +kernel
theorem dX12_work_100 : decode cX12_work 100 = .ok (.getfield 362, 3) := by decide +kernel
theorem dX12_work_103 : decode cX12_work 103 = .ok (.ifCond .le 12, 3) := by decide +kernel
theorem dX12_work_106 : decode cX12_work 106 = .ok (.iconst (-1), 1) := by decide +kernel
theorem dX12_work_107 : decode cX12_work 107 = .ok (.aload_n 0, 1) := by decide +kernel
theorem dX12_work_108 : decode cX12_work 108 = .ok (.getfield 362, 3) := by decide +kernel
theorem dX12_work_111 : decode cX12_work 111 = .ok (.isub, 1) := by decide +kernel
theorem dX12_work_112 : decode cX12_work 112 = .ok (.goto 11, 3) := by decide +kernel
theorem dX12_work_115 : decode cX12_work 115 = .ok (.aload_n 0, 1) := by decide +kernel
theorem dX12_work_116 : decode cX12_work 116 = .ok (.aload_n 0, 1) := by decide +kernel
theorem dX12_work_117 : decode cX12_work 117 = .ok (.invokevirtual 572, 3) := by decide +kernel
theorem dX12_work_120 : decode cX12_work 120 = .ok (.invokevirtual 1071, 3) := by decide +kernel
theorem dX12_work_123 : decode cX12_work 123 = .ok (.istore 4, 2) := by decide +kernel
theorem dX12_work_125 : decode cX12_work 125 = .ok (.aload_n 0, 1) := by decide +kernel
theorem dX12_work_126 : decode cX12_work 126 = .ok (.iconst 0, 1) := by decide +kernel
theorem dX12_work_127 : decode cX12_work 127 = .ok (.putfield 362, 3) := by decide +kernel
theorem dX12_work_130 : decode cX12_work 130 = .ok (.aload_n 0, 1) := by decide +kernel
theorem dX12_work_131 : decode cX12_work 131 = .ok (.iload_n 1, 1) := by decide +kernel
theorem dX12_work_132 : decode cX12_work 132 = .ok (.putfield 80, 3) := by decide +kernel
theorem dX12_work_135 : decode cX12_work 135 = .ok (.aload_n 0, 1) := by decide +kernel
theorem dX12_work_136 : decode cX12_work 136 = .ok (.iload_n 2, 1) := by decide +kernel
theorem dX12_work_137 : decode cX12_work 137 = .ok (.putfield 105, 3) := by decide +kernel
theorem dX12_work_140 : decode cX12_work 140 = .ok (.iload 4, 2) := by decide +kernel
theorem dX12_work_142 : decode cX12_work 142 = .ok (.ireturn, 1) := by decide +kernel
theorem dX12_view_0 : decode cX12_view 0 = .ok (.aload_n 0, 1) := by decide +kernel
theorem dX12_view_1 : decode cX12_view 1 = .ok (.aload_n 0, 1) := by decide +kernel
theorem dX12_view_2 : decode cX12_view 2 = .ok (.getfield 1041, 3) := by decide +kernel
theorem dX12_view_5 : decode cX12_view 5 = .ok (.ifCond .ne 7, 3) := by decide +kernel
theorem dX12_view_8 : decode cX12_view 8 = .ok (.iconst 1, 1) := by decide +kernel
theorem dX12_view_9 : decode cX12_view 9 = .ok (.goto 17, 3) := by decide +kernel
theorem dX12_view_12 : decode cX12_view 12 = .ok (.aload_n 0, 1) := by decide +kernel
theorem dX12_view_13 : decode cX12_view 13 = .ok (.getfield 1029, 3) := by decide +kernel
theorem dX12_view_16 : decode cX12_view 16 = .ok (.bipush 8, 2) := by decide +kernel
theorem dX12_view_18 : decode cX12_view 18 = .ok (.if_icmp .ne 7, 3) := by decide +kernel
theorem dX12_view_21 : decode cX12_view 21 = .ok (.iconst 2, 1) := by decide +kernel
theorem dX12_view_22 : decode cX12_view 22 = .ok (.goto 4, 3) := by decide +kernel
theorem dX12_view_25 : decode cX12_view 25 = .ok (.iconst 0, 1) := by decide +kernel
theorem dX12_view_26 : decode cX12_view 26 = .ok (.invokevirtual 1050, 3) := by decide +kernel
theorem dX12_view_29 : decode cX12_view 29 = .ok (.ifCond .ne 5, 3) := by decide +kernel
theorem dX12_view_32 : decode cX12_view 32 = .ok (.iconst 0, 1) := by decide +kernel
theorem dX12_view_33 : decode cX12_view 33 = .ok (.ireturn, 1) := by decide +kernel
theorem dX12_view_34 : decode cX12_view 34 = .ok (.aload_n 0, 1) := by decide +kernel
theorem dX12_view_35 : decode cX12_view 35 = .ok (.getfield 80, 3) := by decide +kernel
theorem dX12_view_38 : decode cX12_view 38 = .ok (.istore_n 1, 1) := by decide +kernel
theorem dX12_view_39 : decode cX12_view 39 = .ok (.aload_n 0, 1) := by decide +kernel
theorem dX12_view_40 : decode cX12_view 40 = .ok (.getfield 105, 3) := by decide +kernel
theorem dX12_view_43 : decode cX12_view 43 = .ok (.istore_n 2, 1) := by decide +kernel
theorem dX12_view_44 : decode cX12_view 44 = .ok (.aload_n 0, 1) := by decide +kernel
theorem dX12_view_45 : decode cX12_view 45 = .ok (.iconst 0, 1) := by decide +kernel
theorem dX12_view_46 : decode cX12_view 46 = .ok (.putfield 15, 3) := by decide +kernel
theorem dX12_view_49 : decode cX12_view 49 = .ok (.aload_n 0, 1) := by decide +kernel
theorem dX12_view_50 : decode cX12_view 50 = .ok (.getfield 1, 3) := by decide +kernel
theorem dX12_view_53 : decode cX12_view 53 = .ok (.istore_n 3, 1) := by decide +kernel
theorem dX12_view_54 : decode cX12_view 54 = .ok (.aload_n 0, 1) := by decide +kernel
theorem dX12_view_55 : decode cX12_view 55 = .ok (.iconst 0, 1) := by decide +kernel
theorem dX12_view_56 : decode cX12_view 56 = .ok (.invokevirtual 1074, 3) := by decide +kernel
theorem dX12_view_59 : decode cX12_view 59 = .ok (.pop, 1) := by decide +kernel
theorem dX12_view_60 : decode cX12_view 60 = .ok (.aload_n 0, 1) := by decide +kernel
theorem dX12_view_61 : decode cX12_view 61 = .ok (.iload_n 1, 1) := by decide +kernel
theorem dX12_view_62 : decode cX12_view 62 = .ok (.putfield 80, 3) := by decide +kernel
theorem dX12_view_65 : decode cX12_view 65 = .ok (.aload_n 0, 1) := by decide +kernel
theorem dX12_view_66 : decode cX12_view 66 = .ok (.iload_n 2, 1) := by decide +kernel
theorem dX12_view_67 : decode cX12_view 67 = .ok (.putfield 105, 3) := by decide +kernel
theorem dX12_view_70 : decode cX12_view 70 = .ok (.aload_n 0, 1) := by decide +kernel
theorem dX12_view_71 : decode cX12_view 71 = .ok (.getfield 11, 3) := by decide +kernel
theorem dX12_view_74 : decode cX12_view 74 = .ok (.ifCond .eq 15, 3) := by decide +kernel
theorem dX12_view_77 : decode cX12_view 77 = .ok (.aload_n 0, 1) := by decide +kernel
theorem dX12_view_78 : decode cX12_view 78 = .ok (.iconst 0, 1) := by decide +kernel
theorem dX12_view_79 : decode cX12_view 79 = .ok (.putfield 1, 3) := by decide +kernel
theorem dX12_view_82 : decode cX12_view 82 = .ok (.iconst (-1), 1) := by decide +kernel
theorem dX12_view_83 : decode cX12_view 83 = .ok (.aload_n 0, 1) := by decide +kernel
theorem dX12_view_84 : decode cX12_view 84 = .ok (.getfield 18, 3) := by decide +kernel
theorem dX12_view_87 : decode cX12_view 87 = .ok (.isub, 1) := by decide +kernel
theorem dX12_view_88 : decode cX12_view 88 = .ok (.ireturn, 1) := by decide +kernel
theorem dX12_view_89 : decode cX12_view 89 = .ok (.iconst 0, 1) := by decide +kernel
theorem dX12_view_90 : decode cX12_view 90 = .ok (.istore 4, 2) := by decide +kernel
theorem dX12_view_92 : decode cX12_view 92 = .ok (.iload 4, 2) := by decide +kernel
theorem dX12_view_94 : decode cX12_view 94 = .ok (.iload_n 3, 1) := by decide +kernel
theorem dX12_view_95 : decode cX12_view 95 = .ok (.if_icmp .ge 32, 3) := by decide +kernel
theorem dX12_view_98 : decode cX12_view 98 = .ok (.aload_n 0, 1) := by decide +kernel
theorem dX12_view_99 : decode cX12_view 99 = .ok (.getfield 1014, 3) := by decide +kernel
theorem dX12_view_102 : decode cX12_view 102 = .ok (.ldc_w 1001, 3) := by decide +kernel
theorem dX12_view_105 : decode cX12_view 105 = .ok (.aload_n 0, 1) := by decide +kernel
theorem dX12_view_106 : decode cX12_view 106 = .ok (.getfield 1029, 3) := by decide +kernel
theorem dX12_view_109 : decode cX12_view 109 = .ok (.imul, 1) := by decide +kernel
theorem dX12_view_110 : decode cX12_view 110 = .ok (.iload 4, 2) := by decide +kernel
theorem dX12_view_112 : decode cX12_view 112 = .ok (.iadd, 1) := by decide +kernel
theorem dX12_view_113 : decode cX12_view 113 = .ok (.aload_n 0, 1) := by decide +kernel
theorem dX12_view_114 : decode cX12_view 114 = .ok (.getfield 7, 3) := by decide +kernel
theorem dX12_view_117 : decode cX12_view 117 = .ok (.iload 4, 2) := by decide +kernel
theorem dX12_view_119 : decode cX12_view 119 = .ok (.iaload, 1) := by decide +kernel
theorem dX12_view_120 : decode cX12_view 120 = .ok (.iastore, 1) := by decide +kernel
theorem dX12_view_121 : decode cX12_view 121 = .ok (.iinc 4 1, 3) := by decide +kernel
theorem dX12_view_124 : decode cX12_view 124 = .ok (.goto (-32), 3) := by decide +kernel
theorem dX12_view_127 : decode cX12_view 127 = .ok (.aload_n 0, 1) := by decide +kernel
theorem dX12_view_128 : decode cX12_view 128 = .ok (.getfield 1017, 3) := by decide +kernel
theorem dX12_view_131 : decode cX12_view 131 = .ok (.aload_n 0, 1) := by decide +kernel
theorem dX12_view_132 : decode cX12_view 132 = .ok (.getfield 1029, 3) := by decide +kernel
theorem dX12_view_135 : decode cX12_view 135 = .ok (.iload_n 3, 1) := by decide +kernel
theorem dX12_view_136 : decode cX12_view 136 = .ok (.iastore, 1) := by decide +kernel
theorem dX12_view_137 : decode cX12_view 137 = .ok (.aload_n 0, 1) := by decide +kernel
theorem dX12_view_138 : decode cX12_view 138 = .ok (.getfield 417, 3) := by decide +kernel
theorem dX12_view_141 : decode cX12_view 141 = .ok (.aload_n 0, 1) := by decide +kernel
theorem dX12_view_142 : decode cX12_view 142 = .ok (.getfield 1029, 3) := by decide +kernel
theorem dX12_view_145 : decode cX12_view 145 = .ok (.iconst 0, 1) := by decide +kernel
theorem dX12_view_146 : decode cX12_view 146 = .ok (.iastore, 1) := by decide +kernel
theorem dX12_view_147 : decode cX12_view 147 = .ok (.aload_n 0, 1) := by decide +kernel
theorem dX12_view_148 : decode cX12_view 148 = .ok (.getfield 420, 3) := by decide +kernel
theorem dX12_view_151 : decode cX12_view 151 = .ok (.aload_n 0, 1) := by decide +kernel
theorem dX12_view_152 : decode cX12_view 152 = .ok (.getfield 1029, 3) := by decide +kernel
theorem dX12_view_155 : decode cX12_view 155 = .ok (.iconst 0, 1) := by decide +kernel
theorem dX12_view_156 : decode cX12_view 156 = .ok (.iastore, 1) := by decide +kernel
theorem dX12_view_157 : decode cX12_view 157 = .ok (.aload_n 0, 1) := by decide +kernel
theorem dX12_view_158 : decode cX12_view 158 = .ok (.getfield 423, 3) := by decide +kernel
theorem dX12_view_161 : decode cX12_view 161 = .ok (.aload_n 0, 1) := by decide +kernel
theorem dX12_view_162 : decode cX12_view 162 = .ok (.getfield 1029, 3) := by decide +kernel
theorem dX12_view_165 : decode cX12_view 165 = .ok (.iconst 0, 1) := by decide +kernel
theorem dX12_view_166 : decode cX12_view 166 = .ok (.iastore, 1) := by decide +kernel
theorem dX12_view_167 : decode cX12_view 167 = .ok (.aload_n 0, 1) := by decide +kernel
theorem dX12_view_168 : decode cX12_view 168 = .ok (.getfield 1006, 3) := by decide +kernel
theorem dX12_view_171 : decode cX12_view 171 = .ok (.aload_n 0, 1) := by decide +kernel
theorem dX12_view_172 : decode cX12_view 172 = .ok (.getfield 1029, 3) := by decide +kernel
theorem dX12_view_175 : decode cX12_view 175 = .ok (.iconst 0, 1) := by decide +kernel
theorem dX12_view_176 : decode cX12_view 176 = .ok (.bastore, 1) := by decide +kernel
theorem dX12_view_177 : decode cX12_view 177 = .ok (.aload_n 0, 1) := by decide +kernel
theorem dX12_view_178 : decode cX12_view 178 = .ok (.iconst 0, 1) := by decide +kernel
theorem dX12_view_179 : decode cX12_view 179 = .ok (.putfield 1, 3) := by decide +kernel
theorem dX12_view_182 : decode cX12_view 182 = .ok (.aload_n 0, 1) := by decide +kernel
theorem dX12_view_183 : decode cX12_view 183 = .ok (.dup, 1) := by decide +kernel
theorem dX12_view_184 : decode cX12_view 184 = .ok (.getfield 1029, 3) := by decide +kernel
theorem dX12_view_187 : decode cX12_view 187 = .ok (.iconst 1, 1) := by decide +kernel
theorem dX12_view_188 : decode cX12_view 188 = .ok (.iadd, 1) := by decide +kernel
theorem dX12_view_189 : decode cX12_view 189 = .ok (.putfield 1029, 3) := by decide +kernel
theorem dX12_view_192 : decode cX12_view 192 = .ok (.aload_n 0, 1) := by decide +kernel
theorem dX12_view_193 : decode cX12_view 193 = .ok (.getfield 1029, 3) := by decide +kernel
theorem dX12_view_196 : decode cX12_view 196 = .ok (.iconst 1, 1) := by decide +kernel
theorem dX12_view_197 : decode cX12_view 197 = .ok (.isub, 1) := by decide +kernel
theorem dX12_view_198 : decode cX12_view 198 = .ok (.ireturn, 1) := by decide +kernel
theorem dX12_round_0 : decode cX12_round 0 = .ok (.aload_n 0, 1) := by decide +kernel
theorem dX12_round_1 : decode cX12_round 1 = .ok (.aload_n 0, 1) := by decide +kernel
theorem dX12_round_2 : decode cX12_round 2 = .ok (.getfield 1044, 3) := by decide +kernel
theorem dX12_round_5 : decode cX12_round 5 = .ok (.ifCond .eq 7, 3) := by decide +kernel
theorem dX12_round_8 : decode cX12_round 8 = .ok (.iconst 0, 1) := by decide +kernel
theorem dX12_round_9 : decode cX12_round 9 = .ok (.goto 4, 3) := by decide +kernel
theorem dX12_round_12 : decode cX12_round 12 = .ok (.iconst 1, 1) := by decide +kernel
theorem dX12_round_13 : decode cX12_round 13 = .ok (.invokevirtual 1050, 3) := by decide +kernel
theorem dX12_round_16 : decode cX12_round 16 = .ok (.ifCond .ne 5, 3) := by decide +kernel
theorem dX12_round_19 : decode cX12_round 19 = .ok (.iconst 0, 1) := by decide +kernel
theorem dX12_round_20 : decode cX12_round 20 = .ok (.ireturn, 1) := by decide +kernel
theorem dX12_round_21 : decode cX12_round 21 = .ok (.iconst 0, 1) := by decide +kernel
theorem dX12_round_22 : decode cX12_round 22 = .ok (.istore_n 1, 1) := by decide +kernel
theorem dX12_round_23 : decode cX12_round 23 = .ok (.aload_n 0, 1) := by decide +kernel
theorem dX12_round_24 : decode cX12_round 24 = .ok (.getfield 1, 3) := by decide +kernel
theorem dX12_round_27 : decode cX12_round 27 = .ok (.istore_n 2, 1) := by decide +kernel
theorem dX12_round_28 : decode cX12_round 28 = .ok (.iconst 0, 1) := by decide +kernel
theorem dX12_round_29 : decode cX12_round 29 = .ok (.istore_n 3, 1) := by decide +kernel
theorem dX12_round_30 : decode cX12_round 30 = .ok (.iload_n 3, 1) := by decide +kernel
theorem dX12_round_31 : decode cX12_round 31 = .ok (.iload_n 2, 1) := by decide +kernel
theorem dX12_round_32 : decode cX12_round 32 = .ok (.if_icmp .ge 21, 3) := by decide +kernel
theorem dX12_round_35 : decode cX12_round 35 = .ok (.aload_n 0, 1) := by decide +kernel
theorem dX12_round_36 : decode cX12_round 36 = .ok (.getfield 1020, 3) := by decide +kernel
theorem dX12_round_39 : decode cX12_round 39 = .ok (.iload_n 3, 1) := by decide +kernel
theorem dX12_round_40 : decode cX12_round 40 = .ok (.aload_n 0, 1) := by decide +kernel
theorem dX12_round_41 : decode cX12_round 41 = .ok (.getfield 7, 3) := by decide +kernel
theorem dX12_round_44 : decode cX12_round 44 = .ok (.iload_n 3, 1) := by decide +kernel
theorem dX12_round_45 : decode cX12_round 45 = .ok (.iaload, 1) := by decide +kernel
theorem dX12_round_46 : decode cX12_round 46 = .ok (.iastore, 1) := by decide +kernel
theorem dX12_round_47 : decode cX12_round 47 = .ok (.iinc 3 1, 3) := by decide +kernel
theorem dX12_round_50 : decode cX12_round 50 = .ok (.goto (-20), 3) := by decide +kernel
theorem dX12_round_53 : decode cX12_round 53 = .ok (.aload_n 0, 1) := by decide +kernel
theorem dX12_round_54 : decode cX12_round 54 = .ok (.getfield 80, 3) := by decide +kernel
theorem dX12_round_57 : decode cX12_round 57 = .ok (.istore_n 3, 1) := by decide +kernel
theorem dX12_round_58 : decode cX12_round 58 = .ok (.aload_n 0, 1) := by decide +kernel
theorem dX12_round_59 : decode cX12_round 59 = .ok (.getfield 105, 3) := by decide +kernel
theorem dX12_round_62 : decode cX12_round 62 = .ok (.istore 4, 2) := by decide +kernel
theorem dX12_round_64 : decode cX12_round 64 = .ok (.aload_n 0, 1) := by decide +kernel
theorem dX12_round_65 : decode cX12_round 65 = .ok (.getfield 15, 3) := by decide +kernel
theorem dX12_round_68 : decode cX12_round 68 = .ok (.istore 5, 2) := by decide +kernel
theorem dX12_round_70 : decode cX12_round 70 = .ok (.iconst 0, 1) := by decide +kernel
theorem dX12_round_71 : decode cX12_round 71 = .ok (.istore 6, 2) := by decide +kernel
theorem dX12_round_73 : decode cX12_round 73 = .ok (.iload 6, 2) := by decide +kernel
theorem dX12_round_75 : decode cX12_round 75 = .ok (.aload_n 0, 1) := by decide +kernel
theorem dX12_round_76 : decode cX12_round 76 = .ok (.getfield 1029, 3) := by decide +kernel
theorem dX12_round_79 : decode cX12_round 79 = .ok (.if_icmp .ge 249, 3) := by decide +kernel
theorem dX12_round_82 : decode cX12_round 82 = .ok (.aload_n 0, 1) := by decide +kernel
theorem dX12_round_83 : decode cX12_round 83 = .ok (.aload_n 0, 1) := by decide +kernel
theorem dX12_round_84 : decode cX12_round 84 = .ok (.getfield 1014, 3) := by decide +kernel
theorem dX12_round_87 : decode cX12_round 87 = .ok (.ldc_w 1001, 3) := by decide +kernel
theorem dX12_round_90 : decode cX12_round 90 = .ok (.iload 6, 2) := by decide +kernel
theorem dX12_round_92 : decode cX12_round 92 = .ok (.imul, 1) := by decide +kernel
theorem dX12_round_93 : decode cX12_round 93 = .ok (.aload_n 0, 1) := by decide +kernel
theorem dX12_round_94 : decode cX12_round 94 = .ok (.getfield 1017, 3) := by decide +kernel
theorem dX12_round_97 : decode cX12_round 97 = .ok (.iload 6, 2) := by decide +kernel
theorem dX12_round_99 : decode cX12_round 99 = .ok (.iaload, 1) := by decide +kernel
theorem dX12_round_100 : decode cX12_round 100 = .ok (.invokevirtual 1059, 3) := by decide +kernel
theorem dX12_round_103 : decode cX12_round 103 = .ok (.aload_n 0, 1) := by decide +kernel
theorem dX12_round_104 : decode cX12_round 104 = .ok (.aload_n 0, 1) := by decide +kernel
theorem dX12_round_105 : decode cX12_round 105 = .ok (.iconst 0, 1) := by decide +kernel
theorem dX12_round_106 : decode cX12_round 106 = .ok (.invokevirtual 1074, 3) := by decide +kernel
theorem dX12_round_109 : decode cX12_round 109 = .ok (.invokevirtual 1077, 3) := by decide +kernel
theorem dX12_round_112 : decode cX12_round 112 = .ok (.aload_n 0, 1) := by decide +kernel
theorem dX12_round_113 : decode cX12_round 113 = .ok (.iload_n 3, 1) := by decide +kernel
theorem dX12_round_114 : decode cX12_round 114 = .ok (.putfield 80, 3) := by decide +kernel
theorem dX12_round_117 : decode cX12_round 117 = .ok (.aload_n 0, 1) := by decide +kernel
theorem dX12_round_118 : decode cX12_round 118 = .ok (.iload 4, 2) := by decide +kernel
theorem dX12_round_120 : decode cX12_round 120 = .ok (.putfield 105, 3) := by decide +kernel
theorem dX12_round_123 : decode cX12_round 123 = .ok (.aload_n 0, 1) := by decide +kernel
theorem dX12_round_124 : decode cX12_round 124 = .ok (.getfield 362, 3) := by decide +kernel
theorem dX12_round_127 : decode cX12_round 127 = .ok (.ifCond .le 7, 3) := by decide +kernel
theorem dX12_round_130 : decode cX12_round 130 = .ok (.iconst 0, 1) := by decide +kernel
theorem dX12_round_131 : decode cX12_round 131 = .ok (.goto 7, 3) := by decide +kernel
theorem dX12_round_134 : decode cX12_round 134 = .ok (.aload_n 0, 1) := by decide +kernel
theorem dX12_round_135 : decode cX12_round 135 = .ok (.invokevirtual 572, 3) := by decide +kernel
theorem dX12_round_138 : decode cX12_round 138 = .ok (.istore 7, 2) := by decide +kernel
theorem dX12_round_140 : decode cX12_round 140 = .ok (.aload_n 0, 1) := by decide +kernel
theorem dX12_round_141 : decode cX12_round 141 = .ok (.iconst 0, 1) := by decide +kernel
theorem dX12_round_142 : decode cX12_round 142 = .ok (.putfield 362, 3) := by decide +kernel
theorem dX12_round_145 : decode cX12_round 145 = .ok (.aload_n 0, 1) := by decide +kernel
theorem dX12_round_146 : decode cX12_round 146 = .ok (.getfield 1006, 3) := by decide +kernel
theorem dX12_round_149 : decode cX12_round 149 = .ok (.iload 6, 2) := by decide +kernel
theorem dX12_round_151 : decode cX12_round 151 = .ok (.iconst 1, 1) := by decide +kernel
theorem dX12_round_152 : decode cX12_round 152 = .ok (.bastore, 1) := by decide +kernel
theorem dX12_round_153 : decode cX12_round 153 = .ok (.aload_n 0, 1) := by decide +kernel
theorem dX12_round_154 : decode cX12_round 154 = .ok (.getfield 417, 3) := by decide +kernel
theorem dX12_round_157 : decode cX12_round 157 = .ok (.iload 6, 2) := by decide +kernel
theorem dX12_round_159 : decode cX12_round 159 = .ok (.iaload, 1) := by decide +kernel
theorem dX12_round_160 : decode cX12_round 160 = .ok (.istore 8, 2) := by decide +kernel
theorem dX12_round_162 : decode cX12_round 162 = .ok (.aload_n 0, 1) := by decide +kernel
theorem dX12_round_163 : decode cX12_round 163 = .ok (.iload 7, 2) := by decide +kernel
theorem dX12_round_165 : decode cX12_round 165 = .ok (.iload 8, 2) := by decide +kernel
theorem dX12_round_167 : decode cX12_round 167 = .ok (.invokevirtual 451, 3) := by decide +kernel
theorem dX12_round_170 : decode cX12_round 170 = .ok (.ifCond .eq 7, 3) := by decide +kernel
theorem dX12_round_173 : decode cX12_round 173 = .ok (.iconst 1, 1) := by decide +kernel
theorem dX12_round_174 : decode cX12_round 174 = .ok (.goto 4, 3) := by decide +kernel
theorem dX12_round_177 : decode cX12_round 177 = .ok (.iconst 0, 1) := by decide +kernel
theorem dX12_round_178 : decode cX12_round 178 = .ok (.istore 9, 2) := by decide +kernel
theorem dX12_round_180 : decode cX12_round 180 = .ok (.aload_n 0, 1) := by decide +kernel
theorem dX12_round_181 : decode cX12_round 181 = .ok (.iload 7, 2) := by decide +kernel
theorem dX12_round_183 : decode cX12_round 183 = .ok (.invokevirtual 545, 3) := by decide +kernel
theorem dX12_round_186 : decode cX12_round 186 = .ok (.bipush 6, 2) := by decide +kernel
theorem dX12_round_188 : decode cX12_round 188 = .ok (.if_icmp .ne 18, 3) := by decide +kernel
theorem dX12_round_191 : decode cX12_round 191 = .ok (.aload_n 0, 1) := by decide +kernel
theorem dX12_round_192 : decode cX12_round 192 = .ok (.iload 8, 2) := by decide +kernel
theorem dX12_round_194 : decode cX12_round 194 = .ok (.invokevirtual 545, 3) := by decide +kernel
theorem dX12_round_197 : decode cX12_round 197 = .ok (.bipush 6, 2) := by decide +kernel
theorem dX12_round_199 : decode cX12_round 199 = .ok (.if_icmp .ne 7, 3) := by decide +kernel
theorem dX12_round_202 : decode cX12_round 202 = .ok (.iconst 1, 1) := by decide +kernel
theorem dX12_round_203 : decode cX12_round 203 = .ok (.goto 4, 3) := by decide +kernel
theorem dX12_round_206 : decode cX12_round 206 = .ok (.iconst 0, 1) := by decide +kernel
theorem dX12_round_207 : decode cX12_round 207 = .ok (.istore 10, 2) := by decide +kernel
theorem dX12_round_209 : decode cX12_round 209 = .ok (.aload_n 0, 1) := by decide +kernel
theorem dX12_round_210 : decode cX12_round 210 = .ok (.iconst 0, 1) := by decide +kernel
theorem dX12_round_211 : decode cX12_round 211 = .ok (.putfield 385, 3) := by decide +kernel
theorem dX12_round_214 : decode cX12_round 214 = .ok (.iload 9, 2) := by decide +kernel
theorem dX12_round_216 : decode cX12_round 216 = .ok (.ifCond .ne 11, 3) := by decide +kernel
theorem dX12_round_219 : decode cX12_round 219 = .ok (.aload_n 0, 1) := by decide +kernel
theorem dX12_round_220 : decode cX12_round 220 = .ok (.iconst 0, 1) := by decide +kernel
theorem dX12_round_221 : decode cX12_round 221 = .ok (.invokevirtual 678, 3) := by decide +kernel
theorem dX12_round_224 : decode cX12_round 224 = .ok (.goto 22, 3) := by decide +kernel
theorem dX12_round_227 : decode cX12_round 227 = .ok (.iload 10, 2) := by decide +kernel
theorem dX12_round_229 : decode cX12_round 229 = .ok (.ifCond .eq 15, 3) := by decide +kernel
theorem dX12_round_232 : decode cX12_round 232 = .ok (.aload_n 0, 1) := by decide +kernel
theorem dX12_round_233 : decode cX12_round 233 = .ok (.iload 7, 2) := by decide +kernel
theorem dX12_round_235 : decode cX12_round 235 = .ok (.iload 8, 2) := by decide +kernel
theorem dX12_round_237 : decode cX12_round 237 = .ok (.iconst 0, 1) := by decide +kernel
theorem dX12_round_238 : decode cX12_round 238 = .ok (.invokevirtual 731, 3) := by decide +kernel
theorem dX12_round_241 : decode cX12_round 241 = .ok (.goto 5, 3) := by decide +kernel
theorem dX12_round_244 : decode cX12_round 244 = .ok (.iload 7, 2) := by decide +kernel
theorem dX12_round_246 : decode cX12_round 246 = .ok (.istore 11, 2) := by decide +kernel
theorem dX12_round_248 : decode cX12_round 248 = .ok (.iload 9, 2) := by decide +kernel
theorem dX12_round_250 : decode cX12_round 250 = .ok (.ifCond .ne 11, 3) := by decide +kernel
theorem dX12_round_253 : decode cX12_round 253 = .ok (.aload_n 0, 1) := by decide +kernel
theorem dX12_round_254 : decode cX12_round 254 = .ok (.iconst 0, 1) := by decide +kernel
theorem dX12_round_255 : decode cX12_round 255 = .ok (.invokevirtual 678, 3) := by decide +kernel
theorem dX12_round_258 : decode cX12_round 258 = .ok (.goto 22, 3) := by decide +kernel
theorem dX12_round_261 : decode cX12_round 261 = .ok (.iload 10, 2) := by decide +kernel
theorem dX12_round_263 : decode cX12_round 263 = .ok (.ifCond .eq 15, 3) := by decide +kernel
theorem dX12_round_266 : decode cX12_round 266 = .ok (.aload_n 0, 1) := by decide +kernel
theorem dX12_round_267 : decode cX12_round 267 = .ok (.iload 8, 2) := by decide +kernel
theorem dX12_round_269 : decode cX12_round 269 = .ok (.iload 7, 2) := by decide +kernel
theorem dX12_round_271 : decode cX12_round 271 = .ok (.iconst 0, 1) := by decide +kernel
theorem dX12_round_272 : decode cX12_round 272 = .ok (.invokevirtual 731, 3) := by decide +kernel
theorem dX12_round_275 : decode cX12_round 275 = .ok (.goto 5, 3) := by decide +kernel
theorem dX12_round_278 : decode cX12_round 278 = .ok (.iload 8, 2) := by decide +kernel
theorem dX12_round_280 : decode cX12_round 280 = .ok (.istore 12, 2) := by decide +kernel
theorem dX12_round_282 : decode cX12_round 282 = .ok (.aload_n 0, 1) := by decide +kernel
theorem dX12_round_283 : decode cX12_round 283 = .ok (.getfield 417, 3) := by decide +kernel
theorem dX12_round_286 : decode cX12_round 286 = .ok (.iload 6, 2) := by decide +kernel
theorem dX12_round_288 : decode cX12_round 288 = .ok (.iload 7, 2) := by decide +kernel
theorem dX12_round_290 : decode cX12_round 290 = .ok (.iastore, 1) := by decide +kernel
theorem dX12_round_291 : decode cX12_round 291 = .ok (.aload_n 0, 1) := by decide +kernel
theorem dX12_round_292 : decode cX12_round 292 = .ok (.getfield 420, 3) := by decide +kernel
theorem dX12_round_295 : decode cX12_round 295 = .ok (.iload 6, 2) := by decide +kernel
theorem dX12_round_297 : decode cX12_round 297 = .ok (.iload 11, 2) := by decide +kernel
theorem dX12_round_299 : decode cX12_round 299 = .ok (.iastore, 1) := by decide +kernel
theorem dX12_round_300 : decode cX12_round 300 = .ok (.aload_n 0, 1) := by decide +kernel
theorem dX12_round_301 : decode cX12_round 301 = .ok (.getfield 423, 3) := by decide +kernel
theorem dX12_round_304 : decode cX12_round 304 = .ok (.iload 6, 2) := by decide +kernel
theorem dX12_round_306 : decode cX12_round 306 = .ok (.iload 12, 2) := by decide +kernel
theorem dX12_round_308 : decode cX12_round 308 = .ok (.iastore, 1) := by decide +kernel
theorem dX12_round_309 : decode cX12_round 309 = .ok (.iload_n 1, 1) := by decide +kernel
theorem dX12_round_310 : decode cX12_round 310 = .ok (.iload 9, 2) := by decide +kernel
theorem dX12_round_312 : decode cX12_round 312 = .ok (.ifCond .eq 7, 3) := by decide +kernel
theorem dX12_round_315 : decode cX12_round 315 = .ok (.iconst 1, 1) := by decide +kernel
theorem dX12_round_316 : decode cX12_round 316 = .ok (.goto 4, 3) := by decide +kernel
theorem dX12_round_319 : decode cX12_round 319 = .ok (.iconst 0, 1) := by decide +kernel
theorem dX12_round_320 : decode cX12_round 320 = .ok (.iadd, 1) := by decide +kernel
theorem dX12_round_321 : decode cX12_round 321 = .ok (.istore_n 1, 1) := by decide +kernel
theorem dX12_round_322 : decode cX12_round 322 = .ok (.iinc 6 1, 3) := by decide +kernel
theorem dX12_round_325 : decode cX12_round 325 = .ok (.goto (-252), 3) := by decide +kernel
theorem dX12_round_328 : decode cX12_round 328 = .ok (.aload_n 0, 1) := by decide +kernel
theorem dX12_round_329 : decode cX12_round 329 = .ok (.aload_n 0, 1) := by decide +kernel
theorem dX12_round_330 : decode cX12_round 330 = .ok (.getfield 1020, 3) := by decide +kernel
theorem dX12_round_333 : decode cX12_round 333 = .ok (.iconst 0, 1) := by decide +kernel
theorem dX12_round_334 : decode cX12_round 334 = .ok (.iload_n 2, 1) := by decide +kernel
theorem dX12_round_335 : decode cX12_round 335 = .ok (.invokevirtual 1059, 3) := by decide +kernel
theorem dX12_round_338 : decode cX12_round 338 = .ok (.aload_n 0, 1) := by decide +kernel
theorem dX12_round_339 : decode cX12_round 339 = .ok (.iload 5, 2) := by decide +kernel
theorem dX12_round_341 : decode cX12_round 341 = .ok (.putfield 15, 3) := by decide +kernel
theorem dX12_round_344 : decode cX12_round 344 = .ok (.iload_n 1, 1) := by decide +kernel
theorem dX12_round_345 : decode cX12_round 345 = .ok (.ireturn, 1) := by decide +kernel
theorem dX12_end_0 : decode cX12_end 0 = .ok (.aload_n 0, 1) := by decide +kernel
theorem dX12_end_1 : decode cX12_end 1 = .ok (.iload_n 1, 1) := by decide +kernel
theorem dX12_end_2 : decode cX12_end 2 = .ok (.ifCond .lt 11, 3) := by decide +kernel
theorem dX12_end_5 : decode cX12_end 5 = .ok (.iload_n 1, 1) := by decide +kernel
theorem dX12_end_6 : decode cX12_end 6 = .ok (.aload_n 0, 1) := by decide +kernel
theorem dX12_end_7 : decode cX12_end 7 = .ok (.getfield 1, 3) := by decide +kernel
theorem dX12_end_10 : decode cX12_end 10 = .ok (.if_icmp .le 7, 3) := by decide +kernel
theorem dX12_end_13 : decode cX12_end 13 = .ok (.iconst 1, 1) := by decide +kernel
theorem dX12_end_14 : decode cX12_end 14 = .ok (.goto 4, 3) := by decide +kernel
theorem dX12_end_17 : decode cX12_end 17 = .ok (.iconst 0, 1) := by decide +kernel
theorem dX12_end_18 : decode cX12_end 18 = .ok (.invokevirtual 1050, 3) := by decide +kernel
theorem dX12_end_21 : decode cX12_end 21 = .ok (.ifCond .eq 8, 3) := by decide +kernel
theorem dX12_end_24 : decode cX12_end 24 = .ok (.aload_n 0, 1) := by decide +kernel
theorem dX12_end_25 : decode cX12_end 25 = .ok (.iload_n 1, 1) := by decide +kernel
theorem dX12_end_26 : decode cX12_end 26 = .ok (.putfield 1, 3) := by decide +kernel
theorem dX12_end_29 : decode cX12_end 29 = .ok (.return_, 1) := by decide +kernel
theorem dX12_state_0 : decode cX12_state 0 = .ok (.aload_n 0, 1) := by decide +kernel
theorem dX12_state_1 : decode cX12_state 1 = .ok (.iload_n 1, 1) := by decide +kernel
theorem dX12_state_2 : decode cX12_state 2 = .ok (.ifCond .lt 9, 3) := by decide +kernel
theorem dX12_state_5 : decode cX12_state 5 = .ok (.iload_n 1, 1) := by decide +kernel
theorem dX12_state_6 : decode cX12_state 6 = .ok (.bipush 9, 2) := by decide +kernel
theorem dX12_state_8 : decode cX12_state 8 = .ok (.if_icmp .le 7, 3) := by decide +kernel
theorem dX12_state_11 : decode cX12_state 11 = .ok (.iconst 1, 1) := by decide +kernel
theorem dX12_state_12 : decode cX12_state 12 = .ok (.goto 15, 3) := by decide +kernel
theorem dX12_state_15 : decode cX12_state 15 = .ok (.aload_n 0, 1) := by decide +kernel
theorem dX12_state_16 : decode cX12_state 16 = .ok (.getfield 1044, 3) := by decide +kernel
theorem dX12_state_19 : decode cX12_state 19 = .ok (.ifCond .ne 7, 3) := by decide +kernel
theorem dX12_state_22 : decode cX12_state 22 = .ok (.iconst 2, 1) := by decide +kernel
theorem dX12_state_23 : decode cX12_state 23 = .ok (.goto 4, 3) := by decide +kernel
theorem dX12_state_26 : decode cX12_state 26 = .ok (.iconst 0, 1) := by decide +kernel
theorem dX12_state_27 : decode cX12_state 27 = .ok (.invokevirtual 1050, 3) := by decide +kernel
theorem dX12_state_30 : decode cX12_state 30 = .ok (.ifCond .ne 5, 3) := by decide +kernel
theorem dX12_state_33 : decode cX12_state 33 = .ok (.iconst 0, 1) := by decide +kernel
theorem dX12_state_34 : decode cX12_state 34 = .ok (.ireturn, 1) := by decide +kernel
theorem dX12_state_35 : decode cX12_state 35 = .ok (.iload_n 1, 1) := by decide +kernel
theorem dX12_state_36 : decode cX12_state 36 = .ok (.tableswitch 123 0 8 #[52, 57, 62, 67, 72, 79, 84, 94, 99], 52) := by decide +kernel
theorem dX12_state_88 : decode cX12_state 88 = .ok (.aload_n 0, 1) := by decide +kernel
theorem dX12_state_89 : decode cX12_state 89 = .ok (.getfield 907, 3) := by decide +kernel
theorem dX12_state_92 : decode cX12_state 92 = .ok (.ireturn, 1) := by decide +kernel
theorem dX12_state_93 : decode cX12_state 93 = .ok (.aload_n 0, 1) := by decide +kernel
theorem dX12_state_94 : decode cX12_state 94 = .ok (.getfield 977, 3) := by decide +kernel
theorem dX12_state_97 : decode cX12_state 97 = .ok (.ireturn, 1) := by decide +kernel
theorem dX12_state_98 : decode cX12_state 98 = .ok (.aload_n 0, 1) := by decide +kernel
theorem dX12_state_99 : decode cX12_state 99 = .ok (.getfield 959, 3) := by decide +kernel
theorem dX12_state_102 : decode cX12_state 102 = .ok (.ireturn, 1) := by decide +kernel
theorem dX12_state_103 : decode cX12_state 103 = .ok (.aload_n 0, 1) := by decide +kernel
theorem dX12_state_104 : decode cX12_state 104 = .ok (.getfield 910, 3) := by decide +kernel
theorem dX12_state_107 : decode cX12_state 107 = .ok (.ireturn, 1) := by decide +kernel
theorem dX12_state_108 : decode cX12_state 108 = .ok (.aload_n 0, 1) := by decide +kernel
theorem dX12_state_109 : decode cX12_state 109 = .ok (.getfield 395, 3) := by decide +kernel
theorem dX12_state_112 : decode cX12_state 112 = .ok (.iconst 1, 1) := by decide +kernel
theorem dX12_state_113 : decode cX12_state 113 = .ok (.iaload, 1) := by decide +kernel
theorem dX12_state_114 : decode cX12_state 114 = .ok (.ireturn, 1) := by decide +kernel
theorem dX12_state_115 : decode cX12_state 115 = .ok (.aload_n 0, 1) := by decide +kernel
theorem dX12_state_116 : decode cX12_state 116 = .ok (.getfield 402, 3) := by decide +kernel
theorem dX12_state_119 : decode cX12_state 119 = .ok (.ireturn, 1) := by decide +kernel
theorem dX12_state_120 : decode cX12_state 120 = .ok (.aload_n 0, 1) := by decide +kernel
theorem dX12_state_121 : decode cX12_state 121 = .ok (.getfield 852, 3) := by decide +kernel
theorem dX12_state_124 : decode cX12_state 124 = .ok (.aload_n 0, 1) := by decide +kernel
theorem dX12_state_125 : decode cX12_state 125 = .ok (.getfield 855, 3) := by decide +kernel
theorem dX12_state_128 : decode cX12_state 128 = .ok (.iadd, 1) := by decide +kernel
theorem dX12_state_129 : decode cX12_state 129 = .ok (.ireturn, 1) := by decide +kernel
theorem dX12_state_130 : decode cX12_state 130 = .ok (.aload_n 0, 1) := by decide +kernel
theorem dX12_state_131 : decode cX12_state 131 = .ok (.getfield 681, 3) := by decide +kernel
theorem dX12_state_134 : decode cX12_state 134 = .ok (.ireturn, 1) := by decide +kernel
theorem dX12_state_135 : decode cX12_state 135 = .ok (.aload_n 0, 1) := by decide +kernel
theorem dX12_state_136 : decode cX12_state 136 = .ok (.getfield 959, 3) := by decide +kernel
theorem dX12_state_139 : decode cX12_state 139 = .ok (.ifCond .le 7, 3) := by decide +kernel
theorem dX12_state_142 : decode cX12_state 142 = .ok (.iconst 2, 1) := by decide +kernel
theorem dX12_state_143 : decode cX12_state 143 = .ok (.goto 15, 3) := by decide +kernel
theorem dX12_state_146 : decode cX12_state 146 = .ok (.aload_n 0, 1) := by decide +kernel
theorem dX12_state_147 : decode cX12_state 147 = .ok (.getfield 868, 3) := by decide +kernel
theorem dX12_state_150 : decode cX12_state 150 = .ok (.ifCond .eq 7, 3) := by decide +kernel
theorem dX12_state_153 : decode cX12_state 153 = .ok (.iconst 1, 1) := by decide +kernel
theorem dX12_state_154 : decode cX12_state 154 = .ok (.goto 4, 3) := by decide +kernel
theorem dX12_state_157 : decode cX12_state 157 = .ok (.iconst 0, 1) := by decide +kernel
theorem dX12_state_158 : decode cX12_state 158 = .ok (.ireturn, 1) := by decide +kernel
theorem dX12_state_159 : decode cX12_state 159 = .ok (.aload_n 0, 1) := by decide +kernel
theorem dX12_state_160 : decode cX12_state 160 = .ok (.getfield 956, 3) := by decide +kernel
theorem dX12_state_163 : decode cX12_state 163 = .ok (.ireturn, 1) := by decide +kernel
theorem dX12_seen_0 : decode cX12_seen 0 = .ok (.aload_n 0, 1) := by decide +kernel
theorem dX12_seen_1 : decode cX12_seen 1 = .ok (.iload_n 1, 1) := by decide +kernel
theorem dX12_seen_2 : decode cX12_seen 2 = .ok (.ifCond .lt 20, 3) := by decide +kernel
theorem dX12_seen_5 : decode cX12_seen 5 = .ok (.iload_n 1, 1) := by decide +kernel
theorem dX12_seen_6 : decode cX12_seen 6 = .ok (.aload_n 0, 1) := by decide +kernel
theorem dX12_seen_7 : decode cX12_seen 7 = .ok (.getfield 1029, 3) := by decide +kernel
theorem dX12_seen_10 : decode cX12_seen 10 = .ok (.if_icmp .ge 12, 3) := by decide +kernel
theorem dX12_seen_13 : decode cX12_seen 13 = .ok (.iload_n 2, 1) := by decide +kernel
theorem dX12_seen_14 : decode cX12_seen 14 = .ok (.ifCond .lt 8, 3) := by decide +kernel
theorem dX12_seen_17 : decode cX12_seen 17 = .ok (.iload_n 2, 1) := by decide +kernel
theorem dX12_seen_18 : decode cX12_seen 18 = .ok (.iconst 2, 1) := by decide +kernel
theorem dX12_seen_19 : decode cX12_seen 19 = .ok (.if_icmp .le 7, 3) := by decide +kernel
theorem dX12_seen_22 : decode cX12_seen 22 = .ok (.iconst 1, 1) := by decide +kernel
theorem dX12_seen_23 : decode cX12_seen 23 = .ok (.goto 17, 3) := by decide +kernel
theorem dX12_seen_26 : decode cX12_seen 26 = .ok (.aload_n 0, 1) := by decide +kernel
theorem dX12_seen_27 : decode cX12_seen 27 = .ok (.getfield 1006, 3) := by decide +kernel
theorem dX12_seen_30 : decode cX12_seen 30 = .ok (.iload_n 1, 1) := by decide +kernel
theorem dX12_seen_31 : decode cX12_seen 31 = .ok (.baload, 1) := by decide +kernel
theorem dX12_seen_32 : decode cX12_seen 32 = .ok (.ifCond .ne 7, 3) := by decide +kernel
theorem dX12_seen_35 : decode cX12_seen 35 = .ok (.iconst 2, 1) := by decide +kernel
theorem dX12_seen_36 : decode cX12_seen 36 = .ok (.goto 4, 3) := by decide +kernel
theorem dX12_seen_39 : decode cX12_seen 39 = .ok (.iconst 0, 1) := by decide +kernel
theorem dX12_seen_40 : decode cX12_seen 40 = .ok (.invokevirtual 1050, 3) := by decide +kernel
theorem dX12_seen_43 : decode cX12_seen 43 = .ok (.ifCond .ne 5, 3) := by decide +kernel
theorem dX12_seen_46 : decode cX12_seen 46 = .ok (.iconst 0, 1) := by decide +kernel
theorem dX12_seen_47 : decode cX12_seen 47 = .ok (.ireturn, 1) := by decide +kernel
theorem dX12_seen_48 : decode cX12_seen 48 = .ok (.aload_n 0, 1) := by decide +kernel
theorem dX12_seen_49 : decode cX12_seen 49 = .ok (.iload_n 2, 1) := by decide +kernel
theorem dX12_seen_50 : decode cX12_seen 50 = .ok (.ifCond .ne 12, 3) := by decide +kernel
theorem dX12_seen_53 : decode cX12_seen 53 = .ok (.aload_n 0, 1) := by decide +kernel
theorem dX12_seen_54 : decode cX12_seen 54 = .ok (.getfield 417, 3) := by decide +kernel
theorem dX12_seen_57 : decode cX12_seen 57 = .ok (.iload_n 1, 1) := by decide +kernel
theorem dX12_seen_58 : decode cX12_seen 58 = .ok (.iaload, 1) := by decide +kernel
theorem dX12_seen_59 : decode cX12_seen 59 = .ok (.goto 23, 3) := by decide +kernel
theorem dX12_seen_62 : decode cX12_seen 62 = .ok (.iload_n 2, 1) := by decide +kernel
theorem dX12_seen_63 : decode cX12_seen 63 = .ok (.iconst 1, 1) := by decide +kernel
theorem dX12_seen_64 : decode cX12_seen 64 = .ok (.if_icmp .ne 12, 3) := by decide +kernel
theorem dX12_seen_67 : decode cX12_seen 67 = .ok (.aload_n 0, 1) := by decide +kernel
theorem dX12_seen_68 : decode cX12_seen 68 = .ok (.getfield 420, 3) := by decide +kernel
theorem dX12_seen_71 : decode cX12_seen 71 = .ok (.iload_n 1, 1) := by decide +kernel
theorem dX12_seen_72 : decode cX12_seen 72 = .ok (.iaload, 1) := by decide +kernel
theorem dX12_seen_73 : decode cX12_seen 73 = .ok (.goto 9, 3) := by decide +kernel
theorem dX12_seen_76 : decode cX12_seen 76 = .ok (.aload_n 0, 1) := by decide +kernel
theorem dX12_seen_77 : decode cX12_seen 77 = .ok (.getfield 423, 3) := by decide +kernel
theorem dX12_seen_80 : decode cX12_seen 80 = .ok (.iload_n 1, 1) := by decide +kernel
theorem dX12_seen_81 : decode cX12_seen 81 = .ok (.iaload, 1) := by decide +kernel
theorem dX12_seen_82 : decode cX12_seen 82 = .ok (.invokevirtual 1071, 3) := by decide +kernel
theorem dX12_seen_85 : decode cX12_seen 85 = .ok (.ireturn, 1) := by decide +kernel
theorem dX12_shown_0 : decode cX12_shown 0 = .ok (.aload_n 0, 1) := by decide +kernel
theorem dX12_shown_1 : decode cX12_shown 1 = .ok (.iload_n 1, 1) := by decide +kernel
theorem dX12_shown_2 : decode cX12_shown 2 = .ok (.ifCond .lt 11, 3) := by decide +kernel
theorem dX12_shown_5 : decode cX12_shown 5 = .ok (.iload_n 1, 1) := by decide +kernel
theorem dX12_shown_6 : decode cX12_shown 6 = .ok (.aload_n 0, 1) := by decide +kernel
theorem dX12_shown_7 : decode cX12_shown 7 = .ok (.getfield 1038, 3) := by decide +kernel
theorem dX12_shown_10 : decode cX12_shown 10 = .ok (.if_icmp .lt 7, 3) := by decide +kernel
theorem dX12_shown_13 : decode cX12_shown 13 = .ok (.iconst 1, 1) := by decide +kernel
theorem dX12_shown_14 : decode cX12_shown 14 = .ok (.goto 4, 3) := by decide +kernel
theorem dX12_shown_17 : decode cX12_shown 17 = .ok (.iconst 0, 1) := by decide +kernel
theorem dX12_shown_18 : decode cX12_shown 18 = .ok (.invokevirtual 1050, 3) := by decide +kernel
theorem dX12_shown_21 : decode cX12_shown 21 = .ok (.ifCond .eq 12, 3) := by decide +kernel
theorem dX12_shown_24 : decode cX12_shown 24 = .ok (.aload_n 0, 1) := by decide +kernel
theorem dX12_shown_25 : decode cX12_shown 25 = .ok (.getfield 1023, 3) := by decide +kernel
theorem dX12_shown_28 : decode cX12_shown 28 = .ok (.iload_n 1, 1) := by decide +kernel
theorem dX12_shown_29 : decode cX12_shown 29 = .ok (.iaload, 1) := by decide +kernel
theorem dX12_shown_30 : decode cX12_shown 30 = .ok (.goto 4, 3) := by decide +kernel
theorem dX12_shown_33 : decode cX12_shown 33 = .ok (.iconst 0, 1) := by decide +kernel
theorem dX12_shown_34 : decode cX12_shown 34 = .ok (.ireturn, 1) := by decide +kernel
theorem dX12_shape_0 : decode cX12_shape 0 = .ok (.aload_n 0, 1) := by decide +kernel
theorem dX12_shape_1 : decode cX12_shape 1 = .ok (.iload_n 1, 1) := by decide +kernel
theorem dX12_shape_2 : decode cX12_shape 2 = .ok (.ifCond .lt 8, 3) := by decide +kernel
theorem dX12_shape_5 : decode cX12_shape 5 = .ok (.iload_n 1, 1) := by decide +kernel
theorem dX12_shape_6 : decode cX12_shape 6 = .ok (.iconst 3, 1) := by decide +kernel
theorem dX12_shape_7 : decode cX12_shape 7 = .ok (.if_icmp .le 7, 3) := by decide +kernel
theorem dX12_shape_10 : decode cX12_shape 10 = .ok (.iconst 1, 1) := by decide +kernel
theorem dX12_shape_11 : decode cX12_shape 11 = .ok (.goto 4, 3) := by decide +kernel
theorem dX12_shape_14 : decode cX12_shape 14 = .ok (.iconst 0, 1) := by decide +kernel
theorem dX12_shape_15 : decode cX12_shape 15 = .ok (.invokevirtual 1050, 3) := by decide +kernel
theorem dX12_shape_18 : decode cX12_shape 18 = .ok (.ifCond .ne 5, 3) := by decide +kernel
theorem dX12_shape_21 : decode cX12_shape 21 = .ok (.iconst 0, 1) := by decide +kernel
theorem dX12_shape_22 : decode cX12_shape 22 = .ok (.ireturn, 1) := by decide +kernel
theorem dX12_shape_23 : decode cX12_shape 23 = .ok (.iload_n 1, 1) := by decide +kernel
theorem dX12_shape_24 : decode cX12_shape 24 = .ok (.iconst 3, 1) := by decide +kernel
theorem dX12_shape_25 : decode cX12_shape 25 = .ok (.if_icmp .ne 8, 3) := by decide +kernel
theorem dX12_shape_28 : decode cX12_shape 28 = .ok (.aload_n 0, 1) := by decide +kernel
theorem dX12_shape_29 : decode cX12_shape 29 = .ok (.getfield 1035, 3) := by decide +kernel
theorem dX12_shape_32 : decode cX12_shape 32 = .ok (.ireturn, 1) := by decide +kernel
theorem dX12_shape_33 : decode cX12_shape 33 = .ok (.aload_n 0, 1) := by decide +kernel
theorem dX12_shape_34 : decode cX12_shape 34 = .ok (.getfield 1032, 3) := by decide +kernel
theorem dX12_shape_37 : decode cX12_shape 37 = .ok (.ifCond .ne 5, 3) := by decide +kernel
theorem dX12_shape_40 : decode cX12_shape 40 = .ok (.iconst 0, 1) := by decide +kernel
theorem dX12_shape_41 : decode cX12_shape 41 = .ok (.ireturn, 1) := by decide +kernel
theorem dX12_shape_42 : decode cX12_shape 42 = .ok (.aload_n 0, 1) := by decide +kernel
theorem dX12_shape_43 : decode cX12_shape 43 = .ok (.getfield 426, 3) := by decide +kernel
theorem dX12_shape_46 : decode cX12_shape 46 = .ok (.iconst 0, 1) := by decide +kernel
theorem dX12_shape_47 : decode cX12_shape 47 = .ok (.iaload, 1) := by decide +kernel
theorem dX12_shape_48 : decode cX12_shape 48 = .ok (.istore_n 2, 1) := by decide +kernel
theorem dX12_shape_49 : decode cX12_shape 49 = .ok (.aload_n 0, 1) := by decide +kernel
theorem dX12_shape_50 : decode cX12_shape 50 = .ok (.iload_n 2, 1) := by decide +kernel
theorem dX12_shape_51 : decode cX12_shape 51 = .ok (.invokevirtual 545, 3) := by decide +kernel
theorem dX12_shape_54 : decode cX12_shape 54 = .ok (.istore_n 3, 1) := by decide +kernel
theorem dX12_shape_55 : decode cX12_shape 55 = .ok (.iload_n 1, 1) := by decide +kernel
theorem dX12_shape_56 : decode cX12_shape 56 = .ok (.ifCond .ne 7, 3) := by decide +kernel
theorem dX12_shape_59 : decode cX12_shape 59 = .ok (.iload_n 3, 1) := by decide +kernel
theorem dX12_shape_60 : decode cX12_shape 60 = .ok (.goto 33, 3) := by decide +kernel
theorem dX12_shape_63 : decode cX12_shape 63 = .ok (.iload_n 1, 1) := by decide +kernel
theorem dX12_shape_64 : decode cX12_shape 64 = .ok (.iconst 1, 1) := by decide +kernel
theorem dX12_shape_65 : decode cX12_shape 65 = .ok (.if_icmp .ne 11, 3) := by decide +kernel
theorem dX12_shape_68 : decode cX12_shape 68 = .ok (.aload_n 0, 1) := by decide +kernel
theorem dX12_shape_69 : decode cX12_shape 69 = .ok (.iload_n 2, 1) := by decide +kernel
theorem dX12_shape_70 : decode cX12_shape 70 = .ok (.invokevirtual 432, 3) := by decide +kernel
theorem dX12_shape_73 : decode cX12_shape 73 = .ok (.goto 20, 3) := by decide +kernel
theorem dX12_shape_76 : decode cX12_shape 76 = .ok (.iload_n 3, 1) := by decide +kernel
theorem dX12_shape_77 : decode cX12_shape 77 = .ok (.iconst 4, 1) := by decide +kernel
theorem dX12_shape_78 : decode cX12_shape 78 = .ok (.if_icmp .lt 14, 3) := by decide +kernel
theorem dX12_shape_81 : decode cX12_shape 81 = .ok (.aload_n 0, 1) := by decide +kernel
theorem dX12_shape_82 : decode cX12_shape 82 = .ok (.getfield 372, 3) := by decide +kernel
theorem dX12_shape_85 : decode cX12_shape 85 = .ok (.iload_n 2, 1) := by decide +kernel
theorem dX12_shape_86 : decode cX12_shape 86 = .ok (.iconst 1, 1) := by decide +kernel
theorem dX12_shape_87 : decode cX12_shape 87 = .ok (.iadd, 1) := by decide +kernel
theorem dX12_shape_88 : decode cX12_shape 88 = .ok (.iaload, 1) := by decide +kernel
theorem dX12_shape_89 : decode cX12_shape 89 = .ok (.goto 4, 3) := by decide +kernel
theorem dX12_shape_92 : decode cX12_shape 92 = .ok (.iconst 0, 1) := by decide +kernel
theorem dX12_shape_93 : decode cX12_shape 93 = .ok (.ireturn, 1) := by decide +kernel
theorem dX12_count_0 : decode cX12_count 0 = .ok (.aload_n 0, 1) := by decide +kernel
theorem dX12_count_1 : decode cX12_count 1 = .ok (.iload_n 1, 1) := by decide +kernel
theorem dX12_count_2 : decode cX12_count 2 = .ok (.ifCond .lt 8, 3) := by decide +kernel
theorem dX12_count_5 : decode cX12_count 5 = .ok (.iload_n 1, 1) := by decide +kernel
theorem dX12_count_6 : decode cX12_count 6 = .ok (.iconst 4, 1) := by decide +kernel
theorem dX12_count_7 : decode cX12_count 7 = .ok (.if_icmp .le 7, 3) := by decide +kernel
theorem dX12_count_10 : decode cX12_count 10 = .ok (.iconst 1, 1) := by decide +kernel
theorem dX12_count_11 : decode cX12_count 11 = .ok (.goto 4, 3) := by decide +kernel
theorem dX12_count_14 : decode cX12_count 14 = .ok (.iconst 0, 1) := by decide +kernel
theorem dX12_count_15 : decode cX12_count 15 = .ok (.invokevirtual 1050, 3) := by decide +kernel
theorem dX12_count_18 : decode cX12_count 18 = .ok (.ifCond .ne 5, 3) := by decide +kernel
theorem dX12_count_21 : decode cX12_count 21 = .ok (.iconst 0, 1) := by decide +kernel
theorem dX12_count_22 : decode cX12_count 22 = .ok (.ireturn, 1) := by decide +kernel
theorem dX12_count_23 : decode cX12_count 23 = .ok (.iload_n 1, 1) := by decide +kernel
theorem dX12_count_24 : decode cX12_count 24 = .ok (.tableswitch 87 0 3 #[32, 37, 53, 71], 32) := by decide +kernel
theorem dX12_count_56 : decode cX12_count 56 = .ok (.aload_n 0, 1) := by decide +kernel
theorem dX12_count_57 : decode cX12_count 57 = .ok (.getfield 1, 3) := by decide +kernel
theorem dX12_count_60 : decode cX12_count 60 = .ok (.ireturn, 1) := by decide +kernel
theorem dX12_count_61 : decode cX12_count 61 = .ok (.aload_n 0, 1) := by decide +kernel
theorem dX12_count_62 : decode cX12_count 62 = .ok (.getfield 1041, 3) := by decide +kernel
theorem dX12_count_65 : decode cX12_count 65 = .ok (.ifCond .eq 10, 3) := by decide +kernel
theorem dX12_count_68 : decode cX12_count 68 = .ok (.aload_n 0, 1) := by decide +kernel
theorem dX12_count_69 : decode cX12_count 69 = .ok (.getfield 297, 3) := by decide +kernel
theorem dX12_count_72 : decode cX12_count 72 = .ok (.goto 4, 3) := by decide +kernel
theorem dX12_count_75 : decode cX12_count 75 = .ok (.iconst 0, 1) := by decide +kernel
theorem dX12_count_76 : decode cX12_count 76 = .ok (.ireturn, 1) := by decide +kernel
theorem dX12_count_77 : decode cX12_count 77 = .ok (.aload_n 0, 1) := by decide +kernel
theorem dX12_count_78 : decode cX12_count 78 = .ok (.getfield 1041, 3) := by decide +kernel
theorem dX12_count_81 : decode cX12_count 81 = .ok (.ifCond .eq 12, 3) := by decide +kernel
theorem dX12_count_84 : decode cX12_count 84 = .ok (.aload_n 0, 1) := by decide +kernel
theorem dX12_count_85 : decode cX12_count 85 = .ok (.getfield 157, 3) := by decide +kernel
theorem dX12_count_88 : decode cX12_count 88 = .ok (.iconst 0, 1) := by decide +kernel
theorem dX12_count_89 : decode cX12_count 89 = .ok (.iaload, 1) := by decide +kernel
theorem dX12_count_90 : decode cX12_count 90 = .ok (.goto 4, 3) := by decide +kernel
theorem dX12_count_93 : decode cX12_count 93 = .ok (.iconst 0, 1) := by decide +kernel
theorem dX12_count_94 : decode cX12_count 94 = .ok (.ireturn, 1) := by decide +kernel
theorem dX12_count_95 : decode cX12_count 95 = .ok (.aload_n 0, 1) := by decide +kernel
theorem dX12_count_96 : decode cX12_count 96 = .ok (.getfield 1041, 3) := by decide +kernel
theorem dX12_count_99 : decode cX12_count 99 = .ok (.ifCond .eq 10, 3) := by decide +kernel
theorem dX12_count_102 : decode cX12_count 102 = .ok (.aload_n 0, 1) := by decide +kernel
theorem dX12_count_103 : decode cX12_count 103 = .ok (.getfield 349, 3) := by decide +kernel
theorem dX12_count_106 : decode cX12_count 106 = .ok (.goto 4, 3) := by decide +kernel
theorem dX12_count_109 : decode cX12_count 109 = .ok (.iconst 0, 1) := by decide +kernel
theorem dX12_count_110 : decode cX12_count 110 = .ok (.ireturn, 1) := by decide +kernel
theorem dX12_count_111 : decode cX12_count 111 = .ok (.aload_n 0, 1) := by decide +kernel
theorem dX12_count_112 : decode cX12_count 112 = .ok (.getfield 1029, 3) := by decide +kernel
theorem dX12_count_115 : decode cX12_count 115 = .ok (.ireturn, 1) := by decide +kernel
theorem dX12_feed_0 : decode cX12_feed 0 = .ok (.aload_n 0, 1) := by decide +kernel
theorem dX12_feed_1 : decode cX12_feed 1 = .ok (.aload_n 0, 1) := by decide +kernel
theorem dX12_feed_2 : decode cX12_feed 2 = .ok (.getfield 1, 3) := by decide +kernel
theorem dX12_feed_5 : decode cX12_feed 5 = .ok (.bipush 20, 2) := by decide +kernel
theorem dX12_feed_7 : decode cX12_feed 7 = .ok (.iadd, 1) := by decide +kernel
theorem dX12_feed_8 : decode cX12_feed 8 = .ok (.ldc_w 1001, 3) := by decide +kernel
theorem dX12_feed_11 : decode cX12_feed 11 = .ok (.if_icmp .le 7, 3) := by decide +kernel
theorem dX12_feed_14 : decode cX12_feed 14 = .ok (.iconst 1, 1) := by decide +kernel
theorem dX12_feed_15 : decode cX12_feed 15 = .ok (.goto 4, 3) := by decide +kernel
theorem dX12_feed_18 : decode cX12_feed 18 = .ok (.iconst 0, 1) := by decide +kernel
theorem dX12_feed_19 : decode cX12_feed 19 = .ok (.invokevirtual 1050, 3) := by decide +kernel
theorem dX12_feed_22 : decode cX12_feed 22 = .ok (.ifCond .ne 5, 3) := by decide +kernel
theorem dX12_feed_25 : decode cX12_feed 25 = .ok (.iconst 0, 1) := by decide +kernel
theorem dX12_feed_26 : decode cX12_feed 26 = .ok (.ireturn, 1) := by decide +kernel
theorem dX12_feed_27 : decode cX12_feed 27 = .ok (.iconst 0, 1) := by decide +kernel
theorem dX12_feed_28 : decode cX12_feed 28 = .ok (.istore 6, 2) := by decide +kernel
theorem dX12_feed_30 : decode cX12_feed 30 = .ok (.iload 6, 2) := by decide +kernel
theorem dX12_feed_32 : decode cX12_feed 32 = .ok (.bipush 20, 2) := by decide +kernel
theorem dX12_feed_34 : decode cX12_feed 34 = .ok (.if_icmp .ge 93, 3) := by decide +kernel
theorem dX12_feed_37 : decode cX12_feed 37 = .ok (.iload 6, 2) := by decide +kernel
theorem dX12_feed_39 : decode cX12_feed 39 = .ok (.iconst 4, 1) := by decide +kernel
theorem dX12_feed_40 : decode cX12_feed 40 = .ok (.if_icmp .ge 7, 3) := by decide +kernel
theorem dX12_feed_43 : decode cX12_feed 43 = .ok (.iload_n 1, 1) := by decide +kernel
theorem dX12_feed_44 : decode cX12_feed 44 = .ok (.goto 39, 3) := by decide +kernel
theorem dX12_feed_47 : decode cX12_feed 47 = .ok (.iload 6, 2) := by decide +kernel
theorem dX12_feed_49 : decode cX12_feed 49 = .ok (.bipush 8, 2) := by decide +kernel
theorem dX12_feed_51 : decode cX12_feed 51 = .ok (.if_icmp .ge 7, 3) := by decide +kernel
theorem dX12_feed_54 : decode cX12_feed 54 = .ok (.iload_n 2, 1) := by decide +kernel
theorem dX12_feed_55 : decode cX12_feed 55 = .ok (.goto 28, 3) := by decide +kernel
theorem dX12_feed_58 : decode cX12_feed 58 = .ok (.iload 6, 2) := by decide +kernel
theorem dX12_feed_60 : decode cX12_feed 60 = .ok (.bipush 12, 2) := by decide +kernel
theorem dX12_feed_62 : decode cX12_feed 62 = .ok (.if_icmp .ge 7, 3) := by decide +kernel
theorem dX12_feed_65 : decode cX12_feed 65 = .ok (.iload_n 3, 1) := by decide +kernel
theorem dX12_feed_66 : decode cX12_feed 66 = .ok (.goto 17, 3) := by decide +kernel
theorem dX12_feed_69 : decode cX12_feed 69 = .ok (.iload 6, 2) := by decide +kernel
theorem dX12_feed_71 : decode cX12_feed 71 = .ok (.bipush 16, 2) := by decide +kernel
theorem dX12_feed_73 : decode cX12_feed 73 = .ok (.if_icmp .ge 8, 3) := by decide +kernel
theorem dX12_feed_76 : decode cX12_feed 76 = .ok (.iload 4, 2) := by decide +kernel
theorem dX12_feed_78 : decode cX12_feed 78 = .ok (.goto 5, 3) := by decide +kernel
theorem dX12_feed_81 : decode cX12_feed 81 = .ok (.iload 5, 2) := by decide +kernel
theorem dX12_feed_83 : decode cX12_feed 83 = .ok (.istore 7, 2) := by decide +kernel
theorem dX12_feed_85 : decode cX12_feed 85 = .ok (.aload_n 0, 1) := by decide +kernel
theorem dX12_feed_86 : decode cX12_feed 86 = .ok (.getfield 7, 3) := by decide +kernel
theorem dX12_feed_89 : decode cX12_feed 89 = .ok (.aload_n 0, 1) := by decide +kernel
theorem dX12_feed_90 : decode cX12_feed 90 = .ok (.getfield 1, 3) := by decide +kernel
theorem dX12_feed_93 : decode cX12_feed 93 = .ok (.iload 7, 2) := by decide +kernel
theorem dX12_feed_95 : decode cX12_feed 95 = .ok (.bipush 24, 2) := by decide +kernel
theorem dX12_feed_97 : decode cX12_feed 97 = .ok (.iload 6, 2) := by decide +kernel
theorem dX12_feed_99 : decode cX12_feed 99 = .ok (.iconst 4, 1) := by decide +kernel
theorem dX12_feed_100 : decode cX12_feed 100 = .ok (.irem, 1) := by decide +kernel
theorem dX12_feed_101 : decode cX12_feed 101 = .ok (.bipush 8, 2) := by decide +kernel
theorem dX12_feed_103 : decode cX12_feed 103 = .ok (.imul, 1) := by decide +kernel
theorem dX12_feed_104 : decode cX12_feed 104 = .ok (.isub, 1) := by decide +kernel
theorem dX12_feed_105 : decode cX12_feed 105 = .ok (.iushr, 1) := by decide +kernel
theorem dX12_feed_106 : decode cX12_feed 106 = .ok (.sipush 255, 3) := by decide +kernel
theorem dX12_feed_109 : decode cX12_feed 109 = .ok (.iand, 1) := by decide +kernel
theorem dX12_feed_110 : decode cX12_feed 110 = .ok (.iastore, 1) := by decide +kernel
theorem dX12_feed_111 : decode cX12_feed 111 = .ok (.aload_n 0, 1) := by decide +kernel
theorem dX12_feed_112 : decode cX12_feed 112 = .ok (.dup, 1) := by decide +kernel
theorem dX12_feed_113 : decode cX12_feed 113 = .ok (.getfield 1, 3) := by decide +kernel
theorem dX12_feed_116 : decode cX12_feed 116 = .ok (.iconst 1, 1) := by decide +kernel
theorem dX12_feed_117 : decode cX12_feed 117 = .ok (.iadd, 1) := by decide +kernel
theorem dX12_feed_118 : decode cX12_feed 118 = .ok (.putfield 1, 3) := by decide +kernel
theorem dX12_feed_121 : decode cX12_feed 121 = .ok (.iinc 6 1, 3) := by decide +kernel
theorem dX12_feed_124 : decode cX12_feed 124 = .ok (.goto (-94), 3) := by decide +kernel
theorem dX12_feed_127 : decode cX12_feed 127 = .ok (.aload_n 0, 1) := by decide +kernel
theorem dX12_feed_128 : decode cX12_feed 128 = .ok (.getfield 1, 3) := by decide +kernel
theorem dX12_feed_131 : decode cX12_feed 131 = .ok (.ireturn, 1) := by decide +kernel
