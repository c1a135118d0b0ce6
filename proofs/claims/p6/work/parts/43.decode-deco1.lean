/-! decode rows -/
theorem dX12_isLetter_0 : decode cX12_isLetter 0 = .ok (.iload_n 0, 1) := by decide +kernel
theorem dX12_isLetter_1 : decode cX12_isLetter 1 = .ok (.bipush 65, 2) := by decide +kernel
theorem dX12_isLetter_3 : decode cX12_isLetter 3 = .ok (.if_icmp .lt 9, 3) := by decide +kernel
theorem dX12_isLetter_6 : decode cX12_isLetter 6 = .ok (.iload_n 0, 1) := by decide +kernel
theorem dX12_isLetter_7 : decode cX12_isLetter 7 = .ok (.bipush 90, 2) := by decide +kernel
theorem dX12_isLetter_9 : decode cX12_isLetter 9 = .ok (.if_icmp .le 15, 3) := by decide +kernel
theorem dX12_isLetter_12 : decode cX12_isLetter 12 = .ok (.iload_n 0, 1) := by decide +kernel
theorem dX12_isLetter_13 : decode cX12_isLetter 13 = .ok (.bipush 97, 2) := by decide +kernel
theorem dX12_isLetter_15 : decode cX12_isLetter 15 = .ok (.if_icmp .lt 13, 3) := by decide +kernel
theorem dX12_isLetter_18 : decode cX12_isLetter 18 = .ok (.iload_n 0, 1) := by decide +kernel
theorem dX12_isLetter_19 : decode cX12_isLetter 19 = .ok (.bipush 122, 2) := by decide +kernel
theorem dX12_isLetter_21 : decode cX12_isLetter 21 = .ok (.if_icmp .gt 7, 3) := by decide +kernel
theorem dX12_isLetter_24 : decode cX12_isLetter 24 = .ok (.iconst 1, 1) := by decide +kernel
theorem dX12_isLetter_25 : decode cX12_isLetter 25 = .ok (.goto 4, 3) := by decide +kernel
theorem dX12_isLetter_28 : decode cX12_isLetter 28 = .ok (.iconst 0, 1) := by decide +kernel
theorem dX12_isLetter_29 : decode cX12_isLetter 29 = .ok (.ireturn, 1) := by decide +kernel
theorem dX12_isDigit_0 : decode cX12_isDigit 0 = .ok (.iload_n 0, 1) := by decide +kernel
theorem dX12_isDigit_1 : decode cX12_isDigit 1 = .ok (.bipush 48, 2) := by decide +kernel
theorem dX12_isDigit_3 : decode cX12_isDigit 3 = .ok (.if_icmp .lt 13, 3) := by decide +kernel
theorem dX12_isDigit_6 : decode cX12_isDigit 6 = .ok (.iload_n 0, 1) := by decide +kernel
theorem dX12_isDigit_7 : decode cX12_isDigit 7 = .ok (.bipush 57, 2) := by decide +kernel
theorem dX12_isDigit_9 : decode cX12_isDigit 9 = .ok (.if_icmp .gt 7, 3) := by decide +kernel
theorem dX12_isDigit_12 : decode cX12_isDigit 12 = .ok (.iconst 1, 1) := by decide +kernel
theorem dX12_isDigit_13 : decode cX12_isDigit 13 = .ok (.goto 4, 3) := by decide +kernel
theorem dX12_isDigit_16 : decode cX12_isDigit 16 = .ok (.iconst 0, 1) := by decide +kernel
theorem dX12_isDigit_17 : decode cX12_isDigit 17 = .ok (.ireturn, 1) := by decide +kernel
theorem dX12_fault_0 : decode cX12_fault 0 = .ok (.aload_n 0, 1) := by decide +kernel
theorem dX12_fault_1 : decode cX12_fault 1 = .ok (.getfield 11, 3) := by decide +kernel
theorem dX12_fault_4 : decode cX12_fault 4 = .ok (.ifCond .ne 18, 3) := by decide +kernel
theorem dX12_fault_7 : decode cX12_fault 7 = .ok (.aload_n 0, 1) := by decide +kernel
theorem dX12_fault_8 : decode cX12_fault 8 = .ok (.iconst 1, 1) := by decide +kernel
theorem dX12_fault_9 : decode cX12_fault 9 = .ok (.putfield 11, 3) := by decide +kernel
theorem dX12_fault_12 : decode cX12_fault 12 = .ok (.aload_n 0, 1) := by decide +kernel
theorem dX12_fault_13 : decode cX12_fault 13 = .ok (.iload_n 1, 1) := by decide +kernel
theorem dX12_fault_14 : decode cX12_fault 14 = .ok (.putfield 15, 3) := by decide +kernel
theorem dX12_fault_17 : decode cX12_fault 17 = .ok (.aload_n 0, 1) := by decide +kernel
theorem dX12_fault_18 : decode cX12_fault 18 = .ok (.iload_n 2, 1) := by decide +kernel
theorem dX12_fault_19 : decode cX12_fault 19 = .ok (.putfield 18, 3) := by decide +kernel
theorem dX12_fault_22 : decode cX12_fault 22 = .ok (.return_, 1) := by decide +kernel
theorem dX12_wordAt_0 : decode cX12_wordAt 0 = .ok (.iconst 0, 1) := by decide +kernel
theorem dX12_wordAt_1 : decode cX12_wordAt 1 = .ok (.istore_n 3, 1) := by decide +kernel
theorem dX12_wordAt_2 : decode cX12_wordAt 2 = .ok (.iconst 0, 1) := by decide +kernel
theorem dX12_wordAt_3 : decode cX12_wordAt 3 = .ok (.istore 4, 2) := by decide +kernel
theorem dX12_wordAt_5 : decode cX12_wordAt 5 = .ok (.iload 4, 2) := by decide +kernel
theorem dX12_wordAt_7 : decode cX12_wordAt 7 = .ok (.aload_n 0, 1) := by decide +kernel
theorem dX12_wordAt_8 : decode cX12_wordAt 8 = .ok (.getfield 62, 3) := by decide +kernel
theorem dX12_wordAt_11 : decode cX12_wordAt 11 = .ok (.arraylength, 1) := by decide +kernel
theorem dX12_wordAt_12 : decode cX12_wordAt 12 = .ok (.if_icmp .ge 89, 3) := by decide +kernel
theorem dX12_wordAt_15 : decode cX12_wordAt 15 = .ok (.iload_n 1, 1) := by decide +kernel
theorem dX12_wordAt_16 : decode cX12_wordAt 16 = .ok (.istore 5, 2) := by decide +kernel
theorem dX12_wordAt_18 : decode cX12_wordAt 18 = .ok (.iload 4, 2) := by decide +kernel
theorem dX12_wordAt_20 : decode cX12_wordAt 20 = .ok (.istore 6, 2) := by decide +kernel
theorem dX12_wordAt_22 : decode cX12_wordAt 22 = .ok (.iload 5, 2) := by decide +kernel
theorem dX12_wordAt_24 : decode cX12_wordAt 24 = .ok (.iload_n 2, 1) := by decide +kernel
theorem dX12_wordAt_25 : decode cX12_wordAt 25 = .ok (.if_icmp .ge 29, 3) := by decide +kernel
theorem dX12_wordAt_28 : decode cX12_wordAt 28 = .ok (.aload_n 0, 1) := by decide +kernel
theorem dX12_wordAt_29 : decode cX12_wordAt 29 = .ok (.getfield 62, 3) := by decide +kernel
theorem dX12_wordAt_32 : decode cX12_wordAt 32 = .ok (.iload 6, 2) := by decide +kernel
theorem dX12_wordAt_34 : decode cX12_wordAt 34 = .ok (.iaload, 1) := by decide +kernel
theorem dX12_wordAt_35 : decode cX12_wordAt 35 = .ok (.aload_n 0, 1) := by decide +kernel
theorem dX12_wordAt_36 : decode cX12_wordAt 36 = .ok (.getfield 7, 3) := by decide +kernel
theorem dX12_wordAt_39 : decode cX12_wordAt 39 = .ok (.iload 5, 2) := by decide +kernel
theorem dX12_wordAt_41 : decode cX12_wordAt 41 = .ok (.iaload, 1) := by decide +kernel
theorem dX12_wordAt_42 : decode cX12_wordAt 42 = .ok (.if_icmp .ne 12, 3) := by decide +kernel
theorem dX12_wordAt_45 : decode cX12_wordAt 45 = .ok (.iinc 5 1, 3) := by decide +kernel
theorem dX12_wordAt_48 : decode cX12_wordAt 48 = .ok (.iinc 6 1, 3) := by decide +kernel
theorem dX12_wordAt_51 : decode cX12_wordAt 51 = .ok (.goto (-29), 3) := by decide +kernel
theorem dX12_wordAt_54 : decode cX12_wordAt 54 = .ok (.iload 5, 2) := by decide +kernel
theorem dX12_wordAt_56 : decode cX12_wordAt 56 = .ok (.iload_n 2, 1) := by decide +kernel
theorem dX12_wordAt_57 : decode cX12_wordAt 57 = .ok (.if_icmp .ne 17, 3) := by decide +kernel
theorem dX12_wordAt_60 : decode cX12_wordAt 60 = .ok (.aload_n 0, 1) := by decide +kernel
theorem dX12_wordAt_61 : decode cX12_wordAt 61 = .ok (.getfield 62, 3) := by decide +kernel
theorem dX12_wordAt_64 : decode cX12_wordAt 64 = .ok (.iload 6, 2) := by decide +kernel
theorem dX12_wordAt_66 : decode cX12_wordAt 66 = .ok (.iaload, 1) := by decide +kernel
theorem dX12_wordAt_67 : decode cX12_wordAt 67 = .ok (.bipush 32, 2) := by decide +kernel
theorem dX12_wordAt_69 : decode cX12_wordAt 69 = .ok (.if_icmp .ne 5, 3) := by decide +kernel
theorem dX12_wordAt_72 : decode cX12_wordAt 72 = .ok (.iload_n 3, 1) := by decide +kernel
theorem dX12_wordAt_73 : decode cX12_wordAt 73 = .ok (.ireturn, 1) := by decide +kernel
theorem dX12_wordAt_74 : decode cX12_wordAt 74 = .ok (.aload_n 0, 1) := by decide +kernel
theorem dX12_wordAt_75 : decode cX12_wordAt 75 = .ok (.getfield 62, 3) := by decide +kernel
theorem dX12_wordAt_78 : decode cX12_wordAt 78 = .ok (.iload 4, 2) := by decide +kernel
theorem dX12_wordAt_80 : decode cX12_wordAt 80 = .ok (.iaload, 1) := by decide +kernel
theorem dX12_wordAt_81 : decode cX12_wordAt 81 = .ok (.bipush 32, 2) := by decide +kernel
theorem dX12_wordAt_83 : decode cX12_wordAt 83 = .ok (.if_icmp .eq 9, 3) := by decide +kernel
theorem dX12_wordAt_86 : decode cX12_wordAt 86 = .ok (.iinc 4 1, 3) := by decide +kernel
theorem dX12_wordAt_89 : decode cX12_wordAt 89 = .ok (.goto (-15), 3) := by decide +kernel
theorem dX12_wordAt_92 : decode cX12_wordAt 92 = .ok (.iinc 4 1, 3) := by decide +kernel
theorem dX12_wordAt_95 : decode cX12_wordAt 95 = .ok (.iinc 3 1, 3) := by decide +kernel
theorem dX12_wordAt_98 : decode cX12_wordAt 98 = .ok (.goto (-93), 3) := by decide +kernel
theorem dX12_wordAt_101 : decode cX12_wordAt 101 = .ok (.iconst (-1), 1) := by decide +kernel
theorem dX12_wordAt_102 : decode cX12_wordAt 102 = .ok (.ireturn, 1) := by decide +kernel
theorem dX12_isSign_0 : decode cX12_isSign 0 = .ok (.aload_n 0, 1) := by decide +kernel
theorem dX12_isSign_1 : decode cX12_isSign 1 = .ok (.getfield 35, 3) := by decide +kernel
theorem dX12_isSign_4 : decode cX12_isSign 4 = .ok (.iconst 4, 1) := by decide +kernel
theorem dX12_isSign_5 : decode cX12_isSign 5 = .ok (.if_icmp .ne 15, 3) := by decide +kernel
theorem dX12_isSign_8 : decode cX12_isSign 8 = .ok (.aload_n 0, 1) := by decide +kernel
theorem dX12_isSign_9 : decode cX12_isSign 9 = .ok (.getfield 49, 3) := by decide +kernel
theorem dX12_isSign_12 : decode cX12_isSign 12 = .ok (.iload_n 1, 1) := by decide +kernel
theorem dX12_isSign_13 : decode cX12_isSign 13 = .ok (.if_icmp .ne 7, 3) := by decide +kernel
theorem dX12_isSign_16 : decode cX12_isSign 16 = .ok (.iconst 1, 1) := by decide +kernel
theorem dX12_isSign_17 : decode cX12_isSign 17 = .ok (.goto 4, 3) := by decide +kernel
theorem dX12_isSign_20 : decode cX12_isSign 20 = .ok (.iconst 0, 1) := by decide +kernel
theorem dX12_isSign_21 : decode cX12_isSign 21 = .ok (.ireturn, 1) := by decide +kernel
theorem dX12_isWord_0 : decode cX12_isWord 0 = .ok (.aload_n 0, 1) := by decide +kernel
theorem dX12_isWord_1 : decode cX12_isWord 1 = .ok (.getfield 35, 3) := by decide +kernel
theorem dX12_isWord_4 : decode cX12_isWord 4 = .ok (.iconst 5, 1) := by decide +kernel
theorem dX12_isWord_5 : decode cX12_isWord 5 = .ok (.if_icmp .ne 15, 3) := by decide +kernel
theorem dX12_isWord_8 : decode cX12_isWord 8 = .ok (.aload_n 0, 1) := by decide +kernel
theorem dX12_isWord_9 : decode cX12_isWord 9 = .ok (.getfield 49, 3) := by decide +kernel
theorem dX12_isWord_12 : decode cX12_isWord 12 = .ok (.iload_n 1, 1) := by decide +kernel
theorem dX12_isWord_13 : decode cX12_isWord 13 = .ok (.if_icmp .ne 7, 3) := by decide +kernel
theorem dX12_isWord_16 : decode cX12_isWord 16 = .ok (.iconst 1, 1) := by decide +kernel
theorem dX12_isWord_17 : decode cX12_isWord 17 = .ok (.goto 4, 3) := by decide +kernel
theorem dX12_isWord_20 : decode cX12_isWord 20 = .ok (.iconst 0, 1) := by decide +kernel
theorem dX12_isWord_21 : decode cX12_isWord 21 = .ok (.ireturn, 1) := by decide +kernel
theorem dX12_cannot_0 : decode cX12_cannot 0 = .ok (.aload_n 0, 1) := by decide +kernel
theorem dX12_cannot_1 : decode cX12_cannot 1 = .ok (.iconst 2, 1) := by decide +kernel
theorem dX12_cannot_2 : decode cX12_cannot 2 = .ok (.aload_n 0, 1) := by decide +kernel
theorem dX12_cannot_3 : decode cX12_cannot 3 = .ok (.getfield 32, 3) := by decide +kernel
theorem dX12_cannot_6 : decode cX12_cannot 6 = .ok (.invokevirtual 58, 3) := by decide +kernel
theorem dX12_cannot_9 : decode cX12_cannot 9 = .ok (.return_, 1) := by decide +kernel
theorem dX12_open_0 : decode cX12_open 0 = .ok (.aload_n 0, 1) := by decide +kernel
theorem dX12_open_1 : decode cX12_open 1 = .ok (.getfield 77, 3) := by decide +kernel
theorem dX12_open_4 : decode cX12_open 4 = .ok (.bipush 20, 2) := by decide +kernel
theorem dX12_open_6 : decode cX12_open 6 = .ok (.if_icmp .ne 12, 3) := by decide +kernel
theorem dX12_open_9 : decode cX12_open 9 = .ok (.aload_n 0, 1) := by decide +kernel
theorem dX12_open_10 : decode cX12_open 10 = .ok (.iconst 3, 1) := by decide +kernel
theorem dX12_open_11 : decode cX12_open 11 = .ok (.aload_n 0, 1) := by decide +kernel
theorem dX12_open_12 : decode cX12_open 12 = .ok (.getfield 32, 3) := by decide +kernel
theorem dX12_open_15 : decode cX12_open 15 = .ok (.invokevirtual 58, 3) := by decide +kernel
theorem dX12_open_18 : decode cX12_open 18 = .ok (.aload_n 0, 1) := by decide +kernel
theorem dX12_open_19 : decode cX12_open 19 = .ok (.dup, 1) := by decide +kernel
theorem dX12_open_20 : decode cX12_open 20 = .ok (.getfield 77, 3) := by decide +kernel
theorem dX12_open_23 : decode cX12_open 23 = .ok (.iconst 1, 1) := by decide +kernel
theorem dX12_open_24 : decode cX12_open 24 = .ok (.iadd, 1) := by decide +kernel
theorem dX12_open_25 : decode cX12_open 25 = .ok (.putfield 77, 3) := by decide +kernel
theorem dX12_open_28 : decode cX12_open 28 = .ok (.return_, 1) := by decide +kernel
theorem dX12_node_0 : decode cX12_node 0 = .ok (.aload_n 0, 1) := by decide +kernel
theorem dX12_node_1 : decode cX12_node 1 = .ok (.getfield 80, 3) := by decide +kernel
theorem dX12_node_4 : decode cX12_node 4 = .ok (.istore 5, 2) := by decide +kernel
theorem dX12_node_6 : decode cX12_node 6 = .ok (.aload_n 0, 1) := by decide +kernel
theorem dX12_node_7 : decode cX12_node 7 = .ok (.dup, 1) := by decide +kernel
theorem dX12_node_8 : decode cX12_node 8 = .ok (.getfield 80, 3) := by decide +kernel
theorem dX12_node_11 : decode cX12_node 11 = .ok (.iconst 1, 1) := by decide +kernel
theorem dX12_node_12 : decode cX12_node 12 = .ok (.iadd, 1) := by decide +kernel
theorem dX12_node_13 : decode cX12_node 13 = .ok (.putfield 80, 3) := by decide +kernel
theorem dX12_node_16 : decode cX12_node 16 = .ok (.aload_n 0, 1) := by decide +kernel
theorem dX12_node_17 : decode cX12_node 17 = .ok (.getfield 83, 3) := by decide +kernel
theorem dX12_node_20 : decode cX12_node 20 = .ok (.iload 5, 2) := by decide +kernel
theorem dX12_node_22 : decode cX12_node 22 = .ok (.iload_n 1, 1) := by decide +kernel
theorem dX12_node_23 : decode cX12_node 23 = .ok (.iastore, 1) := by decide +kernel
theorem dX12_node_24 : decode cX12_node 24 = .ok (.aload_n 0, 1) := by decide +kernel
theorem dX12_node_25 : decode cX12_node 25 = .ok (.getfield 86, 3) := by decide +kernel
theorem dX12_node_28 : decode cX12_node 28 = .ok (.iload 5, 2) := by decide +kernel
theorem dX12_node_30 : decode cX12_node 30 = .ok (.iload_n 2, 1) := by decide +kernel
theorem dX12_node_31 : decode cX12_node 31 = .ok (.iastore, 1) := by decide +kernel
theorem dX12_node_32 : decode cX12_node 32 = .ok (.aload_n 0, 1) := by decide +kernel
theorem dX12_node_33 : decode cX12_node 33 = .ok (.getfield 89, 3) := by decide +kernel
theorem dX12_node_36 : decode cX12_node 36 = .ok (.iload 5, 2) := by decide +kernel
theorem dX12_node_38 : decode cX12_node 38 = .ok (.iload_n 3, 1) := by decide +kernel
theorem dX12_node_39 : decode cX12_node 39 = .ok (.iastore, 1) := by decide +kernel
theorem dX12_node_40 : decode cX12_node 40 = .ok (.aload_n 0, 1) := by decide +kernel
theorem dX12_node_41 : decode cX12_node 41 = .ok (.getfield 92, 3) := by decide +kernel
theorem dX12_node_44 : decode cX12_node 44 = .ok (.iload 5, 2) := by decide +kernel
theorem dX12_node_46 : decode cX12_node 46 = .ok (.iload 4, 2) := by decide +kernel
theorem dX12_node_48 : decode cX12_node 48 = .ok (.iastore, 1) := by decide +kernel
theorem dX12_node_49 : decode cX12_node 49 = .ok (.aload_n 0, 1) := by decide +kernel
theorem dX12_node_50 : decode cX12_node 50 = .ok (.getfield 95, 3) := by decide +kernel
theorem dX12_node_53 : decode cX12_node 53 = .ok (.iload 5, 2) := by decide +kernel
theorem dX12_node_55 : decode cX12_node 55 = .ok (.iconst (-1), 1) := by decide +kernel
theorem dX12_node_56 : decode cX12_node 56 = .ok (.iastore, 1) := by decide +kernel
theorem dX12_node_57 : decode cX12_node 57 = .ok (.aload_n 0, 1) := by decide +kernel
theorem dX12_node_58 : decode cX12_node 58 = .ok (.getfield 98, 3) := by decide +kernel
theorem dX12_node_61 : decode cX12_node 61 = .ok (.iload 5, 2) := by decide +kernel
theorem dX12_node_63 : decode cX12_node 63 = .ok (.iconst (-1), 1) := by decide +kernel
theorem dX12_node_64 : decode cX12_node 64 = .ok (.iastore, 1) := by decide +kernel
theorem dX12_node_65 : decode cX12_node 65 = .ok (.iload 5, 2) := by decide +kernel
theorem dX12_node_67 : decode cX12_node 67 = .ok (.ireturn, 1) := by decide +kernel
theorem dX12_over_0 : decode cX12_over 0 = .ok (.aload_n 0, 1) := by decide +kernel
theorem dX12_over_1 : decode cX12_over 1 = .ok (.iload_n 1, 1) := by decide +kernel
theorem dX12_over_2 : decode cX12_over 2 = .ok (.iload_n 2, 1) := by decide +kernel
theorem dX12_over_3 : decode cX12_over 3 = .ok (.iload_n 3, 1) := by decide +kernel
theorem dX12_over_4 : decode cX12_over 4 = .ok (.iload 4, 2) := by decide +kernel
theorem dX12_over_6 : decode cX12_over 6 = .ok (.invokevirtual 101, 3) := by decide +kernel
theorem dX12_over_9 : decode cX12_over 9 = .ok (.istore 5, 2) := by decide +kernel
theorem dX12_over_11 : decode cX12_over 11 = .ok (.aload_n 0, 1) := by decide +kernel
theorem dX12_over_12 : decode cX12_over 12 = .ok (.getfield 98, 3) := by decide +kernel
theorem dX12_over_15 : decode cX12_over 15 = .ok (.iload_n 3, 1) := by decide +kernel
theorem dX12_over_16 : decode cX12_over 16 = .ok (.iload 5, 2) := by decide +kernel
theorem dX12_over_18 : decode cX12_over 18 = .ok (.iastore, 1) := by decide +kernel
theorem dX12_over_19 : decode cX12_over 19 = .ok (.iload 5, 2) := by decide +kernel
theorem dX12_over_21 : decode cX12_over 21 = .ok (.ireturn, 1) := by decide +kernel
theorem dX12_keep_0 : decode cX12_keep 0 = .ok (.aload_n 0, 1) := by decide +kernel
theorem dX12_keep_1 : decode cX12_keep 1 = .ok (.getfield 105, 3) := by decide +kernel
theorem dX12_keep_4 : decode cX12_keep 4 = .ok (.istore_n 3, 1) := by decide +kernel
theorem dX12_keep_5 : decode cX12_keep 5 = .ok (.iload_n 1, 1) := by decide +kernel
theorem dX12_keep_6 : decode cX12_keep 6 = .ok (.istore 4, 2) := by decide +kernel
theorem dX12_keep_8 : decode cX12_keep 8 = .ok (.iload 4, 2) := by decide +kernel
theorem dX12_keep_10 : decode cX12_keep 10 = .ok (.iload_n 2, 1) := by decide +kernel
theorem dX12_keep_11 : decode cX12_keep 11 = .ok (.if_icmp .ge 35, 3) := by decide +kernel
theorem dX12_keep_14 : decode cX12_keep 14 = .ok (.aload_n 0, 1) := by decide +kernel
theorem dX12_keep_15 : decode cX12_keep 15 = .ok (.getfield 108, 3) := by decide +kernel
theorem dX12_keep_18 : decode cX12_keep 18 = .ok (.aload_n 0, 1) := by decide +kernel
theorem dX12_keep_19 : decode cX12_keep 19 = .ok (.getfield 105, 3) := by decide +kernel
theorem dX12_keep_22 : decode cX12_keep 22 = .ok (.aload_n 0, 1) := by decide +kernel
theorem dX12_keep_23 : decode cX12_keep 23 = .ok (.getfield 7, 3) := by decide +kernel
theorem dX12_keep_26 : decode cX12_keep 26 = .ok (.iload 4, 2) := by decide +kernel
theorem dX12_keep_28 : decode cX12_keep 28 = .ok (.iaload, 1) := by decide +kernel
theorem dX12_keep_29 : decode cX12_keep 29 = .ok (.iastore, 1) := by decide +kernel
theorem dX12_keep_30 : decode cX12_keep 30 = .ok (.aload_n 0, 1) := by decide +kernel
theorem dX12_keep_31 : decode cX12_keep 31 = .ok (.dup, 1) := by decide +kernel
theorem dX12_keep_32 : decode cX12_keep 32 = .ok (.getfield 105, 3) := by decide +kernel
theorem dX12_keep_35 : decode cX12_keep 35 = .ok (.iconst 1, 1) := by decide +kernel
theorem dX12_keep_36 : decode cX12_keep 36 = .ok (.iadd, 1) := by decide +kernel
theorem dX12_keep_37 : decode cX12_keep 37 = .ok (.putfield 105, 3) := by decide +kernel
theorem dX12_keep_40 : decode cX12_keep 40 = .ok (.iinc 4 1, 3) := by decide +kernel
theorem dX12_keep_43 : decode cX12_keep 43 = .ok (.goto (-35), 3) := by decide +kernel
theorem dX12_keep_46 : decode cX12_keep 46 = .ok (.iload_n 3, 1) := by decide +kernel
theorem dX12_keep_47 : decode cX12_keep 47 = .ok (.ireturn, 1) := by decide +kernel
theorem dX12_isNamed_0 : decode cX12_isNamed 0 = .ok (.aload_n 0, 1) := by decide +kernel
theorem dX12_isNamed_1 : decode cX12_isNamed 1 = .ok (.getfield 55, 3) := by decide +kernel
theorem dX12_isNamed_4 : decode cX12_isNamed 4 = .ok (.aload_n 0, 1) := by decide +kernel
theorem dX12_isNamed_5 : decode cX12_isNamed 5 = .ok (.getfield 32, 3) := by decide +kernel
theorem dX12_isNamed_8 : decode cX12_isNamed 8 = .ok (.isub, 1) := by decide +kernel
theorem dX12_isNamed_9 : decode cX12_isNamed 9 = .ok (.iload_n 2, 1) := by decide +kernel
theorem dX12_isNamed_10 : decode cX12_isNamed 10 = .ok (.if_icmp .eq 5, 3) := by decide +kernel
theorem dX12_isNamed_13 : decode cX12_isNamed 13 = .ok (.iconst 0, 1) := by decide +kernel
theorem dX12_isNamed_14 : decode cX12_isNamed 14 = .ok (.ireturn, 1) := by decide +kernel
theorem dX12_isNamed_15 : decode cX12_isNamed 15 = .ok (.iconst 0, 1) := by decide +kernel
theorem dX12_isNamed_16 : decode cX12_isNamed 16 = .ok (.istore_n 3, 1) := by decide +kernel
theorem dX12_isNamed_17 : decode cX12_isNamed 17 = .ok (.iload_n 3, 1) := by decide +kernel
theorem dX12_isNamed_18 : decode cX12_isNamed 18 = .ok (.iload_n 2, 1) := by decide +kernel
theorem dX12_isNamed_19 : decode cX12_isNamed 19 = .ok (.if_icmp .ge 33, 3) := by decide +kernel
theorem dX12_isNamed_22 : decode cX12_isNamed 22 = .ok (.aload_n 0, 1) := by decide +kernel
theorem dX12_isNamed_23 : decode cX12_isNamed 23 = .ok (.getfield 108, 3) := by decide +kernel
theorem dX12_isNamed_26 : decode cX12_isNamed 26 = .ok (.iload_n 1, 1) := by decide +kernel
theorem dX12_isNamed_27 : decode cX12_isNamed 27 = .ok (.iload_n 3, 1) := by decide +kernel
theorem dX12_isNamed_28 : decode cX12_isNamed 28 = .ok (.iadd, 1) := by decide +kernel
theorem dX12_isNamed_29 : decode cX12_isNamed 29 = .ok (.iaload, 1) := by decide +kernel
theorem dX12_isNamed_30 : decode cX12_isNamed 30 = .ok (.aload_n 0, 1) := by decide +kernel
theorem dX12_isNamed_31 : decode cX12_isNamed 31 = .ok (.getfield 7, 3) := by decide +kernel
theorem dX12_isNamed_34 : decode cX12_isNamed 34 = .ok (.aload_n 0, 1) := by decide +kernel
theorem dX12_isNamed_35 : decode cX12_isNamed 35 = .ok (.getfield 32, 3) := by decide +kernel
theorem dX12_isNamed_38 : decode cX12_isNamed 38 = .ok (.iload_n 3, 1) := by decide +kernel
theorem dX12_isNamed_39 : decode cX12_isNamed 39 = .ok (.iadd, 1) := by decide +kernel
theorem dX12_isNamed_40 : decode cX12_isNamed 40 = .ok (.iaload, 1) := by decide +kernel
theorem dX12_isNamed_41 : decode cX12_isNamed 41 = .ok (.if_icmp .eq 5, 3) := by decide +kernel
theorem dX12_isNamed_44 : decode cX12_isNamed 44 = .ok (.iconst 0, 1) := by decide +kernel
theorem dX12_isNamed_45 : decode cX12_isNamed 45 = .ok (.ireturn, 1) := by decide +kernel
theorem dX12_isNamed_46 : decode cX12_isNamed 46 = .ok (.iinc 3 1, 3) := by decide +kernel
theorem dX12_isNamed_49 : decode cX12_isNamed 49 = .ok (.goto (-32), 3) := by decide +kernel
theorem dX12_isNamed_52 : decode cX12_isNamed 52 = .ok (.iconst 1, 1) := by decide +kernel
theorem dX12_isNamed_53 : decode cX12_isNamed 53 = .ok (.ireturn, 1) := by decide +kernel
theorem dX12_find_0 : decode cX12_find 0 = .ok (.aload_n 0, 1) := by decide +kernel
theorem dX12_find_1 : decode cX12_find 1 = .ok (.iconst 0, 1) := by decide +kernel
theorem dX12_find_2 : decode cX12_find 2 = .ok (.putfield 111, 3) := by decide +kernel
theorem dX12_find_5 : decode cX12_find 5 = .ok (.aload_n 0, 1) := by decide +kernel
theorem dX12_find_6 : decode cX12_find 6 = .ok (.getfield 114, 3) := by decide +kernel
theorem dX12_find_9 : decode cX12_find 9 = .ok (.iconst 1, 1) := by decide +kernel
theorem dX12_find_10 : decode cX12_find 10 = .ok (.isub, 1) := by decide +kernel
theorem dX12_find_11 : decode cX12_find 11 = .ok (.istore_n 1, 1) := by decide +kernel
theorem dX12_find_12 : decode cX12_find 12 = .ok (.iload_n 1, 1) := by decide +kernel
theorem dX12_find_13 : decode cX12_find 13 = .ok (.ifCond .lt 60, 3) := by decide +kernel
theorem dX12_find_16 : decode cX12_find 16 = .ok (.aload_n 0, 1) := by decide +kernel
theorem dX12_find_17 : decode cX12_find 17 = .ok (.aload_n 0, 1) := by decide +kernel
theorem dX12_find_18 : decode cX12_find 18 = .ok (.getfield 117, 3) := by decide +kernel
theorem dX12_find_21 : decode cX12_find 21 = .ok (.iload_n 1, 1) := by decide +kernel
theorem dX12_find_22 : decode cX12_find 22 = .ok (.iaload, 1) := by decide +kernel
theorem dX12_find_23 : decode cX12_find 23 = .ok (.aload_n 0, 1) := by decide +kernel
theorem dX12_find_24 : decode cX12_find 24 = .ok (.getfield 120, 3) := by decide +kernel
theorem dX12_find_27 : decode cX12_find 27 = .ok (.iload_n 1, 1) := by decide +kernel
theorem dX12_find_28 : decode cX12_find 28 = .ok (.iaload, 1) := by decide +kernel
theorem dX12_find_29 : decode cX12_find 29 = .ok (.invokevirtual 123, 3) := by decide +kernel
theorem dX12_find_32 : decode cX12_find 32 = .ok (.ifCond .eq 35, 3) := by decide +kernel
theorem dX12_find_35 : decode cX12_find 35 = .ok (.aload_n 0, 1) := by decide +kernel
theorem dX12_find_36 : decode cX12_find 36 = .ok (.iconst 1, 1) := by decide +kernel
theorem dX12_find_37 : decode cX12_find 37 = .ok (.putfield 111, 3) := by decide +kernel
theorem dX12_find_40 : decode cX12_find 40 = .ok (.aload_n 0, 1) := by decide +kernel
theorem dX12_find_41 : decode cX12_find 41 = .ok (.aload_n 0, 1) := by decide +kernel
theorem dX12_find_42 : decode cX12_find 42 = .ok (.getfield 127, 3) := by decide +kernel
theorem dX12_find_45 : decode cX12_find 45 = .ok (.iload_n 1, 1) := by decide +kernel
theorem dX12_find_46 : decode cX12_find 46 = .ok (.iaload, 1) := by decide +kernel
theorem dX12_find_47 : decode cX12_find 47 = .ok (.putfield 130, 3) := by decide +kernel
theorem dX12_find_50 : decode cX12_find 50 = .ok (.aload_n 0, 1) := by decide +kernel
theorem dX12_find_51 : decode cX12_find 51 = .ok (.aload_n 0, 1) := by decide +kernel
theorem dX12_find_52 : decode cX12_find 52 = .ok (.getfield 133, 3) := by decide +kernel
theorem dX12_find_55 : decode cX12_find 55 = .ok (.ifCond .le 7, 3) := by decide +kernel
theorem dX12_find_58 : decode cX12_find 58 = .ok (.iconst 1, 1) := by decide +kernel
theorem dX12_find_59 : decode cX12_find 59 = .ok (.goto 4, 3) := by decide +kernel
theorem dX12_find_62 : decode cX12_find 62 = .ok (.iconst 0, 1) := by decide +kernel
theorem dX12_find_63 : decode cX12_find 63 = .ok (.putfield 136, 3) := by decide +kernel
theorem dX12_find_66 : decode cX12_find 66 = .ok (.return_, 1) := by decide +kernel
theorem dX12_find_67 : decode cX12_find 67 = .ok (.iinc 1 (-1), 3) := by decide +kernel
theorem dX12_find_70 : decode cX12_find 70 = .ok (.goto (-58), 3) := by decide +kernel
theorem dX12_find_73 : decode cX12_find 73 = .ok (.iconst 0, 1) := by decide +kernel
theorem dX12_find_74 : decode cX12_find 74 = .ok (.istore_n 1, 1) := by decide +kernel
theorem dX12_find_75 : decode cX12_find 75 = .ok (.iload_n 1, 1) := by decide +kernel
theorem dX12_find_76 : decode cX12_find 76 = .ok (.aload_n 0, 1) := by decide +kernel
theorem dX12_find_77 : decode cX12_find 77 = .ok (.getfield 139, 3) := by decide +kernel
theorem dX12_find_80 : decode cX12_find 80 = .ok (.if_icmp .ge 54, 3) := by decide +kernel
theorem dX12_find_83 : decode cX12_find 83 = .ok (.aload_n 0, 1) := by decide +kernel
theorem dX12_find_84 : decode cX12_find 84 = .ok (.aload_n 0, 1) := by decide +kernel
theorem dX12_find_85 : decode cX12_find 85 = .ok (.getfield 142, 3) := by decide +kernel
theorem dX12_find_88 : decode cX12_find 88 = .ok (.iload_n 1, 1) := by decide +kernel
theorem dX12_find_89 : decode cX12_find 89 = .ok (.iaload, 1) := by decide +kernel
theorem dX12_find_90 : decode cX12_find 90 = .ok (.aload_n 0, 1) := by decide +kernel
theorem dX12_find_91 : decode cX12_find 91 = .ok (.getfield 145, 3) := by decide +kernel
theorem dX12_find_94 : decode cX12_find 94 = .ok (.iload_n 1, 1) := by decide +kernel
theorem dX12_find_95 : decode cX12_find 95 = .ok (.iaload, 1) := by decide +kernel
theorem dX12_find_96 : decode cX12_find 96 = .ok (.invokevirtual 123, 3) := by decide +kernel
theorem dX12_find_99 : decode cX12_find 99 = .ok (.ifCond .eq 29, 3) := by decide +kernel
theorem dX12_find_102 : decode cX12_find 102 = .ok (.aload_n 0, 1) := by decide +kernel
theorem dX12_find_103 : decode cX12_find 103 = .ok (.aload_n 0, 1) := by decide +kernel
theorem dX12_find_104 : decode cX12_find 104 = .ok (.getfield 148, 3) := by decide +kernel
theorem dX12_find_107 : decode cX12_find 107 = .ok (.iload_n 1, 1) := by decide +kernel
theorem dX12_find_108 : decode cX12_find 108 = .ok (.iaload, 1) := by decide +kernel
theorem dX12_find_109 : decode cX12_find 109 = .ok (.putfield 111, 3) := by decide +kernel
theorem dX12_find_112 : decode cX12_find 112 = .ok (.aload_n 0, 1) := by decide +kernel
theorem dX12_find_113 : decode cX12_find 113 = .ok (.aload_n 0, 1) := by decide +kernel
theorem dX12_find_114 : decode cX12_find 114 = .ok (.getfield 151, 3) := by decide +kernel
theorem dX12_find_117 : decode cX12_find 117 = .ok (.iload_n 1, 1) := by decide +kernel
theorem dX12_find_118 : decode cX12_find 118 = .ok (.iaload, 1) := by decide +kernel
theorem dX12_find_119 : decode cX12_find 119 = .ok (.putfield 130, 3) := by decide +kernel
theorem dX12_find_122 : decode cX12_find 122 = .ok (.aload_n 0, 1) := by decide +kernel
theorem dX12_find_123 : decode cX12_find 123 = .ok (.iconst 0, 1) := by decide +kernel
theorem dX12_find_124 : decode cX12_find 124 = .ok (.putfield 136, 3) := by decide +kernel
theorem dX12_find_127 : decode cX12_find 127 = .ok (.return_, 1) := by decide +kernel
theorem dX12_find_128 : decode cX12_find 128 = .ok (.iinc 1 1, 3) := by decide +kernel
theorem dX12_find_131 : decode cX12_find 131 = .ok (.goto (-56), 3) := by decide +kernel
theorem dX12_find_134 : decode cX12_find 134 = .ok (.return_, 1) := by decide +kernel
theorem dX12_tellEntity_0 : decode cX12_tellEntity 0 = .ok (.aload_n 0, 1) := by decide +kernel
theorem dX12_tellEntity_1 : decode cX12_tellEntity 1 = .ok (.getfield 148, 3) := by decide +kernel
theorem dX12_tellEntity_4 : decode cX12_tellEntity 4 = .ok (.aload_n 0, 1) := by decide +kernel
theorem dX12_tellEntity_5 : decode cX12_tellEntity 5 = .ok (.getfield 139, 3) := by decide +kernel
theorem dX12_tellEntity_8 : decode cX12_tellEntity 8 = .ok (.iload_n 1, 1) := by decide +kernel
theorem dX12_tellEntity_9 : decode cX12_tellEntity 9 = .ok (.iastore, 1) := by decide +kernel
theorem dX12_tellEntity_10 : decode cX12_tellEntity 10 = .ok (.aload_n 0, 1) := by decide +kernel
theorem dX12_tellEntity_11 : decode cX12_tellEntity 11 = .ok (.getfield 142, 3) := by decide +kernel
theorem dX12_tellEntity_14 : decode cX12_tellEntity 14 = .ok (.aload_n 0, 1) := by decide +kernel
theorem dX12_tellEntity_15 : decode cX12_tellEntity 15 = .ok (.getfield 139, 3) := by decide +kernel
theorem dX12_tellEntity_18 : decode cX12_tellEntity 18 = .ok (.aload_n 0, 1) := by decide +kernel
theorem dX12_tellEntity_19 : decode cX12_tellEntity 19 = .ok (.aload_n 0, 1) := by decide +kernel
theorem dX12_tellEntity_20 : decode cX12_tellEntity 20 = .ok (.getfield 32, 3) := by decide +kernel
theorem dX12_tellEntity_23 : decode cX12_tellEntity 23 = .ok (.aload_n 0, 1) := by decide +kernel
theorem dX12_tellEntity_24 : decode cX12_tellEntity 24 = .ok (.getfield 55, 3) := by decide +kernel
theorem dX12_tellEntity_27 : decode cX12_tellEntity 27 = .ok (.invokevirtual 154, 3) := by decide +kernel
theorem dX12_tellEntity_30 : decode cX12_tellEntity 30 = .ok (.iastore, 1) := by decide +kernel
theorem dX12_tellEntity_31 : decode cX12_tellEntity 31 = .ok (.aload_n 0, 1) := by decide +kernel
theorem dX12_tellEntity_32 : decode cX12_tellEntity 32 = .ok (.getfield 145, 3) := by decide +kernel
theorem dX12_tellEntity_35 : decode cX12_tellEntity 35 = .ok (.aload_n 0, 1) := by decide +kernel
theorem dX12_tellEntity_36 : decode cX12_tellEntity 36 = .ok (.getfield 139, 3) := by decide +kernel
theorem dX12_tellEntity_39 : decode cX12_tellEntity 39 = .ok (.aload_n 0, 1) := by decide +kernel
theorem dX12_tellEntity_40 : decode cX12_tellEntity 40 = .ok (.getfield 55, 3) := by decide +kernel
theorem dX12_tellEntity_43 : decode cX12_tellEntity 43 = .ok (.aload_n 0, 1) := by decide +kernel
theorem dX12_tellEntity_44 : decode cX12_tellEntity 44 = .ok (.getfield 32, 3) := by decide +kernel
theorem dX12_tellEntity_47 : decode cX12_tellEntity 47 = .ok (.isub, 1) := by decide +kernel
theorem dX12_tellEntity_48 : decode cX12_tellEntity 48 = .ok (.iastore, 1) := by decide +kernel
theorem dX12_tellEntity_49 : decode cX12_tellEntity 49 = .ok (.aload_n 0, 1) := by decide +kernel
theorem dX12_tellEntity_50 : decode cX12_tellEntity 50 = .ok (.getfield 151, 3) := by decide +kernel
theorem dX12_tellEntity_53 : decode cX12_tellEntity 53 = .ok (.aload_n 0, 1) := by decide +kernel
theorem dX12_tellEntity_54 : decode cX12_tellEntity 54 = .ok (.getfield 139, 3) := by decide +kernel
theorem dX12_tellEntity_57 : decode cX12_tellEntity 57 = .ok (.iload_n 2, 1) := by decide +kernel
theorem dX12_tellEntity_58 : decode cX12_tellEntity 58 = .ok (.iastore, 1) := by decide +kernel
theorem dX12_tellEntity_59 : decode cX12_tellEntity 59 = .ok (.aload_n 0, 1) := by decide +kernel
theorem dX12_tellEntity_60 : decode cX12_tellEntity 60 = .ok (.dup, 1) := by decide +kernel
theorem dX12_tellEntity_61 : decode cX12_tellEntity 61 = .ok (.getfield 139, 3) := by decide +kernel
theorem dX12_tellEntity_64 : decode cX12_tellEntity 64 = .ok (.iconst 1, 1) := by decide +kernel
theorem dX12_tellEntity_65 : decode cX12_tellEntity 65 = .ok (.iadd, 1) := by decide +kernel
theorem dX12_tellEntity_66 : decode cX12_tellEntity 66 = .ok (.putfield 139, 3) := by decide +kernel
theorem dX12_tellEntity_69 : decode cX12_tellEntity 69 = .ok (.return_, 1) := by decide +kernel
theorem dX12_see_0 : decode cX12_see 0 = .ok (.aload_n 0, 1) := by decide +kernel
theorem dX12_see_1 : decode cX12_see 1 = .ok (.getfield 117, 3) := by decide +kernel
theorem dX12_see_4 : decode cX12_see 4 = .ok (.aload_n 0, 1) := by decide +kernel
theorem dX12_see_5 : decode cX12_see 5 = .ok (.getfield 114, 3) := by decide +kernel
theorem dX12_see_8 : decode cX12_see 8 = .ok (.iload_n 1, 1) := by decide +kernel
theorem dX12_see_9 : decode cX12_see 9 = .ok (.iastore, 1) := by decide +kernel
theorem dX12_see_10 : decode cX12_see 10 = .ok (.aload_n 0, 1) := by decide +kernel
theorem dX12_see_11 : decode cX12_see 11 = .ok (.getfield 120, 3) := by decide +kernel
theorem dX12_see_14 : decode cX12_see 14 = .ok (.aload_n 0, 1) := by decide +kernel
theorem dX12_see_15 : decode cX12_see 15 = .ok (.getfield 114, 3) := by decide +kernel
theorem dX12_see_18 : decode cX12_see 18 = .ok (.iload_n 2, 1) := by decide +kernel
theorem dX12_see_19 : decode cX12_see 19 = .ok (.iastore, 1) := by decide +kernel
theorem dX12_see_20 : decode cX12_see 20 = .ok (.aload_n 0, 1) := by decide +kernel
theorem dX12_see_21 : decode cX12_see 21 = .ok (.getfield 127, 3) := by decide +kernel
theorem dX12_see_24 : decode cX12_see 24 = .ok (.aload_n 0, 1) := by decide +kernel
theorem dX12_see_25 : decode cX12_see 25 = .ok (.getfield 114, 3) := by decide +kernel
theorem dX12_see_28 : decode cX12_see 28 = .ok (.iload_n 3, 1) := by decide +kernel
theorem dX12_see_29 : decode cX12_see 29 = .ok (.iastore, 1) := by decide +kernel
theorem dX12_see_30 : decode cX12_see 30 = .ok (.aload_n 0, 1) := by decide +kernel
theorem dX12_see_31 : decode cX12_see 31 = .ok (.dup, 1) := by decide +kernel
theorem dX12_see_32 : decode cX12_see 32 = .ok (.getfield 114, 3) := by decide +kernel
theorem dX12_see_35 : decode cX12_see 35 = .ok (.iconst 1, 1) := by decide +kernel
theorem dX12_see_36 : decode cX12_see 36 = .ok (.iadd, 1) := by decide +kernel
theorem dX12_see_37 : decode cX12_see 37 = .ok (.putfield 114, 3) := by decide +kernel
theorem dX12_see_40 : decode cX12_see 40 = .ok (.return_, 1) := by decide +kernel
theorem dX12_wantName_0 : decode cX12_wantName 0 = .ok (.aload_n 0, 1) := by decide +kernel
theorem dX12_wantName_1 : decode cX12_wantName 1 = .ok (.getfield 11, 3) := by decide +kernel
theorem dX12_wantName_4 : decode cX12_wantName 4 = .ok (.ifCond .ne 15, 3) := by decide +kernel
theorem dX12_wantName_7 : decode cX12_wantName 7 = .ok (.aload_n 0, 1) := by decide +kernel
theorem dX12_wantName_8 : decode cX12_wantName 8 = .ok (.getfield 35, 3) := by decide +kernel
theorem dX12_wantName_11 : decode cX12_wantName 11 = .ok (.iconst 1, 1) := by decide +kernel
theorem dX12_wantName_12 : decode cX12_wantName 12 = .ok (.if_icmp .eq 7, 3) := by decide +kernel
theorem dX12_wantName_15 : decode cX12_wantName 15 = .ok (.aload_n 0, 1) := by decide +kernel
theorem dX12_wantName_16 : decode cX12_wantName 16 = .ok (.invokevirtual 68, 3) := by decide +kernel
theorem dX12_wantName_19 : decode cX12_wantName 19 = .ok (.return_, 1) := by decide +kernel
theorem dX12_isRelation_0 : decode cX12_isRelation 0 = .ok (.aload_n 0, 1) := by decide +kernel
theorem dX12_isRelation_1 : decode cX12_isRelation 1 = .ok (.getfield 35, 3) := by decide +kernel
theorem dX12_isRelation_4 : decode cX12_isRelation 4 = .ok (.iconst 4, 1) := by decide +kernel
theorem dX12_isRelation_5 : decode cX12_isRelation 5 = .ok (.if_icmp .ne 21, 3) := by decide +kernel
theorem dX12_isRelation_8 : decode cX12_isRelation 8 = .ok (.aload_n 0, 1) := by decide +kernel
theorem dX12_isRelation_9 : decode cX12_isRelation 9 = .ok (.getfield 49, 3) := by decide +kernel
theorem dX12_isRelation_12 : decode cX12_isRelation 12 = .ok (.bipush 17, 2) := by decide +kernel
theorem dX12_isRelation_14 : decode cX12_isRelation 14 = .ok (.if_icmp .lt 12, 3) := by decide +kernel
theorem dX12_isRelation_17 : decode cX12_isRelation 17 = .ok (.aload_n 0, 1) := by decide +kernel
theorem dX12_isRelation_18 : decode cX12_isRelation 18 = .ok (.getfield 49, 3) := by decide +kernel
theorem dX12_isRelation_21 : decode cX12_isRelation 21 = .ok (.bipush 22, 2) := by decide +kernel
theorem dX12_isRelation_23 : decode cX12_isRelation 23 = .ok (.if_icmp .le 30, 3) := by decide +kernel
theorem dX12_isRelation_26 : decode cX12_isRelation 26 = .ok (.aload_n 0, 1) := by decide +kernel
theorem dX12_isRelation_27 : decode cX12_isRelation 27 = .ok (.bipush 14, 2) := by decide +kernel
theorem dX12_isRelation_29 : decode cX12_isRelation 29 = .ok (.invokevirtual 74, 3) := by decide +kernel
theorem dX12_isRelation_32 : decode cX12_isRelation 32 = .ok (.ifCond .ne 21, 3) := by decide +kernel
theorem dX12_isRelation_35 : decode cX12_isRelation 35 = .ok (.aload_n 0, 1) := by decide +kernel
theorem dX12_isRelation_36 : decode cX12_isRelation 36 = .ok (.bipush 15, 2) := by decide +kernel
theorem dX12_isRelation_38 : decode cX12_isRelation 38 = .ok (.invokevirtual 74, 3) := by decide +kernel
theorem dX12_isRelation_41 : decode cX12_isRelation 41 = .ok (.ifCond .ne 12, 3) := by decide +kernel
theorem dX12_isRelation_44 : decode cX12_isRelation 44 = .ok (.aload_n 0, 1) := by decide +kernel
theorem dX12_isRelation_45 : decode cX12_isRelation 45 = .ok (.bipush 16, 2) := by decide +kernel
theorem dX12_isRelation_47 : decode cX12_isRelation 47 = .ok (.invokevirtual 74, 3) := by decide +kernel
theorem dX12_isRelation_50 : decode cX12_isRelation 50 = .ok (.ifCond .eq 7, 3) := by decide +kernel
theorem dX12_isRelation_53 : decode cX12_isRelation 53 = .ok (.iconst 1, 1) := by decide +kernel
theorem dX12_isRelation_54 : decode cX12_isRelation 54 = .ok (.goto 4, 3) := by decide +kernel
theorem dX12_isRelation_57 : decode cX12_isRelation 57 = .ok (.iconst 0, 1) := by decide +kernel
theorem dX12_isRelation_58 : decode cX12_isRelation 58 = .ok (.ireturn, 1) := by decide +kernel
theorem dX12_operator_0 : decode cX12_operator 0 = .ok (.aload_n 0, 1) := by decide +kernel
theorem dX12_operator_1 : decode cX12_operator 1 = .ok (.getfield 35, 3) := by decide +kernel
theorem dX12_operator_4 : decode cX12_operator 4 = .ok (.iconst 4, 1) := by decide +kernel
theorem dX12_operator_5 : decode cX12_operator 5 = .ok (.if_icmp .ne 10, 3) := by decide +kernel
theorem dX12_operator_8 : decode cX12_operator 8 = .ok (.aload_n 0, 1) := by decide +kernel
theorem dX12_operator_9 : decode cX12_operator 9 = .ok (.getfield 49, 3) := by decide +kernel
theorem dX12_operator_12 : decode cX12_operator 12 = .ok (.goto 10, 3) := by decide +kernel
theorem dX12_operator_15 : decode cX12_operator 15 = .ok (.bipush 100, 2) := by decide +kernel
theorem dX12_operator_17 : decode cX12_operator 17 = .ok (.aload_n 0, 1) := by decide +kernel
theorem dX12_operator_18 : decode cX12_operator 18 = .ok (.getfield 49, 3) := by decide +kernel
theorem dX12_operator_21 : decode cX12_operator 21 = .ok (.iadd, 1) := by decide +kernel
theorem dX12_operator_22 : decode cX12_operator 22 = .ok (.ireturn, 1) := by decide +kernel
theorem dX12_wrapped_0 : decode cX12_wrapped 0 = .ok (.aload_n 0, 1) := by decide +kernel
theorem dX12_wrapped_1 : decode cX12_wrapped 1 = .ok (.iload_n 1, 1) := by decide +kernel
theorem dX12_wrapped_2 : decode cX12_wrapped 2 = .ok (.iload_n 2, 1) := by decide +kernel
theorem dX12_wrapped_3 : decode cX12_wrapped 3 = .ok (.iload_n 3, 1) := by decide +kernel
theorem dX12_wrapped_4 : decode cX12_wrapped 4 = .ok (.iload 4, 2) := by decide +kernel
theorem dX12_wrapped_6 : decode cX12_wrapped 6 = .ok (.invokevirtual 101, 3) := by decide +kernel
theorem dX12_wrapped_9 : decode cX12_wrapped 9 = .ok (.istore 6, 2) := by decide +kernel
theorem dX12_wrapped_11 : decode cX12_wrapped 11 = .ok (.aload_n 0, 1) := by decide +kernel
theorem dX12_wrapped_12 : decode cX12_wrapped 12 = .ok (.getfield 95, 3) := by decide +kernel
theorem dX12_wrapped_15 : decode cX12_wrapped 15 = .ok (.iload 6, 2) := by decide +kernel
theorem dX12_wrapped_17 : decode cX12_wrapped 17 = .ok (.iload 5, 2) := by decide +kernel
theorem dX12_wrapped_19 : decode cX12_wrapped 19 = .ok (.iastore, 1) := by decide +kernel
theorem dX12_wrapped_20 : decode cX12_wrapped 20 = .ok (.iload 6, 2) := by decide +kernel
theorem dX12_wrapped_22 : decode cX12_wrapped 22 = .ok (.ireturn, 1) := by decide +kernel
theorem dX12_isBlockEnd_0 : decode cX12_isBlockEnd 0 = .ok (.aload_n 0, 1) := by decide +kernel
theorem dX12_isBlockEnd_1 : decode cX12_isBlockEnd 1 = .ok (.getfield 35, 3) := by decide +kernel
theorem dX12_isBlockEnd_4 : decode cX12_isBlockEnd 4 = .ok (.ifCond .eq 30, 3) := by decide +kernel
theorem dX12_isBlockEnd_7 : decode cX12_isBlockEnd 7 = .ok (.aload_n 0, 1) := by decide +kernel
theorem dX12_isBlockEnd_8 : decode cX12_isBlockEnd 8 = .ok (.bipush 6, 2) := by decide +kernel
theorem dX12_isBlockEnd_10 : decode cX12_isBlockEnd 10 = .ok (.invokevirtual 74, 3) := by decide +kernel
theorem dX12_isBlockEnd_13 : decode cX12_isBlockEnd 13 = .ok (.ifCond .ne 21, 3) := by decide +kernel
theorem dX12_isBlockEnd_16 : decode cX12_isBlockEnd 16 = .ok (.aload_n 0, 1) := by decide +kernel
theorem dX12_isBlockEnd_17 : decode cX12_isBlockEnd 17 = .ok (.bipush 9, 2) := by decide +kernel
theorem dX12_isBlockEnd_19 : decode cX12_isBlockEnd 19 = .ok (.invokevirtual 74, 3) := by decide +kernel
theorem dX12_isBlockEnd_22 : decode cX12_isBlockEnd 22 = .ok (.ifCond .ne 12, 3) := by decide +kernel
theorem dX12_isBlockEnd_25 : decode cX12_isBlockEnd 25 = .ok (.aload_n 0, 1) := by decide +kernel
theorem dX12_isBlockEnd_26 : decode cX12_isBlockEnd 26 = .ok (.bipush 10, 2) := by decide +kernel
theorem dX12_isBlockEnd_28 : decode cX12_isBlockEnd 28 = .ok (.invokevirtual 74, 3) := by decide +kernel
theorem dX12_isBlockEnd_31 : decode cX12_isBlockEnd 31 = .ok (.ifCond .eq 7, 3) := by decide +kernel
theorem dX12_isBlockEnd_34 : decode cX12_isBlockEnd 34 = .ok (.iconst 1, 1) := by decide +kernel
theorem dX12_isBlockEnd_35 : decode cX12_isBlockEnd 35 = .ok (.goto 4, 3) := by decide +kernel
theorem dX12_isBlockEnd_38 : decode cX12_isBlockEnd 38 = .ok (.iconst 0, 1) := by decide +kernel
theorem dX12_isBlockEnd_39 : decode cX12_isBlockEnd 39 = .ok (.ireturn, 1) := by decide +kernel
theorem dX12_isTarget_0 : decode cX12_isTarget 0 = .ok (.iload_n 1, 1) := by decide +kernel
theorem dX12_isTarget_1 : decode cX12_isTarget 1 = .ok (.istore_n 2, 1) := by decide +kernel
theorem dX12_isTarget_2 : decode cX12_isTarget 2 = .ok (.aload_n 0, 1) := by decide +kernel
theorem dX12_isTarget_3 : decode cX12_isTarget 3 = .ok (.getfield 83, 3) := by decide +kernel
theorem dX12_isTarget_6 : decode cX12_isTarget 6 = .ok (.iload_n 2, 1) := by decide +kernel
theorem dX12_isTarget_7 : decode cX12_isTarget 7 = .ok (.iaload, 1) := by decide +kernel
theorem dX12_isTarget_8 : decode cX12_isTarget 8 = .ok (.bipush 21, 2) := by decide +kernel
theorem dX12_isTarget_10 : decode cX12_isTarget 10 = .ok (.if_icmp .eq 25, 3) := by decide +kernel
theorem dX12_isTarget_13 : decode cX12_isTarget 13 = .ok (.aload_n 0, 1) := by decide +kernel
theorem dX12_isTarget_14 : decode cX12_isTarget 14 = .ok (.getfield 83, 3) := by decide +kernel
theorem dX12_isTarget_17 : decode cX12_isTarget 17 = .ok (.iload_n 2, 1) := by decide +kernel
theorem dX12_isTarget_18 : decode cX12_isTarget 18 = .ok (.iaload, 1) := by decide +kernel
theorem dX12_isTarget_19 : decode cX12_isTarget 19 = .ok (.bipush 22, 2) := by decide +kernel
theorem dX12_isTarget_21 : decode cX12_isTarget 21 = .ok (.if_icmp .eq 14, 3) := by decide +kernel
theorem dX12_isTarget_24 : decode cX12_isTarget 24 = .ok (.aload_n 0, 1) := by decide +kernel
theorem dX12_isTarget_25 : decode cX12_isTarget 25 = .ok (.getfield 83, 3) := by decide +kernel
theorem dX12_isTarget_28 : decode cX12_isTarget 28 = .ok (.iload_n 2, 1) := by decide +kernel
theorem dX12_isTarget_29 : decode cX12_isTarget 29 = .ok (.iaload, 1) := by decide +kernel
theorem dX12_isTarget_30 : decode cX12_isTarget 30 = .ok (.bipush 23, 2) := by decide +kernel
theorem dX12_isTarget_32 : decode cX12_isTarget 32 = .ok (.if_icmp .ne 13, 3) := by decide +kernel
theorem dX12_isTarget_35 : decode cX12_isTarget 35 = .ok (.aload_n 0, 1) := by decide +kernel
theorem dX12_isTarget_36 : decode cX12_isTarget 36 = .ok (.getfield 89, 3) := by decide +kernel
theorem dX12_isTarget_39 : decode cX12_isTarget 39 = .ok (.iload_n 2, 1) := by decide +kernel
theorem dX12_isTarget_40 : decode cX12_isTarget 40 = .ok (.iaload, 1) := by decide +kernel
theorem dX12_isTarget_41 : decode cX12_isTarget 41 = .ok (.istore_n 2, 1) := by decide +kernel
theorem dX12_isTarget_42 : decode cX12_isTarget 42 = .ok (.goto (-40), 3) := by decide +kernel
theorem dX12_isTarget_45 : decode cX12_isTarget 45 = .ok (.aload_n 0, 1) := by decide +kernel
theorem dX12_isTarget_46 : decode cX12_isTarget 46 = .ok (.getfield 83, 3) := by decide +kernel
theorem dX12_isTarget_49 : decode cX12_isTarget 49 = .ok (.iload_n 2, 1) := by decide +kernel
theorem dX12_isTarget_50 : decode cX12_isTarget 50 = .ok (.iaload, 1) := by decide +kernel
theorem dX12_isTarget_51 : decode cX12_isTarget 51 = .ok (.bipush 7, 2) := by decide +kernel
theorem dX12_isTarget_53 : decode cX12_isTarget 53 = .ok (.if_icmp .ne 7, 3) := by decide +kernel
theorem dX12_isTarget_56 : decode cX12_isTarget 56 = .ok (.iconst 1, 1) := by decide +kernel
theorem dX12_isTarget_57 : decode cX12_isTarget 57 = .ok (.goto 4, 3) := by decide +kernel
theorem dX12_isTarget_60 : decode cX12_isTarget 60 = .ok (.iconst 0, 1) := by decide +kernel
theorem dX12_isTarget_61 : decode cX12_isTarget 61 = .ok (.ireturn, 1) := by decide +kernel
theorem dX12_isStatement_0 : decode cX12_isStatement 0 = .ok (.aload_n 0, 1) := by decide +kernel
theorem dX12_isStatement_1 : decode cX12_isStatement 1 = .ok (.getfield 35, 3) := by decide +kernel
theorem dX12_isStatement_4 : decode cX12_isStatement 4 = .ok (.iconst 1, 1) := by decide +kernel
theorem dX12_isStatement_5 : decode cX12_isStatement 5 = .ok (.if_icmp .eq 65, 3) := by decide +kernel
theorem dX12_isStatement_8 : decode cX12_isStatement 8 = .ok (.aload_n 0, 1) := by decide +kernel
theorem dX12_isStatement_9 : decode cX12_isStatement 9 = .ok (.bipush 10, 2) := by decide +kernel
theorem dX12_isStatement_11 : decode cX12_isStatement 11 = .ok (.invokevirtual 65, 3) := by decide +kernel
theorem dX12_isStatement_14 : decode cX12_isStatement 14 = .ok (.ifCond .ne 56, 3) := by decide +kernel
theorem dX12_isStatement_17 : decode cX12_isStatement 17 = .ok (.aload_n 0, 1) := by decide +kernel
theorem dX12_isStatement_18 : decode cX12_isStatement 18 = .ok (.getfield 35, 3) := by decide +kernel
theorem dX12_isStatement_21 : decode cX12_isStatement 21 = .ok (.iconst 5, 1) := by decide +kernel
theorem dX12_isStatement_22 : decode cX12_isStatement 22 = .ok (.if_icmp .ne 52, 3) := by decide +kernel
theorem dX12_isStatement_25 : decode cX12_isStatement 25 = .ok (.aload_n 0, 1) := by decide +kernel
theorem dX12_isStatement_26 : decode cX12_isStatement 26 = .ok (.getfield 49, 3) := by decide +kernel
theorem dX12_isStatement_29 : decode cX12_isStatement 29 = .ok (.bipush 7, 2) := by decide +kernel
theorem dX12_isStatement_31 : decode cX12_isStatement 31 = .ok (.if_icmp .eq 39, 3) := by decide +kernel
theorem dX12_isStatement_34 : decode cX12_isStatement 34 = .ok (.aload_n 0, 1) := by decide +kernel
theorem dX12_isStatement_35 : decode cX12_isStatement 35 = .ok (.getfield 49, 3) := by decide +kernel
theorem dX12_isStatement_38 : decode cX12_isStatement 38 = .ok (.bipush 11, 2) := by decide +kernel
theorem dX12_isStatement_40 : decode cX12_isStatement 40 = .ok (.if_icmp .eq 30, 3) := by decide +kernel
theorem dX12_isStatement_43 : decode cX12_isStatement 43 = .ok (.aload_n 0, 1) := by decide +kernel
theorem dX12_isStatement_44 : decode cX12_isStatement 44 = .ok (.getfield 49, 3) := by decide +kernel
theorem dX12_isStatement_47 : decode cX12_isStatement 47 = .ok (.bipush 13, 2) := by decide +kernel
theorem dX12_isStatement_49 : decode cX12_isStatement 49 = .ok (.if_icmp .eq 21, 3) := by decide +kernel
theorem dX12_isStatement_52 : decode cX12_isStatement 52 = .ok (.aload_n 0, 1) := by decide +kernel
theorem dX12_isStatement_53 : decode cX12_isStatement 53 = .ok (.getfield 49, 3) := by decide +kernel
theorem dX12_isStatement_56 : decode cX12_isStatement 56 = .ok (.bipush 17, 2) := by decide +kernel
theorem dX12_isStatement_58 : decode cX12_isStatement 58 = .ok (.if_icmp .lt 16, 3) := by decide +kernel
theorem dX12_isStatement_61 : decode cX12_isStatement 61 = .ok (.aload_n 0, 1) := by decide +kernel
theorem dX12_isStatement_62 : decode cX12_isStatement 62 = .ok (.getfield 49, 3) := by decide +kernel
theorem dX12_isStatement_65 : decode cX12_isStatement 65 = .ok (.bipush 24, 2) := by decide +kernel
theorem dX12_isStatement_67 : decode cX12_isStatement 67 = .ok (.if_icmp .gt 7, 3) := by decide +kernel
theorem dX12_isStatement_70 : decode cX12_isStatement 70 = .ok (.iconst 1, 1) := by decide +kernel
theorem dX12_isStatement_71 : decode cX12_isStatement 71 = .ok (.goto 4, 3) := by decide +kernel
theorem dX12_isStatement_74 : decode cX12_isStatement 74 = .ok (.iconst 0, 1) := by decide +kernel
theorem dX12_isStatement_75 : decode cX12_isStatement 75 = .ok (.ireturn, 1) := by decide +kernel
theorem dX12_fail_0 : decode cX12_fail 0 = .ok (.aload_n 0, 1) := by decide +kernel
theorem dX12_fail_1 : decode cX12_fail 1 = .ok (.aload_n 0, 1) := by decide +kernel
theorem dX12_fail_2 : decode cX12_fail 2 = .ok (.getfield 362, 3) := by decide +kernel
theorem dX12_fail_5 : decode cX12_fail 5 = .ok (.ifCond .ne 7, 3) := by decide +kernel
theorem dX12_fail_8 : decode cX12_fail 8 = .ok (.iload_n 1, 1) := by decide +kernel
theorem dX12_fail_9 : decode cX12_fail 9 = .ok (.goto 7, 3) := by decide +kernel
theorem dX12_fail_12 : decode cX12_fail 12 = .ok (.aload_n 0, 1) := by decide +kernel
theorem dX12_fail_13 : decode cX12_fail 13 = .ok (.getfield 362, 3) := by decide +kernel
theorem dX12_fail_16 : decode cX12_fail 16 = .ok (.putfield 362, 3) := by decide +kernel
theorem dX12_fail_19 : decode cX12_fail 19 = .ok (.return_, 1) := by decide +kernel
theorem dX12_worked_0 : decode cX12_worked 0 = .ok (.aload_n 0, 1) := by decide +kernel
theorem dX12_worked_1 : decode cX12_worked 1 = .ok (.dup, 1) := by decide +kernel
theorem dX12_worked_2 : decode cX12_worked 2 = .ok (.getfield 365, 3) := by decide +kernel
theorem dX12_worked_5 : decode cX12_worked 5 = .ok (.iload_n 1, 1) := by decide +kernel
theorem dX12_worked_6 : decode cX12_worked 6 = .ok (.iadd, 1) := by decide +kernel
theorem dX12_worked_7 : decode cX12_worked 7 = .ok (.putfield 365, 3) := by decide +kernel
theorem dX12_worked_10 : decode cX12_worked 10 = .ok (.aload_n 0, 1) := by decide +kernel
theorem dX12_worked_11 : decode cX12_worked 11 = .ok (.getfield 365, 3) := by decide +kernel
theorem dX12_worked_14 : decode cX12_worked 14 = .ok (.ldc_w 368, 3) := by decide +kernel
theorem dX12_worked_17 : decode cX12_worked 17 = .ok (.if_icmp .le 9, 3) := by decide +kernel
theorem dX12_worked_20 : decode cX12_worked 20 = .ok (.aload_n 0, 1) := by decide +kernel
theorem dX12_worked_21 : decode cX12_worked 21 = .ok (.bipush 11, 2) := by decide +kernel
theorem dX12_worked_23 : decode cX12_worked 23 = .ok (.invokevirtual 369, 3) := by decide +kernel
theorem dX12_worked_26 : decode cX12_worked 26 = .ok (.return_, 1) := by decide +kernel
theorem dX12_kind_0 : decode cX12_kind 0 = .ok (.iload_n 1, 1) := by decide +kernel
theorem dX12_kind_1 : decode cX12_kind 1 = .ok (.ifCond .ne 7, 3) := by decide +kernel
theorem dX12_kind_4 : decode cX12_kind 4 = .ok (.iconst 0, 1) := by decide +kernel
theorem dX12_kind_5 : decode cX12_kind 5 = .ok (.goto 18, 3) := by decide +kernel
theorem dX12_kind_8 : decode cX12_kind 8 = .ok (.iload_n 1, 1) := by decide +kernel
theorem dX12_kind_9 : decode cX12_kind 9 = .ok (.iconst 3, 1) := by decide +kernel
theorem dX12_kind_10 : decode cX12_kind 10 = .ok (.if_icmp .ge 7, 3) := by decide +kernel
theorem dX12_kind_13 : decode cX12_kind 13 = .ok (.iconst 1, 1) := by decide +kernel
theorem dX12_kind_14 : decode cX12_kind 14 = .ok (.goto 9, 3) := by decide +kernel
theorem dX12_kind_17 : decode cX12_kind 17 = .ok (.aload_n 0, 1) := by decide +kernel
theorem dX12_kind_18 : decode cX12_kind 18 = .ok (.getfield 372, 3) := by decide +kernel
theorem dX12_kind_21 : decode cX12_kind 21 = .ok (.iload_n 1, 1) := by decide +kernel
theorem dX12_kind_22 : decode cX12_kind 22 = .ok (.iaload, 1) := by decide +kernel
theorem dX12_kind_23 : decode cX12_kind 23 = .ok (.ireturn, 1) := by decide +kernel
theorem dX12_size_0 : decode cX12_size 0 = .ok (.iload_n 1, 1) := by decide +kernel
theorem dX12_size_1 : decode cX12_size 1 = .ok (.iconst 3, 1) := by decide +kernel
theorem dX12_size_2 : decode cX12_size 2 = .ok (.if_icmp .ge 7, 3) := by decide +kernel
theorem dX12_size_5 : decode cX12_size 5 = .ok (.iconst 1, 1) := by decide +kernel
theorem dX12_size_6 : decode cX12_size 6 = .ok (.goto 11, 3) := by decide +kernel
theorem dX12_size_9 : decode cX12_size 9 = .ok (.aload_n 0, 1) := by decide +kernel
theorem dX12_size_10 : decode cX12_size 10 = .ok (.getfield 372, 3) := by decide +kernel
theorem dX12_size_13 : decode cX12_size 13 = .ok (.iload_n 1, 1) := by decide +kernel
theorem dX12_size_14 : decode cX12_size 14 = .ok (.iconst 2, 1) := by decide +kernel
theorem dX12_size_15 : decode cX12_size 15 = .ok (.iadd, 1) := by decide +kernel
theorem dX12_size_16 : decode cX12_size 16 = .ok (.iaload, 1) := by decide +kernel
theorem dX12_size_17 : decode cX12_size 17 = .ok (.ireturn, 1) := by decide +kernel
theorem dX12_height_0 : decode cX12_height 0 = .ok (.iload_n 1, 1) := by decide +kernel
theorem dX12_height_1 : decode cX12_height 1 = .ok (.iconst 3, 1) := by decide +kernel
theorem dX12_height_2 : decode cX12_height 2 = .ok (.if_icmp .ge 7, 3) := by decide +kernel
theorem dX12_height_5 : decode cX12_height 5 = .ok (.iconst 0, 1) := by decide +kernel
theorem dX12_height_6 : decode cX12_height 6 = .ok (.goto 11, 3) := by decide +kernel
theorem dX12_height_9 : decode cX12_height 9 = .ok (.aload_n 0, 1) := by decide +kernel
theorem dX12_height_10 : decode cX12_height 10 = .ok (.getfield 372, 3) := by decide +kernel
theorem dX12_height_13 : decode cX12_height 13 = .ok (.iload_n 1, 1) := by decide +kernel
theorem dX12_height_14 : decode cX12_height 14 = .ok (.iconst 3, 1) := by decide +kernel
theorem dX12_height_15 : decode cX12_height 15 = .ok (.iadd, 1) := by decide +kernel
theorem dX12_height_16 : decode cX12_height 16 = .ok (.iaload, 1) := by decide +kernel
theorem dX12_height_17 : decode cX12_height 17 = .ok (.ireturn, 1) := by decide +kernel
theorem dX12_make_0 : decode cX12_make 0 = .ok (.aload_n 0, 1) := by decide +kernel
theorem dX12_make_1 : decode cX12_make 1 = .ok (.getfield 375, 3) := by decide +kernel
theorem dX12_make_4 : decode cX12_make 4 = .ok (.iconst 4, 1) := by decide +kernel
theorem dX12_make_5 : decode cX12_make 5 = .ok (.iadd, 1) := by decide +kernel
theorem dX12_make_6 : decode cX12_make 6 = .ok (.iload_n 2, 1) := by decide +kernel
theorem dX12_make_7 : decode cX12_make 7 = .ok (.iadd, 1) := by decide +kernel
theorem dX12_make_8 : decode cX12_make 8 = .ok (.aload_n 0, 1) := by decide +kernel
theorem dX12_make_9 : decode cX12_make 9 = .ok (.getfield 378, 3) := by decide +kernel
theorem dX12_make_12 : decode cX12_make 12 = .ok (.ldc_w 381, 3) := by decide +kernel
theorem dX12_make_15 : decode cX12_make 15 = .ok (.iadd, 1) := by decide +kernel
theorem dX12_make_16 : decode cX12_make 16 = .ok (.if_icmp .le 10, 3) := by decide +kernel
theorem dX12_make_19 : decode cX12_make 19 = .ok (.aload_n 0, 1) := by decide +kernel
theorem dX12_make_20 : decode cX12_make 20 = .ok (.iconst 5, 1) := by decide +kernel
theorem dX12_make_21 : decode cX12_make 21 = .ok (.invokevirtual 369, 3) := by decide +kernel
theorem dX12_make_24 : decode cX12_make 24 = .ok (.iconst 0, 1) := by decide +kernel
theorem dX12_make_25 : decode cX12_make 25 = .ok (.ireturn, 1) := by decide +kernel
theorem dX12_make_26 : decode cX12_make 26 = .ok (.aload_n 0, 1) := by decide +kernel
theorem dX12_make_27 : decode cX12_make 27 = .ok (.getfield 375, 3) := by decide +kernel
theorem dX12_make_30 : decode cX12_make 30 = .ok (.istore_n 3, 1) := by decide +kernel
theorem dX12_make_31 : decode cX12_make 31 = .ok (.aload_n 0, 1) := by decide +kernel
theorem dX12_make_32 : decode cX12_make 32 = .ok (.dup, 1) := by decide +kernel
theorem dX12_make_33 : decode cX12_make 33 = .ok (.getfield 375, 3) := by decide +kernel
theorem dX12_make_36 : decode cX12_make 36 = .ok (.iconst 4, 1) := by decide +kernel
theorem dX12_make_37 : decode cX12_make 37 = .ok (.iload_n 2, 1) := by decide +kernel
theorem dX12_make_38 : decode cX12_make 38 = .ok (.iadd, 1) := by decide +kernel
theorem dX12_make_39 : decode cX12_make 39 = .ok (.iadd, 1) := by decide +kernel
theorem dX12_make_40 : decode cX12_make 40 = .ok (.putfield 375, 3) := by decide +kernel
theorem dX12_make_43 : decode cX12_make 43 = .ok (.aload_n 0, 1) := by decide +kernel
theorem dX12_make_44 : decode cX12_make 44 = .ok (.getfield 372, 3) := by decide +kernel
theorem dX12_make_47 : decode cX12_make 47 = .ok (.iload_n 3, 1) := by decide +kernel
theorem dX12_make_48 : decode cX12_make 48 = .ok (.iload_n 1, 1) := by decide +kernel
theorem dX12_make_49 : decode cX12_make 49 = .ok (.iastore, 1) := by decide +kernel
theorem dX12_make_50 : decode cX12_make 50 = .ok (.aload_n 0, 1) := by decide +kernel
theorem dX12_make_51 : decode cX12_make 51 = .ok (.getfield 372, 3) := by decide +kernel
theorem dX12_make_54 : decode cX12_make 54 = .ok (.iload_n 3, 1) := by decide +kernel
theorem dX12_make_55 : decode cX12_make 55 = .ok (.iconst 1, 1) := by decide +kernel
theorem dX12_make_56 : decode cX12_make 56 = .ok (.iadd, 1) := by decide +kernel
theorem dX12_make_57 : decode cX12_make 57 = .ok (.iload_n 2, 1) := by decide +kernel
theorem dX12_make_58 : decode cX12_make 58 = .ok (.iastore, 1) := by decide +kernel
theorem dX12_make_59 : decode cX12_make 59 = .ok (.aload_n 0, 1) := by decide +kernel
theorem dX12_make_60 : decode cX12_make 60 = .ok (.getfield 372, 3) := by decide +kernel
theorem dX12_make_63 : decode cX12_make 63 = .ok (.iload_n 3, 1) := by decide +kernel
theorem dX12_make_64 : decode cX12_make 64 = .ok (.iconst 2, 1) := by decide +kernel
theorem dX12_make_65 : decode cX12_make 65 = .ok (.iadd, 1) := by decide +kernel
theorem dX12_make_66 : decode cX12_make 66 = .ok (.iconst 1, 1) := by decide +kernel
theorem dX12_make_67 : decode cX12_make 67 = .ok (.iastore, 1) := by decide +kernel
theorem dX12_make_68 : decode cX12_make 68 = .ok (.aload_n 0, 1) := by decide +kernel
theorem dX12_make_69 : decode cX12_make 69 = .ok (.getfield 372, 3) := by decide +kernel
theorem dX12_make_72 : decode cX12_make 72 = .ok (.iload_n 3, 1) := by decide +kernel
theorem dX12_make_73 : decode cX12_make 73 = .ok (.iconst 3, 1) := by decide +kernel
theorem dX12_make_74 : decode cX12_make 74 = .ok (.iadd, 1) := by decide +kernel
theorem dX12_make_75 : decode cX12_make 75 = .ok (.iconst 0, 1) := by decide +kernel
theorem dX12_make_76 : decode cX12_make 76 = .ok (.iastore, 1) := by decide +kernel
theorem dX12_make_77 : decode cX12_make 77 = .ok (.iload_n 3, 1) := by decide +kernel
theorem dX12_make_78 : decode cX12_make 78 = .ok (.ireturn, 1) := by decide +kernel
theorem dX12_push_0 : decode cX12_push 0 = .ok (.aload_n 0, 1) := by decide +kernel
theorem dX12_push_1 : decode cX12_push 1 = .ok (.getfield 382, 3) := by decide +kernel
theorem dX12_push_4 : decode cX12_push 4 = .ok (.aload_n 0, 1) := by decide +kernel
theorem dX12_push_5 : decode cX12_push 5 = .ok (.getfield 385, 3) := by decide +kernel
theorem dX12_push_8 : decode cX12_push 8 = .ok (.iload_n 1, 1) := by decide +kernel
theorem dX12_push_9 : decode cX12_push 9 = .ok (.iastore, 1) := by decide +kernel
theorem dX12_push_10 : decode cX12_push 10 = .ok (.aload_n 0, 1) := by decide +kernel
theorem dX12_push_11 : decode cX12_push 11 = .ok (.dup, 1) := by decide +kernel
theorem dX12_push_12 : decode cX12_push 12 = .ok (.getfield 385, 3) := by decide +kernel
theorem dX12_push_15 : decode cX12_push 15 = .ok (.iconst 1, 1) := by decide +kernel
theorem dX12_push_16 : decode cX12_push 16 = .ok (.iadd, 1) := by decide +kernel
theorem dX12_push_17 : decode cX12_push 17 = .ok (.putfield 385, 3) := by decide +kernel
theorem dX12_push_20 : decode cX12_push 20 = .ok (.return_, 1) := by decide +kernel
theorem dX12_pop_0 : decode cX12_pop 0 = .ok (.aload_n 0, 1) := by decide +kernel
theorem dX12_pop_1 : decode cX12_pop 1 = .ok (.dup, 1) := by decide +kernel
theorem dX12_pop_2 : decode cX12_pop 2 = .ok (.getfield 385, 3) := by decide +kernel
theorem dX12_pop_5 : decode cX12_pop 5 = .ok (.iconst 1, 1) := by decide +kernel
theorem dX12_pop_6 : decode cX12_pop 6 = .ok (.isub, 1) := by decide +kernel
theorem dX12_pop_7 : decode cX12_pop 7 = .ok (.putfield 385, 3) := by decide +kernel
theorem dX12_pop_10 : decode cX12_pop 10 = .ok (.aload_n 0, 1) := by decide +kernel
theorem dX12_pop_11 : decode cX12_pop 11 = .ok (.getfield 382, 3) := by decide +kernel
theorem dX12_pop_14 : decode cX12_pop 14 = .ok (.aload_n 0, 1) := by decide +kernel
theorem dX12_pop_15 : decode cX12_pop 15 = .ok (.getfield 385, 3) := by decide +kernel
theorem dX12_pop_18 : decode cX12_pop 18 = .ok (.iaload, 1) := by decide +kernel
theorem dX12_pop_19 : decode cX12_pop 19 = .ok (.ireturn, 1) := by decide +kernel
theorem dX12_copied_0 : decode cX12_copied 0 = .ok (.iload_n 1, 1) := by decide +kernel
theorem dX12_copied_1 : decode cX12_copied 1 = .ok (.iconst 3, 1) := by decide +kernel
theorem dX12_copied_2 : decode cX12_copied 2 = .ok (.if_icmp .ge 5, 3) := by decide +kernel
theorem dX12_copied_5 : decode cX12_copied 5 = .ok (.iload_n 1, 1) := by decide +kernel
theorem dX12_copied_6 : decode cX12_copied 6 = .ok (.ireturn, 1) := by decide +kernel
theorem dX12_copied_7 : decode cX12_copied 7 = .ok (.aload_n 0, 1) := by decide +kernel
theorem dX12_copied_8 : decode cX12_copied 8 = .ok (.getfield 372, 3) := by decide +kernel
theorem dX12_copied_11 : decode cX12_copied 11 = .ok (.iload_n 1, 1) := by decide +kernel
theorem dX12_copied_12 : decode cX12_copied 12 = .ok (.iaload, 1) := by decide +kernel
theorem dX12_copied_13 : decode cX12_copied 13 = .ok (.iconst (-1), 1) := by decide +kernel
theorem dX12_copied_14 : decode cX12_copied 14 = .ok (.if_icmp .ne 12, 3) := by decide +kernel
theorem dX12_copied_17 : decode cX12_copied 17 = .ok (.aload_n 0, 1) := by decide +kernel
theorem dX12_copied_18 : decode cX12_copied 18 = .ok (.getfield 372, 3) := by decide +kernel
theorem dX12_copied_21 : decode cX12_copied 21 = .ok (.iload_n 1, 1) := by decide +kernel
theorem dX12_copied_22 : decode cX12_copied 22 = .ok (.iconst 1, 1) := by decide +kernel
theorem dX12_copied_23 : decode cX12_copied 23 = .ok (.iadd, 1) := by decide +kernel
theorem dX12_copied_24 : decode cX12_copied 24 = .ok (.iaload, 1) := by decide +kernel
theorem dX12_copied_25 : decode cX12_copied 25 = .ok (.ireturn, 1) := by decide +kernel
theorem dX12_copied_26 : decode cX12_copied 26 = .ok (.iconst 4, 1) := by decide +kernel
theorem dX12_copied_27 : decode cX12_copied 27 = .ok (.aload_n 0, 1) := by decide +kernel
theorem dX12_copied_28 : decode cX12_copied 28 = .ok (.getfield 372, 3) := by decide +kernel
theorem dX12_copied_31 : decode cX12_copied 31 = .ok (.iload_n 1, 1) := by decide +kernel
theorem dX12_copied_32 : decode cX12_copied 32 = .ok (.iconst 1, 1) := by decide +kernel
theorem dX12_copied_33 : decode cX12_copied 33 = .ok (.iadd, 1) := by decide +kernel
theorem dX12_copied_34 : decode cX12_copied 34 = .ok (.iaload, 1) := by decide +kernel
theorem dX12_copied_35 : decode cX12_copied 35 = .ok (.iadd, 1) := by decide +kernel
theorem dX12_copied_36 : decode cX12_copied 36 = .ok (.istore_n 2, 1) := by decide +kernel
theorem dX12_copied_37 : decode cX12_copied 37 = .ok (.aload_n 0, 1) := by decide +kernel
theorem dX12_copied_38 : decode cX12_copied 38 = .ok (.getfield 375, 3) := by decide +kernel
theorem dX12_copied_41 : decode cX12_copied 41 = .ok (.istore_n 3, 1) := by decide +kernel
theorem dX12_copied_42 : decode cX12_copied 42 = .ok (.aload_n 0, 1) := by decide +kernel
theorem dX12_copied_43 : decode cX12_copied 43 = .ok (.dup, 1) := by decide +kernel
theorem dX12_copied_44 : decode cX12_copied 44 = .ok (.getfield 375, 3) := by decide +kernel
theorem dX12_copied_47 : decode cX12_copied 47 = .ok (.iload_n 2, 1) := by decide +kernel
theorem dX12_copied_48 : decode cX12_copied 48 = .ok (.iadd, 1) := by decide +kernel
theorem dX12_copied_49 : decode cX12_copied 49 = .ok (.putfield 375, 3) := by decide +kernel
theorem dX12_copied_52 : decode cX12_copied 52 = .ok (.iconst 0, 1) := by decide +kernel
theorem dX12_copied_53 : decode cX12_copied 53 = .ok (.istore 4, 2) := by decide +kernel
theorem dX12_copied_55 : decode cX12_copied 55 = .ok (.iload 4, 2) := by decide +kernel
theorem dX12_copied_57 : decode cX12_copied 57 = .ok (.iload_n 2, 1) := by decide +kernel
theorem dX12_copied_58 : decode cX12_copied 58 = .ok (.if_icmp .ge 27, 3) := by decide +kernel
theorem dX12_copied_61 : decode cX12_copied 61 = .ok (.aload_n 0, 1) := by decide +kernel
theorem dX12_copied_62 : decode cX12_copied 62 = .ok (.getfield 372, 3) := by decide +kernel
theorem dX12_copied_65 : decode cX12_copied 65 = .ok (.iload_n 3, 1) := by decide +kernel
theorem dX12_copied_66 : decode cX12_copied 66 = .ok (.iload 4, 2) := by decide +kernel
theorem dX12_copied_68 : decode cX12_copied 68 = .ok (.iadd, 1) := by decide +kernel
theorem dX12_copied_69 : decode cX12_copied 69 = .ok (.aload_n 0, 1) := by decide +kernel
theorem dX12_copied_70 : decode cX12_copied 70 = .ok (.getfield 372, 3) := by decide +kernel
theorem dX12_copied_73 : decode cX12_copied 73 = .ok (.iload_n 1, 1) := by decide +kernel
theorem dX12_copied_74 : decode cX12_copied 74 = .ok (.iload 4, 2) := by decide +kernel
theorem dX12_copied_76 : decode cX12_copied 76 = .ok (.iadd, 1) := by decide +kernel
theorem dX12_copied_77 : decode cX12_copied 77 = .ok (.iaload, 1) := by decide +kernel
theorem dX12_copied_78 : decode cX12_copied 78 = .ok (.iastore, 1) := by decide +kernel
theorem dX12_copied_79 : decode cX12_copied 79 = .ok (.iinc 4 1, 3) := by decide +kernel
theorem dX12_copied_82 : decode cX12_copied 82 = .ok (.goto (-27), 3) := by decide +kernel
theorem dX12_copied_85 : decode cX12_copied 85 = .ok (.aload_n 0, 1) := by decide +kernel
theorem dX12_copied_86 : decode cX12_copied 86 = .ok (.getfield 372, 3) := by decide +kernel
theorem dX12_copied_89 : decode cX12_copied 89 = .ok (.iload_n 1, 1) := by decide +kernel
theorem dX12_copied_90 : decode cX12_copied 90 = .ok (.iconst (-1), 1) := by decide +kernel
theorem dX12_copied_91 : decode cX12_copied 91 = .ok (.iastore, 1) := by decide +kernel
theorem dX12_copied_92 : decode cX12_copied 92 = .ok (.aload_n 0, 1) := by decide +kernel
theorem dX12_copied_93 : decode cX12_copied 93 = .ok (.getfield 372, 3) := by decide +kernel
theorem dX12_copied_96 : decode cX12_copied 96 = .ok (.iload_n 1, 1) := by decide +kernel
theorem dX12_copied_97 : decode cX12_copied 97 = .ok (.iconst 1, 1) := by decide +kernel
theorem dX12_copied_98 : decode cX12_copied 98 = .ok (.iadd, 1) := by decide +kernel
theorem dX12_copied_99 : decode cX12_copied 99 = .ok (.iload_n 3, 1) := by decide +kernel
theorem dX12_copied_100 : decode cX12_copied 100 = .ok (.iastore, 1) := by decide +kernel
theorem dX12_copied_101 : decode cX12_copied 101 = .ok (.iload_n 3, 1) := by decide +kernel
theorem dX12_copied_102 : decode cX12_copied 102 = .ok (.ireturn, 1) := by decide +kernel
theorem dX12_checked_0 : decode cX12_checked 0 = .ok (.aload_n 0, 1) := by decide +kernel
theorem dX12_checked_1 : decode cX12_checked 1 = .ok (.getfield 362, 3) := by decide +kernel
theorem dX12_checked_4 : decode cX12_checked 4 = .ok (.ifCond .ne 35, 3) := by decide +kernel
theorem dX12_checked_7 : decode cX12_checked 7 = .ok (.aload_n 0, 1) := by decide +kernel
theorem dX12_checked_8 : decode cX12_checked 8 = .ok (.getfield 372, 3) := by decide +kernel
theorem dX12_checked_11 : decode cX12_checked 11 = .ok (.iload_n 1, 1) := by decide +kernel
theorem dX12_checked_12 : decode cX12_checked 12 = .ok (.iconst 2, 1) := by decide +kernel
theorem dX12_checked_13 : decode cX12_checked 13 = .ok (.iadd, 1) := by decide +kernel
theorem dX12_checked_14 : decode cX12_checked 14 = .ok (.iaload, 1) := by decide +kernel
theorem dX12_checked_15 : decode cX12_checked 15 = .ok (.sipush 1000, 3) := by decide +kernel
theorem dX12_checked_18 : decode cX12_checked 18 = .ok (.if_icmp .gt 16, 3) := by decide +kernel
theorem dX12_checked_21 : decode cX12_checked 21 = .ok (.aload_n 0, 1) := by decide +kernel
theorem dX12_checked_22 : decode cX12_checked 22 = .ok (.getfield 372, 3) := by decide +kernel
theorem dX12_checked_25 : decode cX12_checked 25 = .ok (.iload_n 1, 1) := by decide +kernel
theorem dX12_checked_26 : decode cX12_checked 26 = .ok (.iconst 3, 1) := by decide +kernel
theorem dX12_checked_27 : decode cX12_checked 27 = .ok (.iadd, 1) := by decide +kernel
theorem dX12_checked_28 : decode cX12_checked 28 = .ok (.iaload, 1) := by decide +kernel
theorem dX12_checked_29 : decode cX12_checked 29 = .ok (.bipush 30, 2) := by decide +kernel
theorem dX12_checked_31 : decode cX12_checked 31 = .ok (.if_icmp .le 8, 3) := by decide +kernel
theorem dX12_checked_34 : decode cX12_checked 34 = .ok (.aload_n 0, 1) := by decide +kernel
theorem dX12_checked_35 : decode cX12_checked 35 = .ok (.iconst 5, 1) := by decide +kernel
theorem dX12_checked_36 : decode cX12_checked 36 = .ok (.invokevirtual 369, 3) := by decide +kernel
theorem dX12_checked_39 : decode cX12_checked 39 = .ok (.aload_n 0, 1) := by decide +kernel
theorem dX12_checked_40 : decode cX12_checked 40 = .ok (.getfield 362, 3) := by decide +kernel
theorem dX12_checked_43 : decode cX12_checked 43 = .ok (.ifCond .ne 7, 3) := by decide +kernel
theorem dX12_checked_46 : decode cX12_checked 46 = .ok (.iload_n 1, 1) := by decide +kernel
theorem dX12_checked_47 : decode cX12_checked 47 = .ok (.goto 4, 3) := by decide +kernel
theorem dX12_checked_50 : decode cX12_checked 50 = .ok (.iconst 0, 1) := by decide +kernel
theorem dX12_checked_51 : decode cX12_checked 51 = .ok (.ireturn, 1) := by decide +kernel
theorem dX12_byteString_0 : decode cX12_byteString 0 = .ok (.aload_n 0, 1) := by decide +kernel
theorem dX12_byteString_1 : decode cX12_byteString 1 = .ok (.iconst 4, 1) := by decide +kernel
theorem dX12_byteString_2 : decode cX12_byteString 2 = .ok (.iconst 1, 1) := by decide +kernel
theorem dX12_byteString_3 : decode cX12_byteString 3 = .ok (.invokevirtual 429, 3) := by decide +kernel
theorem dX12_byteString_6 : decode cX12_byteString 6 = .ok (.istore_n 2, 1) := by decide +kernel
theorem dX12_byteString_7 : decode cX12_byteString 7 = .ok (.aload_n 0, 1) := by decide +kernel
theorem dX12_byteString_8 : decode cX12_byteString 8 = .ok (.getfield 362, 3) := by decide +kernel
theorem dX12_byteString_11 : decode cX12_byteString 11 = .ok (.ifCond .le 5, 3) := by decide +kernel
theorem dX12_byteString_14 : decode cX12_byteString 14 = .ok (.iconst 0, 1) := by decide +kernel
theorem dX12_byteString_15 : decode cX12_byteString 15 = .ok (.ireturn, 1) := by decide +kernel
theorem dX12_byteString_16 : decode cX12_byteString 16 = .ok (.aload_n 0, 1) := by decide +kernel
theorem dX12_byteString_17 : decode cX12_byteString 17 = .ok (.getfield 372, 3) := by decide +kernel
theorem dX12_byteString_20 : decode cX12_byteString 20 = .ok (.iload_n 2, 1) := by decide +kernel
theorem dX12_byteString_21 : decode cX12_byteString 21 = .ok (.iconst 4, 1) := by decide +kernel
theorem dX12_byteString_22 : decode cX12_byteString 22 = .ok (.iadd, 1) := by decide +kernel
theorem dX12_byteString_23 : decode cX12_byteString 23 = .ok (.iload_n 1, 1) := by decide +kernel
theorem dX12_byteString_24 : decode cX12_byteString 24 = .ok (.iastore, 1) := by decide +kernel
theorem dX12_byteString_25 : decode cX12_byteString 25 = .ok (.aload_n 0, 1) := by decide +kernel
theorem dX12_byteString_26 : decode cX12_byteString 26 = .ok (.getfield 372, 3) := by decide +kernel
theorem dX12_byteString_29 : decode cX12_byteString 29 = .ok (.iload_n 2, 1) := by decide +kernel
theorem dX12_byteString_30 : decode cX12_byteString 30 = .ok (.iconst 2, 1) := by decide +kernel
theorem dX12_byteString_31 : decode cX12_byteString 31 = .ok (.iadd, 1) := by decide +kernel
theorem dX12_byteString_32 : decode cX12_byteString 32 = .ok (.iconst 2, 1) := by decide +kernel
theorem dX12_byteString_33 : decode cX12_byteString 33 = .ok (.iastore, 1) := by decide +kernel
theorem dX12_byteString_34 : decode cX12_byteString 34 = .ok (.iload_n 2, 1) := by decide +kernel
theorem dX12_byteString_35 : decode cX12_byteString 35 = .ok (.ireturn, 1) := by decide +kernel
theorem dX12_measured_0 : decode cX12_measured 0 = .ok (.iconst 1, 1) := by decide +kernel
theorem dX12_measured_1 : decode cX12_measured 1 = .ok (.istore_n 2, 1) := by decide +kernel
theorem dX12_measured_2 : decode cX12_measured 2 = .ok (.iconst 0, 1) := by decide +kernel
theorem dX12_measured_3 : decode cX12_measured 3 = .ok (.istore_n 3, 1) := by decide +kernel
theorem dX12_measured_4 : decode cX12_measured 4 = .ok (.aload_n 0, 1) := by decide +kernel
theorem dX12_measured_5 : decode cX12_measured 5 = .ok (.getfield 372, 3) := by decide +kernel
theorem dX12_measured_8 : decode cX12_measured 8 = .ok (.iload_n 1, 1) := by decide +kernel
theorem dX12_measured_9 : decode cX12_measured 9 = .ok (.iconst 1, 1) := by decide +kernel
theorem dX12_measured_10 : decode cX12_measured 10 = .ok (.iadd, 1) := by decide +kernel
theorem dX12_measured_11 : decode cX12_measured 11 = .ok (.iaload, 1) := by decide +kernel
theorem dX12_measured_12 : decode cX12_measured 12 = .ok (.istore 4, 2) := by decide +kernel
theorem dX12_measured_14 : decode cX12_measured 14 = .ok (.iconst 0, 1) := by decide +kernel
theorem dX12_measured_15 : decode cX12_measured 15 = .ok (.istore 5, 2) := by decide +kernel
theorem dX12_measured_17 : decode cX12_measured 17 = .ok (.iload 5, 2) := by decide +kernel
theorem dX12_measured_19 : decode cX12_measured 19 = .ok (.iload 4, 2) := by decide +kernel
theorem dX12_measured_21 : decode cX12_measured 21 = .ok (.if_icmp .ge 52, 3) := by decide +kernel
theorem dX12_measured_24 : decode cX12_measured 24 = .ok (.aload_n 0, 1) := by decide +kernel
theorem dX12_measured_25 : decode cX12_measured 25 = .ok (.getfield 372, 3) := by decide +kernel
theorem dX12_measured_28 : decode cX12_measured 28 = .ok (.iload_n 1, 1) := by decide +kernel
theorem dX12_measured_29 : decode cX12_measured 29 = .ok (.iconst 4, 1) := by decide +kernel
theorem dX12_measured_30 : decode cX12_measured 30 = .ok (.iadd, 1) := by decide +kernel
theorem dX12_measured_31 : decode cX12_measured 31 = .ok (.iload 5, 2) := by decide +kernel
theorem dX12_measured_33 : decode cX12_measured 33 = .ok (.iadd, 1) := by decide +kernel
theorem dX12_measured_34 : decode cX12_measured 34 = .ok (.iaload, 1) := by decide +kernel
theorem dX12_measured_35 : decode cX12_measured 35 = .ok (.istore 6, 2) := by decide +kernel
theorem dX12_measured_37 : decode cX12_measured 37 = .ok (.iload_n 2, 1) := by decide +kernel
theorem dX12_measured_38 : decode cX12_measured 38 = .ok (.aload_n 0, 1) := by decide +kernel
theorem dX12_measured_39 : decode cX12_measured 39 = .ok (.iload 6, 2) := by decide +kernel
theorem dX12_measured_41 : decode cX12_measured 41 = .ok (.invokevirtual 432, 3) := by decide +kernel
theorem dX12_measured_44 : decode cX12_measured 44 = .ok (.iadd, 1) := by decide +kernel
theorem dX12_measured_45 : decode cX12_measured 45 = .ok (.istore_n 2, 1) := by decide +kernel
theorem dX12_measured_46 : decode cX12_measured 46 = .ok (.aload_n 0, 1) := by decide +kernel
theorem dX12_measured_47 : decode cX12_measured 47 = .ok (.iload 6, 2) := by decide +kernel
theorem dX12_measured_49 : decode cX12_measured 49 = .ok (.invokevirtual 435, 3) := by decide +kernel
theorem dX12_measured_52 : decode cX12_measured 52 = .ok (.iload_n 3, 1) := by decide +kernel
theorem dX12_measured_53 : decode cX12_measured 53 = .ok (.if_icmp .le 12, 3) := by decide +kernel
theorem dX12_measured_56 : decode cX12_measured 56 = .ok (.aload_n 0, 1) := by decide +kernel
theorem dX12_measured_57 : decode cX12_measured 57 = .ok (.iload 6, 2) := by decide +kernel
theorem dX12_measured_59 : decode cX12_measured 59 = .ok (.invokevirtual 435, 3) := by decide +kernel
theorem dX12_measured_62 : decode cX12_measured 62 = .ok (.goto 4, 3) := by decide +kernel
theorem dX12_measured_65 : decode cX12_measured 65 = .ok (.iload_n 3, 1) := by decide +kernel
theorem dX12_measured_66 : decode cX12_measured 66 = .ok (.istore_n 3, 1) := by decide +kernel
theorem dX12_measured_67 : decode cX12_measured 67 = .ok (.iinc 5 1, 3) := by decide +kernel
theorem dX12_measured_70 : decode cX12_measured 70 = .ok (.goto (-53), 3) := by decide +kernel
theorem dX12_measured_73 : decode cX12_measured 73 = .ok (.aload_n 0, 1) := by decide +kernel
theorem dX12_measured_74 : decode cX12_measured 74 = .ok (.getfield 372, 3) := by decide +kernel
theorem dX12_measured_77 : decode cX12_measured 77 = .ok (.iload_n 1, 1) := by decide +kernel
theorem dX12_measured_78 : decode cX12_measured 78 = .ok (.iconst 2, 1) := by decide +kernel
theorem dX12_measured_79 : decode cX12_measured 79 = .ok (.iadd, 1) := by decide +kernel
theorem dX12_measured_80 : decode cX12_measured 80 = .ok (.iload_n 2, 1) := by decide +kernel
theorem dX12_measured_81 : decode cX12_measured 81 = .ok (.iastore, 1) := by decide +kernel
theorem dX12_measured_82 : decode cX12_measured 82 = .ok (.aload_n 0, 1) := by decide +kernel
theorem dX12_measured_83 : decode cX12_measured 83 = .ok (.getfield 372, 3) := by decide +kernel
theorem dX12_measured_86 : decode cX12_measured 86 = .ok (.iload_n 1, 1) := by decide +kernel
theorem dX12_measured_87 : decode cX12_measured 87 = .ok (.iconst 3, 1) := by decide +kernel
theorem dX12_measured_88 : decode cX12_measured 88 = .ok (.iadd, 1) := by decide +kernel
theorem dX12_measured_89 : decode cX12_measured 89 = .ok (.iload_n 3, 1) := by decide +kernel
theorem dX12_measured_90 : decode cX12_measured 90 = .ok (.iconst 1, 1) := by decide +kernel
theorem dX12_measured_91 : decode cX12_measured 91 = .ok (.iadd, 1) := by decide +kernel
theorem dX12_measured_92 : decode cX12_measured 92 = .ok (.iastore, 1) := by decide +kernel
theorem dX12_measured_93 : decode cX12_measured 93 = .ok (.aload_n 0, 1) := by decide +kernel
theorem dX12_measured_94 : decode cX12_measured 94 = .ok (.iload_n 1, 1) := by decide +kernel
theorem dX12_measured_95 : decode cX12_measured 95 = .ok (.invokevirtual 438, 3) := by decide +kernel
theorem dX12_measured_98 : decode cX12_measured 98 = .ok (.ireturn, 1) := by decide +kernel
theorem dX12_tupleOf_0 : decode cX12_tupleOf 0 = .ok (.aload_n 0, 1) := by decide +kernel
theorem dX12_tupleOf_1 : decode cX12_tupleOf 1 = .ok (.getfield 385, 3) := by decide +kernel
theorem dX12_tupleOf_4 : decode cX12_tupleOf 4 = .ok (.iload_n 1, 1) := by decide +kernel
theorem dX12_tupleOf_5 : decode cX12_tupleOf 5 = .ok (.isub, 1) := by decide +kernel
theorem dX12_tupleOf_6 : decode cX12_tupleOf 6 = .ok (.istore_n 2, 1) := by decide +kernel
theorem dX12_tupleOf_7 : decode cX12_tupleOf 7 = .ok (.iload_n 2, 1) := by decide +kernel
theorem dX12_tupleOf_8 : decode cX12_tupleOf 8 = .ok (.ifCond .le 22, 3) := by decide +kernel
theorem dX12_tupleOf_11 : decode cX12_tupleOf 11 = .ok (.aload_n 0, 1) := by decide +kernel
theorem dX12_tupleOf_12 : decode cX12_tupleOf 12 = .ok (.getfield 382, 3) := by decide +kernel
theorem dX12_tupleOf_15 : decode cX12_tupleOf 15 = .ok (.iload_n 1, 1) := by decide +kernel
theorem dX12_tupleOf_16 : decode cX12_tupleOf 16 = .ok (.iload_n 2, 1) := by decide +kernel
theorem dX12_tupleOf_17 : decode cX12_tupleOf 17 = .ok (.iadd, 1) := by decide +kernel
theorem dX12_tupleOf_18 : decode cX12_tupleOf 18 = .ok (.iconst 1, 1) := by decide +kernel
theorem dX12_tupleOf_19 : decode cX12_tupleOf 19 = .ok (.isub, 1) := by decide +kernel
theorem dX12_tupleOf_20 : decode cX12_tupleOf 20 = .ok (.iaload, 1) := by decide +kernel
theorem dX12_tupleOf_21 : decode cX12_tupleOf 21 = .ok (.ifCond .ne 9, 3) := by decide +kernel
theorem dX12_tupleOf_24 : decode cX12_tupleOf 24 = .ok (.iinc 2 (-1), 3) := by decide +kernel
theorem dX12_tupleOf_27 : decode cX12_tupleOf 27 = .ok (.goto (-20), 3) := by decide +kernel
theorem dX12_tupleOf_30 : decode cX12_tupleOf 30 = .ok (.aload_n 0, 1) := by decide +kernel
theorem dX12_tupleOf_31 : decode cX12_tupleOf 31 = .ok (.iload_n 1, 1) := by decide +kernel
theorem dX12_tupleOf_32 : decode cX12_tupleOf 32 = .ok (.putfield 385, 3) := by decide +kernel
theorem dX12_tupleOf_35 : decode cX12_tupleOf 35 = .ok (.aload_n 0, 1) := by decide +kernel
theorem dX12_tupleOf_36 : decode cX12_tupleOf 36 = .ok (.iconst 5, 1) := by decide +kernel
theorem dX12_tupleOf_37 : decode cX12_tupleOf 37 = .ok (.iload_n 2, 1) := by decide +kernel
theorem dX12_tupleOf_38 : decode cX12_tupleOf 38 = .ok (.invokevirtual 429, 3) := by decide +kernel
theorem dX12_tupleOf_41 : decode cX12_tupleOf 41 = .ok (.istore_n 3, 1) := by decide +kernel
theorem dX12_tupleOf_42 : decode cX12_tupleOf 42 = .ok (.aload_n 0, 1) := by decide +kernel
theorem dX12_tupleOf_43 : decode cX12_tupleOf 43 = .ok (.getfield 362, 3) := by decide +kernel
theorem dX12_tupleOf_46 : decode cX12_tupleOf 46 = .ok (.ifCond .le 5, 3) := by decide +kernel
theorem dX12_tupleOf_49 : decode cX12_tupleOf 49 = .ok (.iconst 0, 1) := by decide +kernel
theorem dX12_tupleOf_50 : decode cX12_tupleOf 50 = .ok (.ireturn, 1) := by decide +kernel
theorem dX12_tupleOf_51 : decode cX12_tupleOf 51 = .ok (.iconst 0, 1) := by decide +kernel
theorem dX12_tupleOf_52 : decode cX12_tupleOf 52 = .ok (.istore 4, 2) := by decide +kernel
theorem dX12_tupleOf_54 : decode cX12_tupleOf 54 = .ok (.iload 4, 2) := by decide +kernel
theorem dX12_tupleOf_56 : decode cX12_tupleOf 56 = .ok (.iload_n 2, 1) := by decide +kernel
theorem dX12_tupleOf_57 : decode cX12_tupleOf 57 = .ok (.if_icmp .ge 29, 3) := by decide +kernel
theorem dX12_tupleOf_60 : decode cX12_tupleOf 60 = .ok (.aload_n 0, 1) := by decide +kernel
theorem dX12_tupleOf_61 : decode cX12_tupleOf 61 = .ok (.getfield 372, 3) := by decide +kernel
theorem dX12_tupleOf_64 : decode cX12_tupleOf 64 = .ok (.iload_n 3, 1) := by decide +kernel
theorem dX12_tupleOf_65 : decode cX12_tupleOf 65 = .ok (.iconst 4, 1) := by decide +kernel
theorem dX12_tupleOf_66 : decode cX12_tupleOf 66 = .ok (.iadd, 1) := by decide +kernel
theorem dX12_tupleOf_67 : decode cX12_tupleOf 67 = .ok (.iload 4, 2) := by decide +kernel
theorem dX12_tupleOf_69 : decode cX12_tupleOf 69 = .ok (.iadd, 1) := by decide +kernel
theorem dX12_tupleOf_70 : decode cX12_tupleOf 70 = .ok (.aload_n 0, 1) := by decide +kernel
theorem dX12_tupleOf_71 : decode cX12_tupleOf 71 = .ok (.getfield 382, 3) := by decide +kernel
theorem dX12_tupleOf_74 : decode cX12_tupleOf 74 = .ok (.iload_n 1, 1) := by decide +kernel
theorem dX12_tupleOf_75 : decode cX12_tupleOf 75 = .ok (.iload 4, 2) := by decide +kernel
theorem dX12_tupleOf_77 : decode cX12_tupleOf 77 = .ok (.iadd, 1) := by decide +kernel
theorem dX12_tupleOf_78 : decode cX12_tupleOf 78 = .ok (.iaload, 1) := by decide +kernel
theorem dX12_tupleOf_79 : decode cX12_tupleOf 79 = .ok (.iastore, 1) := by decide +kernel
theorem dX12_tupleOf_80 : decode cX12_tupleOf 80 = .ok (.iinc 4 1, 3) := by decide +kernel
theorem dX12_tupleOf_83 : decode cX12_tupleOf 83 = .ok (.goto (-29), 3) := by decide +kernel
theorem dX12_tupleOf_86 : decode cX12_tupleOf 86 = .ok (.aload_n 0, 1) := by decide +kernel
theorem dX12_tupleOf_87 : decode cX12_tupleOf 87 = .ok (.iload_n 3, 1) := by decide +kernel
theorem dX12_tupleOf_88 : decode cX12_tupleOf 88 = .ok (.invokevirtual 441, 3) := by decide +kernel
theorem dX12_tupleOf_91 : decode cX12_tupleOf 91 = .ok (.ireturn, 1) := by decide +kernel
theorem dX12_signOf_0 : decode cX12_signOf 0 = .ok (.aload_n 0, 1) := by decide +kernel
theorem dX12_signOf_1 : decode cX12_signOf 1 = .ok (.getfield 372, 3) := by decide +kernel
theorem dX12_signOf_4 : decode cX12_signOf 4 = .ok (.iload_n 1, 1) := by decide +kernel
theorem dX12_signOf_5 : decode cX12_signOf 5 = .ok (.iconst 4, 1) := by decide +kernel
theorem dX12_signOf_6 : decode cX12_signOf 6 = .ok (.iadd, 1) := by decide +kernel
theorem dX12_signOf_7 : decode cX12_signOf 7 = .ok (.iaload, 1) := by decide +kernel
theorem dX12_signOf_8 : decode cX12_signOf 8 = .ok (.ireturn, 1) := by decide +kernel
theorem dX12_compareWholes_0 : decode cX12_compareWholes 0 = .ok (.aload_n 0, 1) := by decide +kernel
theorem dX12_compareWholes_1 : decode cX12_compareWholes 1 = .ok (.iload_n 1, 1) := by decide +kernel
theorem dX12_compareWholes_2 : decode cX12_compareWholes 2 = .ok (.invokevirtual 463, 3) := by decide +kernel
theorem dX12_compareWholes_5 : decode cX12_compareWholes 5 = .ok (.aload_n 0, 1) := by decide +kernel
theorem dX12_compareWholes_6 : decode cX12_compareWholes 6 = .ok (.iload_n 2, 1) := by decide +kernel
theorem dX12_compareWholes_7 : decode cX12_compareWholes 7 = .ok (.invokevirtual 463, 3) := by decide +kernel
theorem dX12_compareWholes_10 : decode cX12_compareWholes 10 = .ok (.if_icmp .eq 15, 3) := by decide +kernel
theorem dX12_compareWholes_13 : decode cX12_compareWholes 13 = .ok (.aload_n 0, 1) := by decide +kernel
theorem dX12_compareWholes_14 : decode cX12_compareWholes 14 = .ok (.iload_n 1, 1) := by decide +kernel
theorem dX12_compareWholes_15 : decode cX12_compareWholes 15 = .ok (.invokevirtual 463, 3) := by decide +kernel
theorem dX12_compareWholes_18 : decode cX12_compareWholes 18 = .ok (.aload_n 0, 1) := by decide +kernel
theorem dX12_compareWholes_19 : decode cX12_compareWholes 19 = .ok (.iload_n 2, 1) := by decide +kernel
theorem dX12_compareWholes_20 : decode cX12_compareWholes 20 = .ok (.invokevirtual 463, 3) := by decide +kernel
theorem dX12_compareWholes_23 : decode cX12_compareWholes 23 = .ok (.isub, 1) := by decide +kernel
theorem dX12_compareWholes_24 : decode cX12_compareWholes 24 = .ok (.ireturn, 1) := by decide +kernel
theorem dX12_compareWholes_25 : decode cX12_compareWholes 25 = .ok (.aload_n 0, 1) := by decide +kernel
theorem dX12_compareWholes_26 : decode cX12_compareWholes 26 = .ok (.getfield 372, 3) := by decide +kernel
theorem dX12_compareWholes_29 : decode cX12_compareWholes 29 = .ok (.iload_n 1, 1) := by decide +kernel
theorem dX12_compareWholes_30 : decode cX12_compareWholes 30 = .ok (.iconst 1, 1) := by decide +kernel
theorem dX12_compareWholes_31 : decode cX12_compareWholes 31 = .ok (.iadd, 1) := by decide +kernel
theorem dX12_compareWholes_32 : decode cX12_compareWholes 32 = .ok (.iaload, 1) := by decide +kernel
theorem dX12_compareWholes_33 : decode cX12_compareWholes 33 = .ok (.istore_n 3, 1) := by decide +kernel
theorem dX12_compareWholes_34 : decode cX12_compareWholes 34 = .ok (.aload_n 0, 1) := by decide +kernel
theorem dX12_compareWholes_35 : decode cX12_compareWholes 35 = .ok (.getfield 372, 3) := by decide +kernel
theorem dX12_compareWholes_38 : decode cX12_compareWholes 38 = .ok (.iload_n 2, 1) := by decide +kernel
theorem dX12_compareWholes_39 : decode cX12_compareWholes 39 = .ok (.iconst 1, 1) := by decide +kernel
theorem dX12_compareWholes_40 : decode cX12_compareWholes 40 = .ok (.iadd, 1) := by decide +kernel
theorem dX12_compareWholes_41 : decode cX12_compareWholes 41 = .ok (.iaload, 1) := by decide +kernel
theorem dX12_compareWholes_42 : decode cX12_compareWholes 42 = .ok (.istore 4, 2) := by decide +kernel
theorem dX12_compareWholes_44 : decode cX12_compareWholes 44 = .ok (.iload_n 3, 1) := by decide +kernel
theorem dX12_compareWholes_45 : decode cX12_compareWholes 45 = .ok (.iload 4, 2) := by decide +kernel
theorem dX12_compareWholes_47 : decode cX12_compareWholes 47 = .ok (.isub, 1) := by decide +kernel
theorem dX12_compareWholes_48 : decode cX12_compareWholes 48 = .ok (.istore 5, 2) := by decide +kernel
theorem dX12_compareWholes_50 : decode cX12_compareWholes 50 = .ok (.iload_n 3, 1) := by decide +kernel
theorem dX12_compareWholes_51 : decode cX12_compareWholes 51 = .ok (.iconst 1, 1) := by decide +kernel
theorem dX12_compareWholes_52 : decode cX12_compareWholes 52 = .ok (.isub, 1) := by decide +kernel
theorem dX12_compareWholes_53 : decode cX12_compareWholes 53 = .ok (.istore 6, 2) := by decide +kernel
theorem dX12_compareWholes_55 : decode cX12_compareWholes 55 = .ok (.iload 6, 2) := by decide +kernel
theorem dX12_compareWholes_57 : decode cX12_compareWholes 57 = .ok (.ifCond .le 39, 3) := by decide +kernel
theorem dX12_compareWholes_60 : decode cX12_compareWholes 60 = .ok (.iload 5, 2) := by decide +kernel
theorem dX12_compareWholes_62 : decode cX12_compareWholes 62 = .ok (.ifCond .ne 34, 3) := by decide +kernel
theorem dX12_compareWholes_65 : decode cX12_compareWholes 65 = .ok (.aload_n 0, 1) := by decide +kernel
theorem dX12_compareWholes_66 : decode cX12_compareWholes 66 = .ok (.getfield 372, 3) := by decide +kernel
theorem dX12_compareWholes_69 : decode cX12_compareWholes 69 = .ok (.iload_n 1, 1) := by decide +kernel
theorem dX12_compareWholes_70 : decode cX12_compareWholes 70 = .ok (.iconst 4, 1) := by decide +kernel
theorem dX12_compareWholes_71 : decode cX12_compareWholes 71 = .ok (.iadd, 1) := by decide +kernel
theorem dX12_compareWholes_72 : decode cX12_compareWholes 72 = .ok (.iload 6, 2) := by decide +kernel
theorem dX12_compareWholes_74 : decode cX12_compareWholes 74 = .ok (.iadd, 1) := by decide +kernel
theorem dX12_compareWholes_75 : decode cX12_compareWholes 75 = .ok (.iaload, 1) := by decide +kernel
theorem dX12_compareWholes_76 : decode cX12_compareWholes 76 = .ok (.aload_n 0, 1) := by decide +kernel
theorem dX12_compareWholes_77 : decode cX12_compareWholes 77 = .ok (.getfield 372, 3) := by decide +kernel
theorem dX12_compareWholes_80 : decode cX12_compareWholes 80 = .ok (.iload_n 2, 1) := by decide +kernel
theorem dX12_compareWholes_81 : decode cX12_compareWholes 81 = .ok (.iconst 4, 1) := by decide +kernel
theorem dX12_compareWholes_82 : decode cX12_compareWholes 82 = .ok (.iadd, 1) := by decide +kernel
theorem dX12_compareWholes_83 : decode cX12_compareWholes 83 = .ok (.iload 6, 2) := by decide +kernel
theorem dX12_compareWholes_85 : decode cX12_compareWholes 85 = .ok (.iadd, 1) := by decide +kernel
theorem dX12_compareWholes_86 : decode cX12_compareWholes 86 = .ok (.iaload, 1) := by decide +kernel
theorem dX12_compareWholes_87 : decode cX12_compareWholes 87 = .ok (.isub, 1) := by decide +kernel
theorem dX12_compareWholes_88 : decode cX12_compareWholes 88 = .ok (.istore 5, 2) := by decide +kernel
theorem dX12_compareWholes_90 : decode cX12_compareWholes 90 = .ok (.iinc 6 (-1), 3) := by decide +kernel
theorem dX12_compareWholes_93 : decode cX12_compareWholes 93 = .ok (.goto (-38), 3) := by decide +kernel
theorem dX12_compareWholes_96 : decode cX12_compareWholes 96 = .ok (.aload_n 0, 1) := by decide +kernel
theorem dX12_compareWholes_97 : decode cX12_compareWholes 97 = .ok (.iload_n 1, 1) := by decide +kernel
theorem dX12_compareWholes_98 : decode cX12_compareWholes 98 = .ok (.invokevirtual 463, 3) := by decide +kernel
theorem dX12_compareWholes_101 : decode cX12_compareWholes 101 = .ok (.ifCond .ge 9, 3) := by decide +kernel
theorem dX12_compareWholes_104 : decode cX12_compareWholes 104 = .ok (.iload 5, 2) := by decide +kernel
theorem dX12_compareWholes_106 : decode cX12_compareWholes 106 = .ok (.ineg, 1) := by decide +kernel
theorem dX12_compareWholes_107 : decode cX12_compareWholes 107 = .ok (.goto 5, 3) := by decide +kernel
theorem dX12_compareWholes_110 : decode cX12_compareWholes 110 = .ok (.iload 5, 2) := by decide +kernel
theorem dX12_compareWholes_112 : decode cX12_compareWholes 112 = .ok (.ireturn, 1) := by decide +kernel
theorem dX12_rank_0 : decode cX12_rank 0 = .ok (.iload_n 1, 1) := by decide +kernel
theorem dX12_rank_1 : decode cX12_rank 1 = .ok (.iconst 3, 1) := by decide +kernel
theorem dX12_rank_2 : decode cX12_rank 2 = .ok (.if_icmp .ge 7, 3) := by decide +kernel
theorem dX12_rank_5 : decode cX12_rank 5 = .ok (.iload_n 1, 1) := by decide +kernel
theorem dX12_rank_6 : decode cX12_rank 6 = .ok (.goto 11, 3) := by decide +kernel
theorem dX12_rank_9 : decode cX12_rank 9 = .ok (.aload_n 0, 1) := by decide +kernel
theorem dX12_rank_10 : decode cX12_rank 10 = .ok (.getfield 372, 3) := by decide +kernel
theorem dX12_rank_13 : decode cX12_rank 13 = .ok (.iload_n 1, 1) := by decide +kernel
theorem dX12_rank_14 : decode cX12_rank 14 = .ok (.iaload, 1) := by decide +kernel
theorem dX12_rank_15 : decode cX12_rank 15 = .ok (.iconst 1, 1) := by decide +kernel
theorem dX12_rank_16 : decode cX12_rank 16 = .ok (.iadd, 1) := by decide +kernel
theorem dX12_rank_17 : decode cX12_rank 17 = .ok (.ireturn, 1) := by decide +kernel
theorem dX12_loadA_0 : decode cX12_loadA 0 = .ok (.aload_n 0, 1) := by decide +kernel
theorem dX12_loadA_1 : decode cX12_loadA 1 = .ok (.aload_n 0, 1) := by decide +kernel
theorem dX12_loadA_2 : decode cX12_loadA 2 = .ok (.getfield 372, 3) := by decide +kernel
theorem dX12_loadA_5 : decode cX12_loadA 5 = .ok (.iload_n 1, 1) := by decide +kernel
theorem dX12_loadA_6 : decode cX12_loadA 6 = .ok (.iconst 1, 1) := by decide +kernel
theorem dX12_loadA_7 : decode cX12_loadA 7 = .ok (.iadd, 1) := by decide +kernel
theorem dX12_loadA_8 : decode cX12_loadA 8 = .ok (.iaload, 1) := by decide +kernel
theorem dX12_loadA_9 : decode cX12_loadA 9 = .ok (.iconst 1, 1) := by decide +kernel
theorem dX12_loadA_10 : decode cX12_loadA 10 = .ok (.isub, 1) := by decide +kernel
theorem dX12_loadA_11 : decode cX12_loadA 11 = .ok (.putfield 466, 3) := by decide +kernel
theorem dX12_loadA_14 : decode cX12_loadA 14 = .ok (.iconst 0, 1) := by decide +kernel
theorem dX12_loadA_15 : decode cX12_loadA 15 = .ok (.istore_n 2, 1) := by decide +kernel
theorem dX12_loadA_16 : decode cX12_loadA 16 = .ok (.iload_n 2, 1) := by decide +kernel
theorem dX12_loadA_17 : decode cX12_loadA 17 = .ok (.aload_n 0, 1) := by decide +kernel
theorem dX12_loadA_18 : decode cX12_loadA 18 = .ok (.getfield 466, 3) := by decide +kernel
theorem dX12_loadA_21 : decode cX12_loadA 21 = .ok (.if_icmp .ge 25, 3) := by decide +kernel
theorem dX12_loadA_24 : decode cX12_loadA 24 = .ok (.aload_n 0, 1) := by decide +kernel
theorem dX12_loadA_25 : decode cX12_loadA 25 = .ok (.getfield 469, 3) := by decide +kernel
theorem dX12_loadA_28 : decode cX12_loadA 28 = .ok (.iload_n 2, 1) := by decide +kernel
theorem dX12_loadA_29 : decode cX12_loadA 29 = .ok (.aload_n 0, 1) := by decide +kernel
theorem dX12_loadA_30 : decode cX12_loadA 30 = .ok (.getfield 372, 3) := by decide +kernel
theorem dX12_loadA_33 : decode cX12_loadA 33 = .ok (.iload_n 1, 1) := by decide +kernel
theorem dX12_loadA_34 : decode cX12_loadA 34 = .ok (.iconst 5, 1) := by decide +kernel
theorem dX12_loadA_35 : decode cX12_loadA 35 = .ok (.iadd, 1) := by decide +kernel
theorem dX12_loadA_36 : decode cX12_loadA 36 = .ok (.iload_n 2, 1) := by decide +kernel
theorem dX12_loadA_37 : decode cX12_loadA 37 = .ok (.iadd, 1) := by decide +kernel
theorem dX12_loadA_38 : decode cX12_loadA 38 = .ok (.iaload, 1) := by decide +kernel
theorem dX12_loadA_39 : decode cX12_loadA 39 = .ok (.iastore, 1) := by decide +kernel
theorem dX12_loadA_40 : decode cX12_loadA 40 = .ok (.iinc 2 1, 3) := by decide +kernel
theorem dX12_loadA_43 : decode cX12_loadA 43 = .ok (.goto (-27), 3) := by decide +kernel
theorem dX12_loadA_46 : decode cX12_loadA 46 = .ok (.return_, 1) := by decide +kernel
theorem dX12_loadB_0 : decode cX12_loadB 0 = .ok (.aload_n 0, 1) := by decide +kernel
theorem dX12_loadB_1 : decode cX12_loadB 1 = .ok (.aload_n 0, 1) := by decide +kernel
theorem dX12_loadB_2 : decode cX12_loadB 2 = .ok (.getfield 372, 3) := by decide +kernel
theorem dX12_loadB_5 : decode cX12_loadB 5 = .ok (.iload_n 1, 1) := by decide +kernel
theorem dX12_loadB_6 : decode cX12_loadB 6 = .ok (.iconst 1, 1) := by decide +kernel
theorem dX12_loadB_7 : decode cX12_loadB 7 = .ok (.iadd, 1) := by decide +kernel
theorem dX12_loadB_8 : decode cX12_loadB 8 = .ok (.iaload, 1) := by decide +kernel
theorem dX12_loadB_9 : decode cX12_loadB 9 = .ok (.iconst 1, 1) := by decide +kernel
theorem dX12_loadB_10 : decode cX12_loadB 10 = .ok (.isub, 1) := by decide +kernel
theorem dX12_loadB_11 : decode cX12_loadB 11 = .ok (.putfield 472, 3) := by decide +kernel
theorem dX12_loadB_14 : decode cX12_loadB 14 = .ok (.iconst 0, 1) := by decide +kernel
theorem dX12_loadB_15 : decode cX12_loadB 15 = .ok (.istore_n 2, 1) := by decide +kernel
theorem dX12_loadB_16 : decode cX12_loadB 16 = .ok (.iload_n 2, 1) := by decide +kernel
theorem dX12_loadB_17 : decode cX12_loadB 17 = .ok (.aload_n 0, 1) := by decide +kernel
theorem dX12_loadB_18 : decode cX12_loadB 18 = .ok (.getfield 472, 3) := by decide +kernel
theorem dX12_loadB_21 : decode cX12_loadB 21 = .ok (.if_icmp .ge 25, 3) := by decide +kernel
theorem dX12_loadB_24 : decode cX12_loadB 24 = .ok (.aload_n 0, 1) := by decide +kernel
theorem dX12_loadB_25 : decode cX12_loadB 25 = .ok (.getfield 475, 3) := by decide +kernel
theorem dX12_loadB_28 : decode cX12_loadB 28 = .ok (.iload_n 2, 1) := by decide +kernel
theorem dX12_loadB_29 : decode cX12_loadB 29 = .ok (.aload_n 0, 1) := by decide +kernel
theorem dX12_loadB_30 : decode cX12_loadB 30 = .ok (.getfield 372, 3) := by decide +kernel
theorem dX12_loadB_33 : decode cX12_loadB 33 = .ok (.iload_n 1, 1) := by decide +kernel
theorem dX12_loadB_34 : decode cX12_loadB 34 = .ok (.iconst 5, 1) := by decide +kernel
theorem dX12_loadB_35 : decode cX12_loadB 35 = .ok (.iadd, 1) := by decide +kernel
theorem dX12_loadB_36 : decode cX12_loadB 36 = .ok (.iload_n 2, 1) := by decide +kernel
theorem dX12_loadB_37 : decode cX12_loadB 37 = .ok (.iadd, 1) := by decide +kernel
theorem dX12_loadB_38 : decode cX12_loadB 38 = .ok (.iaload, 1) := by decide +kernel
theorem dX12_loadB_39 : decode cX12_loadB 39 = .ok (.iastore, 1) := by decide +kernel
theorem dX12_loadB_40 : decode cX12_loadB 40 = .ok (.iinc 2 1, 3) := by decide +kernel
theorem dX12_loadB_43 : decode cX12_loadB 43 = .ok (.goto (-27), 3) := by decide +kernel
theorem dX12_loadB_46 : decode cX12_loadB 46 = .ok (.return_, 1) := by decide +kernel
theorem dX12_wholeOf_0 : decode cX12_wholeOf 0 = .ok (.aload_n 0, 1) := by decide +kernel
theorem dX12_wholeOf_1 : decode cX12_wholeOf 1 = .ok (.getfield 478, 3) := by decide +kernel
theorem dX12_wholeOf_4 : decode cX12_wholeOf 4 = .ok (.ifCond .le 30, 3) := by decide +kernel
theorem dX12_wholeOf_7 : decode cX12_wholeOf 7 = .ok (.aload_n 0, 1) := by decide +kernel
theorem dX12_wholeOf_8 : decode cX12_wholeOf 8 = .ok (.getfield 481, 3) := by decide +kernel
theorem dX12_wholeOf_11 : decode cX12_wholeOf 11 = .ok (.aload_n 0, 1) := by decide +kernel
theorem dX12_wholeOf_12 : decode cX12_wholeOf 12 = .ok (.getfield 478, 3) := by decide +kernel
theorem dX12_wholeOf_15 : decode cX12_wholeOf 15 = .ok (.iconst 1, 1) := by decide +kernel
theorem dX12_wholeOf_16 : decode cX12_wholeOf 16 = .ok (.isub, 1) := by decide +kernel
theorem dX12_wholeOf_17 : decode cX12_wholeOf 17 = .ok (.iaload, 1) := by decide +kernel
theorem dX12_wholeOf_18 : decode cX12_wholeOf 18 = .ok (.ifCond .ne 16, 3) := by decide +kernel
theorem dX12_wholeOf_21 : decode cX12_wholeOf 21 = .ok (.aload_n 0, 1) := by decide +kernel
theorem dX12_wholeOf_22 : decode cX12_wholeOf 22 = .ok (.dup, 1) := by decide +kernel
theorem dX12_wholeOf_23 : decode cX12_wholeOf 23 = .ok (.getfield 478, 3) := by decide +kernel
theorem dX12_wholeOf_26 : decode cX12_wholeOf 26 = .ok (.iconst 1, 1) := by decide +kernel
theorem dX12_wholeOf_27 : decode cX12_wholeOf 27 = .ok (.isub, 1) := by decide +kernel
theorem dX12_wholeOf_28 : decode cX12_wholeOf 28 = .ok (.putfield 478, 3) := by decide +kernel
theorem dX12_wholeOf_31 : decode cX12_wholeOf 31 = .ok (.goto (-31), 3) := by decide +kernel
theorem dX12_wholeOf_34 : decode cX12_wholeOf 34 = .ok (.aload_n 0, 1) := by decide +kernel
theorem dX12_wholeOf_35 : decode cX12_wholeOf 35 = .ok (.getfield 478, 3) := by decide +kernel
theorem dX12_wholeOf_38 : decode cX12_wholeOf 38 = .ok (.bipush 64, 2) := by decide +kernel
theorem dX12_wholeOf_40 : decode cX12_wholeOf 40 = .ok (.if_icmp .le 10, 3) := by decide +kernel
theorem dX12_wholeOf_43 : decode cX12_wholeOf 43 = .ok (.aload_n 0, 1) := by decide +kernel
theorem dX12_wholeOf_44 : decode cX12_wholeOf 44 = .ok (.iconst 5, 1) := by decide +kernel
theorem dX12_wholeOf_45 : decode cX12_wholeOf 45 = .ok (.invokevirtual 369, 3) := by decide +kernel
theorem dX12_wholeOf_48 : decode cX12_wholeOf 48 = .ok (.iconst 0, 1) := by decide +kernel
theorem dX12_wholeOf_49 : decode cX12_wholeOf 49 = .ok (.ireturn, 1) := by decide +kernel
theorem dX12_wholeOf_50 : decode cX12_wholeOf 50 = .ok (.aload_n 0, 1) := by decide +kernel
theorem dX12_wholeOf_51 : decode cX12_wholeOf 51 = .ok (.iconst 2, 1) := by decide +kernel
theorem dX12_wholeOf_52 : decode cX12_wholeOf 52 = .ok (.aload_n 0, 1) := by decide +kernel
theorem dX12_wholeOf_53 : decode cX12_wholeOf 53 = .ok (.getfield 478, 3) := by decide +kernel
theorem dX12_wholeOf_56 : decode cX12_wholeOf 56 = .ok (.iconst 1, 1) := by decide +kernel
theorem dX12_wholeOf_57 : decode cX12_wholeOf 57 = .ok (.iadd, 1) := by decide +kernel
theorem dX12_wholeOf_58 : decode cX12_wholeOf 58 = .ok (.invokevirtual 429, 3) := by decide +kernel
theorem dX12_wholeOf_61 : decode cX12_wholeOf 61 = .ok (.istore_n 2, 1) := by decide +kernel
theorem dX12_wholeOf_62 : decode cX12_wholeOf 62 = .ok (.aload_n 0, 1) := by decide +kernel
theorem dX12_wholeOf_63 : decode cX12_wholeOf 63 = .ok (.getfield 362, 3) := by decide +kernel
theorem dX12_wholeOf_66 : decode cX12_wholeOf 66 = .ok (.ifCond .le 5, 3) := by decide +kernel
theorem dX12_wholeOf_69 : decode cX12_wholeOf 69 = .ok (.iconst 0, 1) := by decide +kernel
theorem dX12_wholeOf_70 : decode cX12_wholeOf 70 = .ok (.ireturn, 1) := by decide +kernel
theorem dX12_wholeOf_71 : decode cX12_wholeOf 71 = .ok (.aload_n 0, 1) := by decide +kernel
theorem dX12_wholeOf_72 : decode cX12_wholeOf 72 = .ok (.getfield 372, 3) := by decide +kernel
theorem dX12_wholeOf_75 : decode cX12_wholeOf 75 = .ok (.iload_n 2, 1) := by decide +kernel
theorem dX12_wholeOf_76 : decode cX12_wholeOf 76 = .ok (.iconst 4, 1) := by decide +kernel
theorem dX12_wholeOf_77 : decode cX12_wholeOf 77 = .ok (.iadd, 1) := by decide +kernel
theorem dX12_wholeOf_78 : decode cX12_wholeOf 78 = .ok (.aload_n 0, 1) := by decide +kernel
theorem dX12_wholeOf_79 : decode cX12_wholeOf 79 = .ok (.getfield 478, 3) := by decide +kernel
theorem dX12_wholeOf_82 : decode cX12_wholeOf 82 = .ok (.ifCond .ne 7, 3) := by decide +kernel
theorem dX12_wholeOf_85 : decode cX12_wholeOf 85 = .ok (.iconst 0, 1) := by decide +kernel
theorem dX12_wholeOf_86 : decode cX12_wholeOf 86 = .ok (.goto 4, 3) := by decide +kernel
theorem dX12_wholeOf_89 : decode cX12_wholeOf 89 = .ok (.iload_n 1, 1) := by decide +kernel
theorem dX12_wholeOf_90 : decode cX12_wholeOf 90 = .ok (.iastore, 1) := by decide +kernel
theorem dX12_wholeOf_91 : decode cX12_wholeOf 91 = .ok (.iconst 0, 1) := by decide +kernel
theorem dX12_wholeOf_92 : decode cX12_wholeOf 92 = .ok (.istore_n 3, 1) := by decide +kernel
theorem dX12_wholeOf_93 : decode cX12_wholeOf 93 = .ok (.iload_n 3, 1) := by decide +kernel
theorem dX12_wholeOf_94 : decode cX12_wholeOf 94 = .ok (.aload_n 0, 1) := by decide +kernel
theorem dX12_wholeOf_95 : decode cX12_wholeOf 95 = .ok (.getfield 478, 3) := by decide +kernel
theorem dX12_wholeOf_98 : decode cX12_wholeOf 98 = .ok (.if_icmp .ge 25, 3) := by decide +kernel
theorem dX12_wholeOf_101 : decode cX12_wholeOf 101 = .ok (.aload_n 0, 1) := by decide +kernel
theorem dX12_wholeOf_102 : decode cX12_wholeOf 102 = .ok (.getfield 372, 3) := by decide +kernel
theorem dX12_wholeOf_105 : decode cX12_wholeOf 105 = .ok (.iload_n 2, 1) := by decide +kernel
theorem dX12_wholeOf_106 : decode cX12_wholeOf 106 = .ok (.iconst 5, 1) := by decide +kernel
theorem dX12_wholeOf_107 : decode cX12_wholeOf 107 = .ok (.iadd, 1) := by decide +kernel
theorem dX12_wholeOf_108 : decode cX12_wholeOf 108 = .ok (.iload_n 3, 1) := by decide +kernel
theorem dX12_wholeOf_109 : decode cX12_wholeOf 109 = .ok (.iadd, 1) := by decide +kernel
theorem dX12_wholeOf_110 : decode cX12_wholeOf 110 = .ok (.aload_n 0, 1) := by decide +kernel
theorem dX12_wholeOf_111 : decode cX12_wholeOf 111 = .ok (.getfield 481, 3) := by decide +kernel
theorem dX12_wholeOf_114 : decode cX12_wholeOf 114 = .ok (.iload_n 3, 1) := by decide +kernel
theorem dX12_wholeOf_115 : decode cX12_wholeOf 115 = .ok (.iaload, 1) := by decide +kernel
theorem dX12_wholeOf_116 : decode cX12_wholeOf 116 = .ok (.iastore, 1) := by decide +kernel
theorem dX12_wholeOf_117 : decode cX12_wholeOf 117 = .ok (.iinc 3 1, 3) := by decide +kernel
theorem dX12_wholeOf_120 : decode cX12_wholeOf 120 = .ok (.goto (-27), 3) := by decide +kernel
theorem dX12_wholeOf_123 : decode cX12_wholeOf 123 = .ok (.aload_n 0, 1) := by decide +kernel
theorem dX12_wholeOf_124 : decode cX12_wholeOf 124 = .ok (.getfield 372, 3) := by decide +kernel
theorem dX12_wholeOf_127 : decode cX12_wholeOf 127 = .ok (.iload_n 2, 1) := by decide +kernel
theorem dX12_wholeOf_128 : decode cX12_wholeOf 128 = .ok (.iconst 2, 1) := by decide +kernel
theorem dX12_wholeOf_129 : decode cX12_wholeOf 129 = .ok (.iadd, 1) := by decide +kernel
theorem dX12_wholeOf_130 : decode cX12_wholeOf 130 = .ok (.iconst 1, 1) := by decide +kernel
theorem dX12_wholeOf_131 : decode cX12_wholeOf 131 = .ok (.aload_n 0, 1) := by decide +kernel
theorem dX12_wholeOf_132 : decode cX12_wholeOf 132 = .ok (.getfield 478, 3) := by decide +kernel
theorem dX12_wholeOf_135 : decode cX12_wholeOf 135 = .ok (.iconst 1, 1) := by decide +kernel
theorem dX12_wholeOf_136 : decode cX12_wholeOf 136 = .ok (.iadd, 1) := by decide +kernel
theorem dX12_wholeOf_137 : decode cX12_wholeOf 137 = .ok (.iconst 2, 1) := by decide +kernel
theorem dX12_wholeOf_138 : decode cX12_wholeOf 138 = .ok (.idiv, 1) := by decide +kernel
theorem dX12_wholeOf_139 : decode cX12_wholeOf 139 = .ok (.iadd, 1) := by decide +kernel
theorem dX12_wholeOf_140 : decode cX12_wholeOf 140 = .ok (.iastore, 1) := by decide +kernel
theorem dX12_wholeOf_141 : decode cX12_wholeOf 141 = .ok (.iload_n 2, 1) := by decide +kernel
theorem dX12_wholeOf_142 : decode cX12_wholeOf 142 = .ok (.ireturn, 1) := by decide +kernel
theorem dX12_put_0 : decode cX12_put 0 = .ok (.aload_n 0, 1) := by decide +kernel
theorem dX12_put_1 : decode cX12_put 1 = .ok (.getfield 527, 3) := by decide +kernel
theorem dX12_put_4 : decode cX12_put 4 = .ok (.aload_n 0, 1) := by decide +kernel
theorem dX12_put_5 : decode cX12_put 5 = .ok (.getfield 530, 3) := by decide +kernel
theorem dX12_put_8 : decode cX12_put 8 = .ok (.iload_n 1, 1) := by decide +kernel
theorem dX12_put_9 : decode cX12_put 9 = .ok (.iastore, 1) := by decide +kernel
theorem dX12_put_10 : decode cX12_put 10 = .ok (.aload_n 0, 1) := by decide +kernel
theorem dX12_put_11 : decode cX12_put 11 = .ok (.dup, 1) := by decide +kernel
theorem dX12_put_12 : decode cX12_put 12 = .ok (.getfield 530, 3) := by decide +kernel
theorem dX12_put_15 : decode cX12_put 15 = .ok (.iconst 1, 1) := by decide +kernel
theorem dX12_put_16 : decode cX12_put 16 = .ok (.iadd, 1) := by decide +kernel
theorem dX12_put_17 : decode cX12_put 17 = .ok (.putfield 530, 3) := by decide +kernel
theorem dX12_put_20 : decode cX12_put 20 = .ok (.return_, 1) := by decide +kernel
theorem dX12_putWord_0 : decode cX12_putWord 0 = .ok (.iconst 0, 1) := by decide +kernel
theorem dX12_putWord_1 : decode cX12_putWord 1 = .ok (.istore_n 2, 1) := by decide +kernel
theorem dX12_putWord_2 : decode cX12_putWord 2 = .ok (.iconst 0, 1) := by decide +kernel
theorem dX12_putWord_3 : decode cX12_putWord 3 = .ok (.istore_n 3, 1) := by decide +kernel
theorem dX12_putWord_4 : decode cX12_putWord 4 = .ok (.iload_n 3, 1) := by decide +kernel
theorem dX12_putWord_5 : decode cX12_putWord 5 = .ok (.iload_n 1, 1) := by decide +kernel
theorem dX12_putWord_6 : decode cX12_putWord 6 = .ok (.if_icmp .ge 28, 3) := by decide +kernel
theorem dX12_putWord_9 : decode cX12_putWord 9 = .ok (.iload_n 3, 1) := by decide +kernel
theorem dX12_putWord_10 : decode cX12_putWord 10 = .ok (.aload_n 0, 1) := by decide +kernel
theorem dX12_putWord_11 : decode cX12_putWord 11 = .ok (.getfield 533, 3) := by decide +kernel
theorem dX12_putWord_14 : decode cX12_putWord 14 = .ok (.iload_n 2, 1) := by decide +kernel
theorem dX12_putWord_15 : decode cX12_putWord 15 = .ok (.iaload, 1) := by decide +kernel
theorem dX12_putWord_16 : decode cX12_putWord 16 = .ok (.bipush 32, 2) := by decide +kernel
theorem dX12_putWord_18 : decode cX12_putWord 18 = .ok (.if_icmp .ne 7, 3) := by decide +kernel
theorem dX12_putWord_21 : decode cX12_putWord 21 = .ok (.iconst 1, 1) := by decide +kernel
theorem dX12_putWord_22 : decode cX12_putWord 22 = .ok (.goto 4, 3) := by decide +kernel
theorem dX12_putWord_25 : decode cX12_putWord 25 = .ok (.iconst 0, 1) := by decide +kernel
theorem dX12_putWord_26 : decode cX12_putWord 26 = .ok (.iadd, 1) := by decide +kernel
theorem dX12_putWord_27 : decode cX12_putWord 27 = .ok (.istore_n 3, 1) := by decide +kernel
theorem dX12_putWord_28 : decode cX12_putWord 28 = .ok (.iinc 2 1, 3) := by decide +kernel
theorem dX12_putWord_31 : decode cX12_putWord 31 = .ok (.goto (-27), 3) := by decide +kernel
theorem dX12_putWord_34 : decode cX12_putWord 34 = .ok (.aload_n 0, 1) := by decide +kernel
theorem dX12_putWord_35 : decode cX12_putWord 35 = .ok (.getfield 533, 3) := by decide +kernel
theorem dX12_putWord_38 : decode cX12_putWord 38 = .ok (.iload_n 2, 1) := by decide +kernel
theorem dX12_putWord_39 : decode cX12_putWord 39 = .ok (.iaload, 1) := by decide +kernel
theorem dX12_putWord_40 : decode cX12_putWord 40 = .ok (.bipush 32, 2) := by decide +kernel
theorem dX12_putWord_42 : decode cX12_putWord 42 = .ok (.if_icmp .eq 19, 3) := by decide +kernel
theorem dX12_putWord_45 : decode cX12_putWord 45 = .ok (.aload_n 0, 1) := by decide +kernel
theorem dX12_putWord_46 : decode cX12_putWord 46 = .ok (.aload_n 0, 1) := by decide +kernel
theorem dX12_putWord_47 : decode cX12_putWord 47 = .ok (.getfield 533, 3) := by decide +kernel
theorem dX12_putWord_50 : decode cX12_putWord 50 = .ok (.iload_n 2, 1) := by decide +kernel
theorem dX12_putWord_51 : decode cX12_putWord 51 = .ok (.iaload, 1) := by decide +kernel
theorem dX12_putWord_52 : decode cX12_putWord 52 = .ok (.invokevirtual 536, 3) := by decide +kernel
theorem dX12_putWord_55 : decode cX12_putWord 55 = .ok (.iinc 2 1, 3) := by decide +kernel
theorem dX12_putWord_58 : decode cX12_putWord 58 = .ok (.goto (-24), 3) := by decide +kernel
theorem dX12_putWord_61 : decode cX12_putWord 61 = .ok (.return_, 1) := by decide +kernel
theorem dX12_putTruth_0 : decode cX12_putTruth 0 = .ok (.aload_n 0, 1) := by decide +kernel
theorem dX12_putTruth_1 : decode cX12_putTruth 1 = .ok (.iload_n 1, 1) := by decide +kernel
theorem dX12_putTruth_2 : decode cX12_putTruth 2 = .ok (.ifCond .eq 8, 3) := by decide +kernel
theorem dX12_putTruth_5 : decode cX12_putTruth 5 = .ok (.bipush 116, 2) := by decide +kernel
theorem dX12_putTruth_7 : decode cX12_putTruth 7 = .ok (.goto 5, 3) := by decide +kernel
theorem dX12_putTruth_10 : decode cX12_putTruth 10 = .ok (.bipush 102, 2) := by decide +kernel
theorem dX12_putTruth_12 : decode cX12_putTruth 12 = .ok (.invokevirtual 536, 3) := by decide +kernel
theorem dX12_putTruth_15 : decode cX12_putTruth 15 = .ok (.aload_n 0, 1) := by decide +kernel
theorem dX12_putTruth_16 : decode cX12_putTruth 16 = .ok (.iload_n 1, 1) := by decide +kernel
theorem dX12_putTruth_17 : decode cX12_putTruth 17 = .ok (.ifCond .eq 8, 3) := by decide +kernel
theorem dX12_putTruth_20 : decode cX12_putTruth 20 = .ok (.bipush 114, 2) := by decide +kernel
theorem dX12_putTruth_22 : decode cX12_putTruth 22 = .ok (.goto 5, 3) := by decide +kernel
theorem dX12_putTruth_25 : decode cX12_putTruth 25 = .ok (.bipush 97, 2) := by decide +kernel
theorem dX12_putTruth_27 : decode cX12_putTruth 27 = .ok (.invokevirtual 536, 3) := by decide +kernel
theorem dX12_putTruth_30 : decode cX12_putTruth 30 = .ok (.aload_n 0, 1) := by decide +kernel
theorem dX12_putTruth_31 : decode cX12_putTruth 31 = .ok (.iload_n 1, 1) := by decide +kernel
theorem dX12_putTruth_32 : decode cX12_putTruth 32 = .ok (.ifCond .eq 8, 3) := by decide +kernel
theorem dX12_putTruth_35 : decode cX12_putTruth 35 = .ok (.bipush 117, 2) := by decide +kernel
theorem dX12_putTruth_37 : decode cX12_putTruth 37 = .ok (.goto 5, 3) := by decide +kernel
theorem dX12_putTruth_40 : decode cX12_putTruth 40 = .ok (.bipush 108, 2) := by decide +kernel
theorem dX12_putTruth_42 : decode cX12_putTruth 42 = .ok (.invokevirtual 536, 3) := by decide +kernel
theorem dX12_putTruth_45 : decode cX12_putTruth 45 = .ok (.aload_n 0, 1) := by decide +kernel
theorem dX12_putTruth_46 : decode cX12_putTruth 46 = .ok (.iload_n 1, 1) := by decide +kernel
theorem dX12_putTruth_47 : decode cX12_putTruth 47 = .ok (.ifCond .eq 8, 3) := by decide +kernel
theorem dX12_putTruth_50 : decode cX12_putTruth 50 = .ok (.bipush 101, 2) := by decide +kernel
theorem dX12_putTruth_52 : decode cX12_putTruth 52 = .ok (.goto 5, 3) := by decide +kernel
theorem dX12_putTruth_55 : decode cX12_putTruth 55 = .ok (.bipush 115, 2) := by decide +kernel
theorem dX12_putTruth_57 : decode cX12_putTruth 57 = .ok (.invokevirtual 536, 3) := by decide +kernel
theorem dX12_putTruth_60 : decode cX12_putTruth 60 = .ok (.iload_n 1, 1) := by decide +kernel
theorem dX12_putTruth_61 : decode cX12_putTruth 61 = .ok (.ifCond .ne 9, 3) := by decide +kernel
theorem dX12_putTruth_64 : decode cX12_putTruth 64 = .ok (.aload_n 0, 1) := by decide +kernel
theorem dX12_putTruth_65 : decode cX12_putTruth 65 = .ok (.bipush 101, 2) := by decide +kernel
theorem dX12_putTruth_67 : decode cX12_putTruth 67 = .ok (.invokevirtual 536, 3) := by decide +kernel
theorem dX12_putTruth_70 : decode cX12_putTruth 70 = .ok (.return_, 1) := by decide +kernel
theorem dX12_valueOf_0 : decode cX12_valueOf 0 = .ok (.aload_n 0, 1) := by decide +kernel
theorem dX12_valueOf_1 : decode cX12_valueOf 1 = .ok (.getfield 86, 3) := by decide +kernel
theorem dX12_valueOf_4 : decode cX12_valueOf 4 = .ok (.iload_n 1, 1) := by decide +kernel
theorem dX12_valueOf_5 : decode cX12_valueOf 5 = .ok (.iaload, 1) := by decide +kernel
theorem dX12_valueOf_6 : decode cX12_valueOf 6 = .ok (.ifCond .ne 17, 3) := by decide +kernel
theorem dX12_valueOf_9 : decode cX12_valueOf 9 = .ok (.aload_n 0, 1) := by decide +kernel
theorem dX12_valueOf_10 : decode cX12_valueOf 10 = .ok (.getfield 395, 3) := by decide +kernel
theorem dX12_valueOf_13 : decode cX12_valueOf 13 = .ok (.iconst 4, 1) := by decide +kernel
theorem dX12_valueOf_14 : decode cX12_valueOf 14 = .ok (.aload_n 0, 1) := by decide +kernel
theorem dX12_valueOf_15 : decode cX12_valueOf 15 = .ok (.getfield 89, 3) := by decide +kernel
theorem dX12_valueOf_18 : decode cX12_valueOf 18 = .ok (.iload_n 1, 1) := by decide +kernel
theorem dX12_valueOf_19 : decode cX12_valueOf 19 = .ok (.iaload, 1) := by decide +kernel
theorem dX12_valueOf_20 : decode cX12_valueOf 20 = .ok (.iadd, 1) := by decide +kernel
theorem dX12_valueOf_21 : decode cX12_valueOf 21 = .ok (.iaload, 1) := by decide +kernel
theorem dX12_valueOf_22 : decode cX12_valueOf 22 = .ok (.ireturn, 1) := by decide +kernel
theorem dX12_valueOf_23 : decode cX12_valueOf 23 = .ok (.aload_n 0, 1) := by decide +kernel
theorem dX12_valueOf_24 : decode cX12_valueOf 24 = .ok (.getfield 557, 3) := by decide +kernel
theorem dX12_valueOf_27 : decode cX12_valueOf 27 = .ok (.ifCond .eq 22, 3) := by decide +kernel
theorem dX12_valueOf_30 : decode cX12_valueOf 30 = .ok (.aload_n 0, 1) := by decide +kernel
theorem dX12_valueOf_31 : decode cX12_valueOf 31 = .ok (.getfield 408, 3) := by decide +kernel
theorem dX12_valueOf_34 : decode cX12_valueOf 34 = .ok (.aload_n 0, 1) := by decide +kernel
theorem dX12_valueOf_35 : decode cX12_valueOf 35 = .ok (.getfield 560, 3) := by decide +kernel
theorem dX12_valueOf_38 : decode cX12_valueOf 38 = .ok (.aload_n 0, 1) := by decide +kernel
theorem dX12_valueOf_39 : decode cX12_valueOf 39 = .ok (.getfield 89, 3) := by decide +kernel
theorem dX12_valueOf_42 : decode cX12_valueOf 42 = .ok (.iload_n 1, 1) := by decide +kernel
theorem dX12_valueOf_43 : decode cX12_valueOf 43 = .ok (.iaload, 1) := by decide +kernel
theorem dX12_valueOf_44 : decode cX12_valueOf 44 = .ok (.iadd, 1) := by decide +kernel
theorem dX12_valueOf_45 : decode cX12_valueOf 45 = .ok (.iaload, 1) := by decide +kernel
theorem dX12_valueOf_46 : decode cX12_valueOf 46 = .ok (.goto 30, 3) := by decide +kernel
theorem dX12_valueOf_49 : decode cX12_valueOf 49 = .ok (.aload_n 0, 1) := by decide +kernel
theorem dX12_valueOf_50 : decode cX12_valueOf 50 = .ok (.getfield 395, 3) := by decide +kernel
theorem dX12_valueOf_53 : decode cX12_valueOf 53 = .ok (.sipush 214, 3) := by decide +kernel
theorem dX12_valueOf_56 : decode cX12_valueOf 56 = .ok (.bipush 60, 2) := by decide +kernel
theorem dX12_valueOf_58 : decode cX12_valueOf 58 = .ok (.aload_n 0, 1) := by decide +kernel
theorem dX12_valueOf_59 : decode cX12_valueOf 59 = .ok (.getfield 395, 3) := by decide +kernel
theorem dX12_valueOf_62 : decode cX12_valueOf 62 = .ok (.iconst 1, 1) := by decide +kernel
theorem dX12_valueOf_63 : decode cX12_valueOf 63 = .ok (.iaload, 1) := by decide +kernel
theorem dX12_valueOf_64 : decode cX12_valueOf 64 = .ok (.iconst 1, 1) := by decide +kernel
theorem dX12_valueOf_65 : decode cX12_valueOf 65 = .ok (.isub, 1) := by decide +kernel
theorem dX12_valueOf_66 : decode cX12_valueOf 66 = .ok (.imul, 1) := by decide +kernel
theorem dX12_valueOf_67 : decode cX12_valueOf 67 = .ok (.iadd, 1) := by decide +kernel
theorem dX12_valueOf_68 : decode cX12_valueOf 68 = .ok (.aload_n 0, 1) := by decide +kernel
theorem dX12_valueOf_69 : decode cX12_valueOf 69 = .ok (.getfield 89, 3) := by decide +kernel
theorem dX12_valueOf_72 : decode cX12_valueOf 72 = .ok (.iload_n 1, 1) := by decide +kernel
theorem dX12_valueOf_73 : decode cX12_valueOf 73 = .ok (.iaload, 1) := by decide +kernel
theorem dX12_valueOf_74 : decode cX12_valueOf 74 = .ok (.iadd, 1) := by decide +kernel
theorem dX12_valueOf_75 : decode cX12_valueOf 75 = .ok (.iaload, 1) := by decide +kernel
theorem dX12_valueOf_76 : decode cX12_valueOf 76 = .ok (.ireturn, 1) := by decide +kernel
theorem dX12_answer_0 : decode cX12_answer 0 = .ok (.aload_n 0, 1) := by decide +kernel
theorem dX12_answer_1 : decode cX12_answer 1 = .ok (.getfield 362, 3) := by decide +kernel
theorem dX12_answer_4 : decode cX12_answer 4 = .ok (.ifCond .ne 12, 3) := by decide +kernel
theorem dX12_answer_7 : decode cX12_answer 7 = .ok (.aload_n 0, 1) := by decide +kernel
theorem dX12_answer_8 : decode cX12_answer 8 = .ok (.aload_n 0, 1) := by decide +kernel
theorem dX12_answer_9 : decode cX12_answer 9 = .ok (.iload_n 1, 1) := by decide +kernel
theorem dX12_answer_10 : decode cX12_answer 10 = .ok (.invokevirtual 432, 3) := by decide +kernel
theorem dX12_answer_13 : decode cX12_answer 13 = .ok (.invokevirtual 563, 3) := by decide +kernel
theorem dX12_answer_16 : decode cX12_answer 16 = .ok (.iload_n 1, 1) := by decide +kernel
theorem dX12_answer_17 : decode cX12_answer 17 = .ok (.ireturn, 1) := by decide +kernel
theorem dX12_truth_0 : decode cX12_truth 0 = .ok (.iload_n 1, 1) := by decide +kernel
theorem dX12_truth_1 : decode cX12_truth 1 = .ok (.ifCond .eq 7, 3) := by decide +kernel
theorem dX12_truth_4 : decode cX12_truth 4 = .ok (.iconst 2, 1) := by decide +kernel
theorem dX12_truth_5 : decode cX12_truth 5 = .ok (.goto 4, 3) := by decide +kernel
theorem dX12_truth_8 : decode cX12_truth 8 = .ok (.iconst 1, 1) := by decide +kernel
theorem dX12_truth_9 : decode cX12_truth 9 = .ok (.ireturn, 1) := by decide +kernel
theorem dX12_wrongKind_0 : decode cX12_wrongKind 0 = .ok (.aload_n 0, 1) := by decide +kernel
theorem dX12_wrongKind_1 : decode cX12_wrongKind 1 = .ok (.iconst 1, 1) := by decide +kernel
theorem dX12_wrongKind_2 : decode cX12_wrongKind 2 = .ok (.invokevirtual 369, 3) := by decide +kernel
theorem dX12_wrongKind_5 : decode cX12_wrongKind 5 = .ok (.iconst 0, 1) := by decide +kernel
theorem dX12_wrongKind_6 : decode cX12_wrongKind 6 = .ok (.ireturn, 1) := by decide +kernel
theorem dX12_bindOne_0 : decode cX12_bindOne 0 = .ok (.aload_n 0, 1) := by decide +kernel
theorem dX12_bindOne_1 : decode cX12_bindOne 1 = .ok (.getfield 86, 3) := by decide +kernel
theorem dX12_bindOne_4 : decode cX12_bindOne 4 = .ok (.iload_n 1, 1) := by decide +kernel
theorem dX12_bindOne_5 : decode cX12_bindOne 5 = .ok (.iaload, 1) := by decide +kernel
theorem dX12_bindOne_6 : decode cX12_bindOne 6 = .ok (.ifCond .ne 20, 3) := by decide +kernel
theorem dX12_bindOne_9 : decode cX12_bindOne 9 = .ok (.aload_n 0, 1) := by decide +kernel
theorem dX12_bindOne_10 : decode cX12_bindOne 10 = .ok (.getfield 395, 3) := by decide +kernel
theorem dX12_bindOne_13 : decode cX12_bindOne 13 = .ok (.iconst 4, 1) := by decide +kernel
theorem dX12_bindOne_14 : decode cX12_bindOne 14 = .ok (.aload_n 0, 1) := by decide +kernel
theorem dX12_bindOne_15 : decode cX12_bindOne 15 = .ok (.getfield 89, 3) := by decide +kernel
theorem dX12_bindOne_18 : decode cX12_bindOne 18 = .ok (.iload_n 1, 1) := by decide +kernel
theorem dX12_bindOne_19 : decode cX12_bindOne 19 = .ok (.iaload, 1) := by decide +kernel
theorem dX12_bindOne_20 : decode cX12_bindOne 20 = .ok (.iadd, 1) := by decide +kernel
theorem dX12_bindOne_21 : decode cX12_bindOne 21 = .ok (.iload_n 2, 1) := by decide +kernel
theorem dX12_bindOne_22 : decode cX12_bindOne 22 = .ok (.iastore, 1) := by decide +kernel
theorem dX12_bindOne_23 : decode cX12_bindOne 23 = .ok (.goto 58, 3) := by decide +kernel
theorem dX12_bindOne_26 : decode cX12_bindOne 26 = .ok (.aload_n 0, 1) := by decide +kernel
theorem dX12_bindOne_27 : decode cX12_bindOne 27 = .ok (.getfield 557, 3) := by decide +kernel
theorem dX12_bindOne_30 : decode cX12_bindOne 30 = .ok (.ifCond .eq 23, 3) := by decide +kernel
theorem dX12_bindOne_33 : decode cX12_bindOne 33 = .ok (.aload_n 0, 1) := by decide +kernel
theorem dX12_bindOne_34 : decode cX12_bindOne 34 = .ok (.getfield 408, 3) := by decide +kernel
theorem dX12_bindOne_37 : decode cX12_bindOne 37 = .ok (.aload_n 0, 1) := by decide +kernel
theorem dX12_bindOne_38 : decode cX12_bindOne 38 = .ok (.getfield 560, 3) := by decide +kernel
theorem dX12_bindOne_41 : decode cX12_bindOne 41 = .ok (.aload_n 0, 1) := by decide +kernel
theorem dX12_bindOne_42 : decode cX12_bindOne 42 = .ok (.getfield 89, 3) := by decide +kernel
theorem dX12_bindOne_45 : decode cX12_bindOne 45 = .ok (.iload_n 1, 1) := by decide +kernel
theorem dX12_bindOne_46 : decode cX12_bindOne 46 = .ok (.iaload, 1) := by decide +kernel
theorem dX12_bindOne_47 : decode cX12_bindOne 47 = .ok (.iadd, 1) := by decide +kernel
theorem dX12_bindOne_48 : decode cX12_bindOne 48 = .ok (.iload_n 2, 1) := by decide +kernel
theorem dX12_bindOne_49 : decode cX12_bindOne 49 = .ok (.iastore, 1) := by decide +kernel
theorem dX12_bindOne_50 : decode cX12_bindOne 50 = .ok (.goto 31, 3) := by decide +kernel
theorem dX12_bindOne_53 : decode cX12_bindOne 53 = .ok (.aload_n 0, 1) := by decide +kernel
theorem dX12_bindOne_54 : decode cX12_bindOne 54 = .ok (.getfield 395, 3) := by decide +kernel
theorem dX12_bindOne_57 : decode cX12_bindOne 57 = .ok (.sipush 214, 3) := by decide +kernel
theorem dX12_bindOne_60 : decode cX12_bindOne 60 = .ok (.bipush 60, 2) := by decide +kernel
theorem dX12_bindOne_62 : decode cX12_bindOne 62 = .ok (.aload_n 0, 1) := by decide +kernel
theorem dX12_bindOne_63 : decode cX12_bindOne 63 = .ok (.getfield 395, 3) := by decide +kernel
theorem dX12_bindOne_66 : decode cX12_bindOne 66 = .ok (.iconst 1, 1) := by decide +kernel
theorem dX12_bindOne_67 : decode cX12_bindOne 67 = .ok (.iaload, 1) := by decide +kernel
theorem dX12_bindOne_68 : decode cX12_bindOne 68 = .ok (.iconst 1, 1) := by decide +kernel
theorem dX12_bindOne_69 : decode cX12_bindOne 69 = .ok (.isub, 1) := by decide +kernel
theorem dX12_bindOne_70 : decode cX12_bindOne 70 = .ok (.imul, 1) := by decide +kernel
theorem dX12_bindOne_71 : decode cX12_bindOne 71 = .ok (.iadd, 1) := by decide +kernel
theorem dX12_bindOne_72 : decode cX12_bindOne 72 = .ok (.aload_n 0, 1) := by decide +kernel
theorem dX12_bindOne_73 : decode cX12_bindOne 73 = .ok (.getfield 89, 3) := by decide +kernel
theorem dX12_bindOne_76 : decode cX12_bindOne 76 = .ok (.iload_n 1, 1) := by decide +kernel
theorem dX12_bindOne_77 : decode cX12_bindOne 77 = .ok (.iaload, 1) := by decide +kernel
theorem dX12_bindOne_78 : decode cX12_bindOne 78 = .ok (.iadd, 1) := by decide +kernel
theorem dX12_bindOne_79 : decode cX12_bindOne 79 = .ok (.iload_n 2, 1) := by decide +kernel
theorem dX12_bindOne_80 : decode cX12_bindOne 80 = .ok (.iastore, 1) := by decide +kernel
theorem dX12_bindOne_81 : decode cX12_bindOne 81 = .ok (.return_, 1) := by decide +kernel
theorem dX12_clear_0 : decode cX12_clear 0 = .ok (.iload_n 1, 1) := by decide +kernel
theorem dX12_clear_1 : decode cX12_clear 1 = .ok (.istore_n 2, 1) := by decide +kernel
theorem dX12_clear_2 : decode cX12_clear 2 = .ok (.iload_n 2, 1) := by decide +kernel
theorem dX12_clear_3 : decode cX12_clear 3 = .ok (.iconst (-1), 1) := by decide +kernel
theorem dX12_clear_4 : decode cX12_clear 4 = .ok (.if_icmp .eq 41, 3) := by decide +kernel
theorem dX12_clear_7 : decode cX12_clear 7 = .ok (.aload_n 0, 1) := by decide +kernel
theorem dX12_clear_8 : decode cX12_clear 8 = .ok (.getfield 89, 3) := by decide +kernel
theorem dX12_clear_11 : decode cX12_clear 11 = .ok (.iload_n 2, 1) := by decide +kernel
theorem dX12_clear_12 : decode cX12_clear 12 = .ok (.iaload, 1) := by decide +kernel
theorem dX12_clear_13 : decode cX12_clear 13 = .ok (.istore_n 3, 1) := by decide +kernel
theorem dX12_clear_14 : decode cX12_clear 14 = .ok (.iload_n 3, 1) := by decide +kernel
theorem dX12_clear_15 : decode cX12_clear 15 = .ok (.iconst (-1), 1) := by decide +kernel
theorem dX12_clear_16 : decode cX12_clear 16 = .ok (.if_icmp .eq 19, 3) := by decide +kernel
theorem dX12_clear_19 : decode cX12_clear 19 = .ok (.aload_n 0, 1) := by decide +kernel
theorem dX12_clear_20 : decode cX12_clear 20 = .ok (.iload_n 3, 1) := by decide +kernel
theorem dX12_clear_21 : decode cX12_clear 21 = .ok (.iconst 0, 1) := by decide +kernel
theorem dX12_clear_22 : decode cX12_clear 22 = .ok (.invokevirtual 694, 3) := by decide +kernel
theorem dX12_clear_25 : decode cX12_clear 25 = .ok (.aload_n 0, 1) := by decide +kernel
theorem dX12_clear_26 : decode cX12_clear 26 = .ok (.getfield 98, 3) := by decide +kernel
theorem dX12_clear_29 : decode cX12_clear 29 = .ok (.iload_n 3, 1) := by decide +kernel
theorem dX12_clear_30 : decode cX12_clear 30 = .ok (.iaload, 1) := by decide +kernel
theorem dX12_clear_31 : decode cX12_clear 31 = .ok (.istore_n 3, 1) := by decide +kernel
theorem dX12_clear_32 : decode cX12_clear 32 = .ok (.goto (-18), 3) := by decide +kernel
theorem dX12_clear_35 : decode cX12_clear 35 = .ok (.aload_n 0, 1) := by decide +kernel
theorem dX12_clear_36 : decode cX12_clear 36 = .ok (.getfield 98, 3) := by decide +kernel
theorem dX12_clear_39 : decode cX12_clear 39 = .ok (.iload_n 2, 1) := by decide +kernel
theorem dX12_clear_40 : decode cX12_clear 40 = .ok (.iaload, 1) := by decide +kernel
theorem dX12_clear_41 : decode cX12_clear 41 = .ok (.istore_n 2, 1) := by decide +kernel
theorem dX12_clear_42 : decode cX12_clear 42 = .ok (.goto (-40), 3) := by decide +kernel
theorem dX12_clear_45 : decode cX12_clear 45 = .ok (.return_, 1) := by decide +kernel
theorem dX12_isRow_0 : decode cX12_isRow 0 = .ok (.aload_n 0, 1) := by decide +kernel
theorem dX12_isRow_1 : decode cX12_isRow 1 = .ok (.iload_n 1, 1) := by decide +kernel
theorem dX12_isRow_2 : decode cX12_isRow 2 = .ok (.invokevirtual 545, 3) := by decide +kernel
theorem dX12_isRow_5 : decode cX12_isRow 5 = .ok (.iconst 4, 1) := by decide +kernel
theorem dX12_isRow_6 : decode cX12_isRow 6 = .ok (.if_icmp .lt 7, 3) := by decide +kernel
theorem dX12_isRow_9 : decode cX12_isRow 9 = .ok (.iconst 1, 1) := by decide +kernel
theorem dX12_isRow_10 : decode cX12_isRow 10 = .ok (.goto 4, 3) := by decide +kernel
theorem dX12_isRow_13 : decode cX12_isRow 13 = .ok (.iconst 0, 1) := by decide +kernel
theorem dX12_isRow_14 : decode cX12_isRow 14 = .ok (.ireturn, 1) := by decide +kernel
theorem dX12_bind_0 : decode cX12_bind 0 = .ok (.aload_n 0, 1) := by decide +kernel
theorem dX12_bind_1 : decode cX12_bind 1 = .ok (.getfield 86, 3) := by decide +kernel
theorem dX12_bind_4 : decode cX12_bind 4 = .ok (.iload_n 1, 1) := by decide +kernel
theorem dX12_bind_5 : decode cX12_bind 5 = .ok (.iaload, 1) := by decide +kernel
theorem dX12_bind_6 : decode cX12_bind 6 = .ok (.ifCond .ne 15, 3) := by decide +kernel
theorem dX12_bind_9 : decode cX12_bind 9 = .ok (.aload_n 0, 1) := by decide +kernel
theorem dX12_bind_10 : decode cX12_bind 10 = .ok (.aload_n 0, 1) := by decide +kernel
theorem dX12_bind_11 : decode cX12_bind 11 = .ok (.getfield 89, 3) := by decide +kernel
theorem dX12_bind_14 : decode cX12_bind 14 = .ok (.iload_n 1, 1) := by decide +kernel
theorem dX12_bind_15 : decode cX12_bind 15 = .ok (.iaload, 1) := by decide +kernel
theorem dX12_bind_16 : decode cX12_bind 16 = .ok (.iload_n 2, 1) := by decide +kernel
theorem dX12_bind_17 : decode cX12_bind 17 = .ok (.invokevirtual 694, 3) := by decide +kernel
theorem dX12_bind_20 : decode cX12_bind 20 = .ok (.return_, 1) := by decide +kernel
theorem dX12_bind_21 : decode cX12_bind 21 = .ok (.iconst 0, 1) := by decide +kernel
theorem dX12_bind_22 : decode cX12_bind 22 = .ok (.istore_n 3, 1) := by decide +kernel
theorem dX12_bind_23 : decode cX12_bind 23 = .ok (.aload_n 0, 1) := by decide +kernel
theorem dX12_bind_24 : decode cX12_bind 24 = .ok (.getfield 89, 3) := by decide +kernel
theorem dX12_bind_27 : decode cX12_bind 27 = .ok (.iload_n 1, 1) := by decide +kernel
theorem dX12_bind_28 : decode cX12_bind 28 = .ok (.iaload, 1) := by decide +kernel
theorem dX12_bind_29 : decode cX12_bind 29 = .ok (.istore 4, 2) := by decide +kernel
theorem dX12_bind_31 : decode cX12_bind 31 = .ok (.iload 4, 2) := by decide +kernel
theorem dX12_bind_33 : decode cX12_bind 33 = .ok (.iconst (-1), 1) := by decide +kernel
theorem dX12_bind_34 : decode cX12_bind 34 = .ok (.if_icmp .eq 18, 3) := by decide +kernel
theorem dX12_bind_37 : decode cX12_bind 37 = .ok (.iinc 3 1, 3) := by decide +kernel
theorem dX12_bind_40 : decode cX12_bind 40 = .ok (.aload_n 0, 1) := by decide +kernel
theorem dX12_bind_41 : decode cX12_bind 41 = .ok (.getfield 98, 3) := by decide +kernel
theorem dX12_bind_44 : decode cX12_bind 44 = .ok (.iload 4, 2) := by decide +kernel
theorem dX12_bind_46 : decode cX12_bind 46 = .ok (.iaload, 1) := by decide +kernel
theorem dX12_bind_47 : decode cX12_bind 47 = .ok (.istore 4, 2) := by decide +kernel
theorem dX12_bind_49 : decode cX12_bind 49 = .ok (.goto (-18), 3) := by decide +kernel
theorem dX12_bind_52 : decode cX12_bind 52 = .ok (.aload_n 0, 1) := by decide +kernel
theorem dX12_bind_53 : decode cX12_bind 53 = .ok (.iload_n 2, 1) := by decide +kernel
theorem dX12_bind_54 : decode cX12_bind 54 = .ok (.invokevirtual 545, 3) := by decide +kernel
theorem dX12_bind_57 : decode cX12_bind 57 = .ok (.iconst 5, 1) := by decide +kernel
theorem dX12_bind_58 : decode cX12_bind 58 = .ok (.if_icmp .ne 15, 3) := by decide +kernel
theorem dX12_bind_61 : decode cX12_bind 61 = .ok (.aload_n 0, 1) := by decide +kernel
theorem dX12_bind_62 : decode cX12_bind 62 = .ok (.getfield 372, 3) := by decide +kernel
theorem dX12_bind_65 : decode cX12_bind 65 = .ok (.iload_n 2, 1) := by decide +kernel
theorem dX12_bind_66 : decode cX12_bind 66 = .ok (.iconst 1, 1) := by decide +kernel
theorem dX12_bind_67 : decode cX12_bind 67 = .ok (.iadd, 1) := by decide +kernel
theorem dX12_bind_68 : decode cX12_bind 68 = .ok (.iaload, 1) := by decide +kernel
theorem dX12_bind_69 : decode cX12_bind 69 = .ok (.iload_n 3, 1) := by decide +kernel
theorem dX12_bind_70 : decode cX12_bind 70 = .ok (.if_icmp .le 9, 3) := by decide +kernel
theorem dX12_bind_73 : decode cX12_bind 73 = .ok (.aload_n 0, 1) := by decide +kernel
theorem dX12_bind_74 : decode cX12_bind 74 = .ok (.iconst 1, 1) := by decide +kernel
theorem dX12_bind_75 : decode cX12_bind 75 = .ok (.invokevirtual 369, 3) := by decide +kernel
theorem dX12_bind_78 : decode cX12_bind 78 = .ok (.return_, 1) := by decide +kernel
theorem dX12_bind_79 : decode cX12_bind 79 = .ok (.iconst 0, 1) := by decide +kernel
theorem dX12_bind_80 : decode cX12_bind 80 = .ok (.istore 4, 2) := by decide +kernel
theorem dX12_bind_82 : decode cX12_bind 82 = .ok (.aload_n 0, 1) := by decide +kernel
theorem dX12_bind_83 : decode cX12_bind 83 = .ok (.getfield 89, 3) := by decide +kernel
theorem dX12_bind_86 : decode cX12_bind 86 = .ok (.iload_n 1, 1) := by decide +kernel
theorem dX12_bind_87 : decode cX12_bind 87 = .ok (.iaload, 1) := by decide +kernel
theorem dX12_bind_88 : decode cX12_bind 88 = .ok (.istore 5, 2) := by decide +kernel
theorem dX12_bind_90 : decode cX12_bind 90 = .ok (.iload 5, 2) := by decide +kernel
theorem dX12_bind_92 : decode cX12_bind 92 = .ok (.iconst (-1), 1) := by decide +kernel
theorem dX12_bind_93 : decode cX12_bind 93 = .ok (.if_icmp .eq 52, 3) := by decide +kernel
theorem dX12_bind_96 : decode cX12_bind 96 = .ok (.aload_n 0, 1) := by decide +kernel
theorem dX12_bind_97 : decode cX12_bind 97 = .ok (.iload 5, 2) := by decide +kernel
theorem dX12_bind_99 : decode cX12_bind 99 = .ok (.iload 4, 2) := by decide +kernel
theorem dX12_bind_101 : decode cX12_bind 101 = .ok (.aload_n 0, 1) := by decide +kernel
theorem dX12_bind_102 : decode cX12_bind 102 = .ok (.getfield 372, 3) := by decide +kernel
theorem dX12_bind_105 : decode cX12_bind 105 = .ok (.iload_n 2, 1) := by decide +kernel
theorem dX12_bind_106 : decode cX12_bind 106 = .ok (.iconst 1, 1) := by decide +kernel
theorem dX12_bind_107 : decode cX12_bind 107 = .ok (.iadd, 1) := by decide +kernel
theorem dX12_bind_108 : decode cX12_bind 108 = .ok (.iaload, 1) := by decide +kernel
theorem dX12_bind_109 : decode cX12_bind 109 = .ok (.if_icmp .ge 17, 3) := by decide +kernel
theorem dX12_bind_112 : decode cX12_bind 112 = .ok (.aload_n 0, 1) := by decide +kernel
theorem dX12_bind_113 : decode cX12_bind 113 = .ok (.getfield 372, 3) := by decide +kernel
theorem dX12_bind_116 : decode cX12_bind 116 = .ok (.iload_n 2, 1) := by decide +kernel
theorem dX12_bind_117 : decode cX12_bind 117 = .ok (.iconst 4, 1) := by decide +kernel
theorem dX12_bind_118 : decode cX12_bind 118 = .ok (.iadd, 1) := by decide +kernel
theorem dX12_bind_119 : decode cX12_bind 119 = .ok (.iload 4, 2) := by decide +kernel
theorem dX12_bind_121 : decode cX12_bind 121 = .ok (.iadd, 1) := by decide +kernel
theorem dX12_bind_122 : decode cX12_bind 122 = .ok (.iaload, 1) := by decide +kernel
theorem dX12_bind_123 : decode cX12_bind 123 = .ok (.goto 4, 3) := by decide +kernel
theorem dX12_bind_126 : decode cX12_bind 126 = .ok (.iconst 0, 1) := by decide +kernel
theorem dX12_bind_127 : decode cX12_bind 127 = .ok (.invokevirtual 694, 3) := by decide +kernel
theorem dX12_bind_130 : decode cX12_bind 130 = .ok (.iinc 4 1, 3) := by decide +kernel
theorem dX12_bind_133 : decode cX12_bind 133 = .ok (.aload_n 0, 1) := by decide +kernel
theorem dX12_bind_134 : decode cX12_bind 134 = .ok (.getfield 98, 3) := by decide +kernel
theorem dX12_bind_137 : decode cX12_bind 137 = .ok (.iload 5, 2) := by decide +kernel
theorem dX12_bind_139 : decode cX12_bind 139 = .ok (.iaload, 1) := by decide +kernel
theorem dX12_bind_140 : decode cX12_bind 140 = .ok (.istore 5, 2) := by decide +kernel
theorem dX12_bind_142 : decode cX12_bind 142 = .ok (.goto (-52), 3) := by decide +kernel
theorem dX12_bind_145 : decode cX12_bind 145 = .ok (.return_, 1) := by decide +kernel
theorem dX12_memberAt_0 : decode cX12_memberAt 0 = .ok (.aload_n 0, 1) := by decide +kernel
theorem dX12_memberAt_1 : decode cX12_memberAt 1 = .ok (.getfield 372, 3) := by decide +kernel
theorem dX12_memberAt_4 : decode cX12_memberAt 4 = .ok (.iload_n 1, 1) := by decide +kernel
theorem dX12_memberAt_5 : decode cX12_memberAt 5 = .ok (.iaload, 1) := by decide +kernel
theorem dX12_memberAt_6 : decode cX12_memberAt 6 = .ok (.iconst 4, 1) := by decide +kernel
theorem dX12_memberAt_7 : decode cX12_memberAt 7 = .ok (.if_icmp .ne 20, 3) := by decide +kernel
theorem dX12_memberAt_10 : decode cX12_memberAt 10 = .ok (.aload_n 0, 1) := by decide +kernel
theorem dX12_memberAt_11 : decode cX12_memberAt 11 = .ok (.aload_n 0, 1) := by decide +kernel
theorem dX12_memberAt_12 : decode cX12_memberAt 12 = .ok (.getfield 372, 3) := by decide +kernel
theorem dX12_memberAt_15 : decode cX12_memberAt 15 = .ok (.iload_n 1, 1) := by decide +kernel
theorem dX12_memberAt_16 : decode cX12_memberAt 16 = .ok (.iconst 4, 1) := by decide +kernel
theorem dX12_memberAt_17 : decode cX12_memberAt 17 = .ok (.iadd, 1) := by decide +kernel
theorem dX12_memberAt_18 : decode cX12_memberAt 18 = .ok (.iload_n 2, 1) := by decide +kernel
theorem dX12_memberAt_19 : decode cX12_memberAt 19 = .ok (.iadd, 1) := by decide +kernel
theorem dX12_memberAt_20 : decode cX12_memberAt 20 = .ok (.iaload, 1) := by decide +kernel
theorem dX12_memberAt_21 : decode cX12_memberAt 21 = .ok (.invokevirtual 691, 3) := by decide +kernel
theorem dX12_memberAt_24 : decode cX12_memberAt 24 = .ok (.goto 13, 3) := by decide +kernel
theorem dX12_memberAt_27 : decode cX12_memberAt 27 = .ok (.aload_n 0, 1) := by decide +kernel
theorem dX12_memberAt_28 : decode cX12_memberAt 28 = .ok (.getfield 372, 3) := by decide +kernel
theorem dX12_memberAt_31 : decode cX12_memberAt 31 = .ok (.iload_n 1, 1) := by decide +kernel
theorem dX12_memberAt_32 : decode cX12_memberAt 32 = .ok (.iconst 4, 1) := by decide +kernel
theorem dX12_memberAt_33 : decode cX12_memberAt 33 = .ok (.iadd, 1) := by decide +kernel
theorem dX12_memberAt_34 : decode cX12_memberAt 34 = .ok (.iload_n 2, 1) := by decide +kernel
theorem dX12_memberAt_35 : decode cX12_memberAt 35 = .ok (.iadd, 1) := by decide +kernel
theorem dX12_memberAt_36 : decode cX12_memberAt 36 = .ok (.iaload, 1) := by decide +kernel
theorem dX12_memberAt_37 : decode cX12_memberAt 37 = .ok (.ireturn, 1) := by decide +kernel
theorem dX12_stepIter_0 : decode cX12_stepIter 0 = .ok (.aload_n 0, 1) := by decide +kernel
theorem dX12_stepIter_1 : decode cX12_stepIter 1 = .ok (.getfield 411, 3) := by decide +kernel
theorem dX12_stepIter_4 : decode cX12_stepIter 4 = .ok (.aload_n 0, 1) := by decide +kernel
theorem dX12_stepIter_5 : decode cX12_stepIter 5 = .ok (.getfield 414, 3) := by decide +kernel
theorem dX12_stepIter_8 : decode cX12_stepIter 8 = .ok (.iconst 1, 1) := by decide +kernel
theorem dX12_stepIter_9 : decode cX12_stepIter 9 = .ok (.isub, 1) := by decide +kernel
theorem dX12_stepIter_10 : decode cX12_stepIter 10 = .ok (.iaload, 1) := by decide +kernel
theorem dX12_stepIter_11 : decode cX12_stepIter 11 = .ok (.istore_n 2, 1) := by decide +kernel
theorem dX12_stepIter_12 : decode cX12_stepIter 12 = .ok (.aload_n 0, 1) := by decide +kernel
theorem dX12_stepIter_13 : decode cX12_stepIter 13 = .ok (.getfield 700, 3) := by decide +kernel
theorem dX12_stepIter_16 : decode cX12_stepIter 16 = .ok (.aload_n 0, 1) := by decide +kernel
theorem dX12_stepIter_17 : decode cX12_stepIter 17 = .ok (.getfield 414, 3) := by decide +kernel
theorem dX12_stepIter_20 : decode cX12_stepIter 20 = .ok (.iconst 1, 1) := by decide +kernel
theorem dX12_stepIter_21 : decode cX12_stepIter 21 = .ok (.isub, 1) := by decide +kernel
theorem dX12_stepIter_22 : decode cX12_stepIter 22 = .ok (.iaload, 1) := by decide +kernel
theorem dX12_stepIter_23 : decode cX12_stepIter 23 = .ok (.istore_n 3, 1) := by decide +kernel
theorem dX12_stepIter_24 : decode cX12_stepIter 24 = .ok (.iload_n 3, 1) := by decide +kernel
theorem dX12_stepIter_25 : decode cX12_stepIter 25 = .ok (.aload_n 0, 1) := by decide +kernel
theorem dX12_stepIter_26 : decode cX12_stepIter 26 = .ok (.getfield 372, 3) := by decide +kernel
theorem dX12_stepIter_29 : decode cX12_stepIter 29 = .ok (.iload_n 2, 1) := by decide +kernel
theorem dX12_stepIter_30 : decode cX12_stepIter 30 = .ok (.iconst 1, 1) := by decide +kernel
theorem dX12_stepIter_31 : decode cX12_stepIter 31 = .ok (.iadd, 1) := by decide +kernel
theorem dX12_stepIter_32 : decode cX12_stepIter 32 = .ok (.iaload, 1) := by decide +kernel
theorem dX12_stepIter_33 : decode cX12_stepIter 33 = .ok (.if_icmp .ne 5, 3) := by decide +kernel
theorem dX12_stepIter_36 : decode cX12_stepIter 36 = .ok (.iconst 0, 1) := by decide +kernel
theorem dX12_stepIter_37 : decode cX12_stepIter 37 = .ok (.ireturn, 1) := by decide +kernel
theorem dX12_stepIter_38 : decode cX12_stepIter 38 = .ok (.aload_n 0, 1) := by decide +kernel
theorem dX12_stepIter_39 : decode cX12_stepIter 39 = .ok (.getfield 700, 3) := by decide +kernel
theorem dX12_stepIter_42 : decode cX12_stepIter 42 = .ok (.aload_n 0, 1) := by decide +kernel
theorem dX12_stepIter_43 : decode cX12_stepIter 43 = .ok (.getfield 414, 3) := by decide +kernel
theorem dX12_stepIter_46 : decode cX12_stepIter 46 = .ok (.iconst 1, 1) := by decide +kernel
theorem dX12_stepIter_47 : decode cX12_stepIter 47 = .ok (.isub, 1) := by decide +kernel
theorem dX12_stepIter_48 : decode cX12_stepIter 48 = .ok (.iload_n 3, 1) := by decide +kernel
theorem dX12_stepIter_49 : decode cX12_stepIter 49 = .ok (.iconst 1, 1) := by decide +kernel
theorem dX12_stepIter_50 : decode cX12_stepIter 50 = .ok (.iadd, 1) := by decide +kernel
theorem dX12_stepIter_51 : decode cX12_stepIter 51 = .ok (.iastore, 1) := by decide +kernel
theorem dX12_stepIter_52 : decode cX12_stepIter 52 = .ok (.aload_n 0, 1) := by decide +kernel
theorem dX12_stepIter_53 : decode cX12_stepIter 53 = .ok (.iconst 1, 1) := by decide +kernel
theorem dX12_stepIter_54 : decode cX12_stepIter 54 = .ok (.invokevirtual 563, 3) := by decide +kernel
theorem dX12_stepIter_57 : decode cX12_stepIter 57 = .ok (.aload_n 0, 1) := by decide +kernel
theorem dX12_stepIter_58 : decode cX12_stepIter 58 = .ok (.getfield 362, 3) := by decide +kernel
theorem dX12_stepIter_61 : decode cX12_stepIter 61 = .ok (.ifCond .ne 14, 3) := by decide +kernel
theorem dX12_stepIter_64 : decode cX12_stepIter 64 = .ok (.aload_n 0, 1) := by decide +kernel
theorem dX12_stepIter_65 : decode cX12_stepIter 65 = .ok (.iload_n 1, 1) := by decide +kernel
theorem dX12_stepIter_66 : decode cX12_stepIter 66 = .ok (.aload_n 0, 1) := by decide +kernel
theorem dX12_stepIter_67 : decode cX12_stepIter 67 = .ok (.iload_n 2, 1) := by decide +kernel
theorem dX12_stepIter_68 : decode cX12_stepIter 68 = .ok (.iload_n 3, 1) := by decide +kernel
theorem dX12_stepIter_69 : decode cX12_stepIter 69 = .ok (.invokevirtual 703, 3) := by decide +kernel
theorem dX12_stepIter_72 : decode cX12_stepIter 72 = .ok (.invokevirtual 706, 3) := by decide +kernel
theorem dX12_stepIter_75 : decode cX12_stepIter 75 = .ok (.aload_n 0, 1) := by decide +kernel
theorem dX12_stepIter_76 : decode cX12_stepIter 76 = .ok (.getfield 362, 3) := by decide +kernel
theorem dX12_stepIter_79 : decode cX12_stepIter 79 = .ok (.ifCond .ne 7, 3) := by decide +kernel
theorem dX12_stepIter_82 : decode cX12_stepIter 82 = .ok (.iconst 1, 1) := by decide +kernel
theorem dX12_stepIter_83 : decode cX12_stepIter 83 = .ok (.goto 4, 3) := by decide +kernel
theorem dX12_stepIter_86 : decode cX12_stepIter 86 = .ok (.iconst 0, 1) := by decide +kernel
theorem dX12_stepIter_87 : decode cX12_stepIter 87 = .ok (.ireturn, 1) := by decide +kernel
theorem dX12_newAtom_0 : decode cX12_newAtom 0 = .ok (.aload_n 0, 1) := by decide +kernel
theorem dX12_newAtom_1 : decode cX12_newAtom 1 = .ok (.getfield 681, 3) := by decide +kernel
theorem dX12_newAtom_4 : decode cX12_newAtom 4 = .ok (.ldc_w 684, 3) := by decide +kernel
theorem dX12_newAtom_7 : decode cX12_newAtom 7 = .ok (.if_icmp .ne 11, 3) := by decide +kernel
theorem dX12_newAtom_10 : decode cX12_newAtom 10 = .ok (.aload_n 0, 1) := by decide +kernel
theorem dX12_newAtom_11 : decode cX12_newAtom 11 = .ok (.bipush 6, 2) := by decide +kernel
theorem dX12_newAtom_13 : decode cX12_newAtom 13 = .ok (.invokevirtual 369, 3) := by decide +kernel
theorem dX12_newAtom_16 : decode cX12_newAtom 16 = .ok (.iconst 0, 1) := by decide +kernel
theorem dX12_newAtom_17 : decode cX12_newAtom 17 = .ok (.ireturn, 1) := by decide +kernel
theorem dX12_newAtom_18 : decode cX12_newAtom 18 = .ok (.aload_n 0, 1) := by decide +kernel
theorem dX12_newAtom_19 : decode cX12_newAtom 19 = .ok (.dup, 1) := by decide +kernel
theorem dX12_newAtom_20 : decode cX12_newAtom 20 = .ok (.getfield 681, 3) := by decide +kernel
theorem dX12_newAtom_23 : decode cX12_newAtom 23 = .ok (.iconst 1, 1) := by decide +kernel
theorem dX12_newAtom_24 : decode cX12_newAtom 24 = .ok (.iadd, 1) := by decide +kernel
theorem dX12_newAtom_25 : decode cX12_newAtom 25 = .ok (.putfield 681, 3) := by decide +kernel
theorem dX12_newAtom_28 : decode cX12_newAtom 28 = .ok (.aload_n 0, 1) := by decide +kernel
theorem dX12_newAtom_29 : decode cX12_newAtom 29 = .ok (.iconst 3, 1) := by decide +kernel
theorem dX12_newAtom_30 : decode cX12_newAtom 30 = .ok (.iconst 1, 1) := by decide +kernel
theorem dX12_newAtom_31 : decode cX12_newAtom 31 = .ok (.invokevirtual 429, 3) := by decide +kernel
theorem dX12_newAtom_34 : decode cX12_newAtom 34 = .ok (.istore_n 1, 1) := by decide +kernel
theorem dX12_newAtom_35 : decode cX12_newAtom 35 = .ok (.aload_n 0, 1) := by decide +kernel
theorem dX12_newAtom_36 : decode cX12_newAtom 36 = .ok (.getfield 362, 3) := by decide +kernel
theorem dX12_newAtom_39 : decode cX12_newAtom 39 = .ok (.ifCond .le 5, 3) := by decide +kernel
theorem dX12_newAtom_42 : decode cX12_newAtom 42 = .ok (.iconst 0, 1) := by decide +kernel
theorem dX12_newAtom_43 : decode cX12_newAtom 43 = .ok (.ireturn, 1) := by decide +kernel
theorem dX12_newAtom_44 : decode cX12_newAtom 44 = .ok (.aload_n 0, 1) := by decide +kernel
theorem dX12_newAtom_45 : decode cX12_newAtom 45 = .ok (.getfield 372, 3) := by decide +kernel
theorem dX12_newAtom_48 : decode cX12_newAtom 48 = .ok (.iload_n 1, 1) := by decide +kernel
theorem dX12_newAtom_49 : decode cX12_newAtom 49 = .ok (.iconst 4, 1) := by decide +kernel
theorem dX12_newAtom_50 : decode cX12_newAtom 50 = .ok (.iadd, 1) := by decide +kernel
theorem dX12_newAtom_51 : decode cX12_newAtom 51 = .ok (.aload_n 0, 1) := by decide +kernel
theorem dX12_newAtom_52 : decode cX12_newAtom 52 = .ok (.getfield 681, 3) := by decide +kernel
theorem dX12_newAtom_55 : decode cX12_newAtom 55 = .ok (.iastore, 1) := by decide +kernel
theorem dX12_newAtom_56 : decode cX12_newAtom 56 = .ok (.iload_n 1, 1) := by decide +kernel
theorem dX12_newAtom_57 : decode cX12_newAtom 57 = .ok (.ireturn, 1) := by decide +kernel
theorem dX12_other_0 : decode cX12_other 0 = .ok (.aload_n 0, 1) := by decide +kernel
theorem dX12_other_1 : decode cX12_other 1 = .ok (.iload_n 1, 1) := by decide +kernel
theorem dX12_other_2 : decode cX12_other 2 = .ok (.invokevirtual 488, 3) := by decide +kernel
theorem dX12_other_5 : decode cX12_other 5 = .ok (.aload_n 0, 1) := by decide +kernel
theorem dX12_other_6 : decode cX12_other 6 = .ok (.aload_n 0, 1) := by decide +kernel
theorem dX12_other_7 : decode cX12_other 7 = .ok (.getfield 466, 3) := by decide +kernel
theorem dX12_other_10 : decode cX12_other 10 = .ok (.putfield 478, 3) := by decide +kernel
theorem dX12_other_13 : decode cX12_other 13 = .ok (.iconst 0, 1) := by decide +kernel
theorem dX12_other_14 : decode cX12_other 14 = .ok (.istore_n 2, 1) := by decide +kernel
theorem dX12_other_15 : decode cX12_other 15 = .ok (.iload_n 2, 1) := by decide +kernel
theorem dX12_other_16 : decode cX12_other 16 = .ok (.aload_n 0, 1) := by decide +kernel
theorem dX12_other_17 : decode cX12_other 17 = .ok (.getfield 466, 3) := by decide +kernel
theorem dX12_other_20 : decode cX12_other 20 = .ok (.if_icmp .ge 21, 3) := by decide +kernel
theorem dX12_other_23 : decode cX12_other 23 = .ok (.aload_n 0, 1) := by decide +kernel
theorem dX12_other_24 : decode cX12_other 24 = .ok (.getfield 481, 3) := by decide +kernel
theorem dX12_other_27 : decode cX12_other 27 = .ok (.iload_n 2, 1) := by decide +kernel
theorem dX12_other_28 : decode cX12_other 28 = .ok (.aload_n 0, 1) := by decide +kernel
theorem dX12_other_29 : decode cX12_other 29 = .ok (.getfield 469, 3) := by decide +kernel
theorem dX12_other_32 : decode cX12_other 32 = .ok (.iload_n 2, 1) := by decide +kernel
theorem dX12_other_33 : decode cX12_other 33 = .ok (.iaload, 1) := by decide +kernel
theorem dX12_other_34 : decode cX12_other 34 = .ok (.iastore, 1) := by decide +kernel
theorem dX12_other_35 : decode cX12_other 35 = .ok (.iinc 2 1, 3) := by decide +kernel
theorem dX12_other_38 : decode cX12_other 38 = .ok (.goto (-23), 3) := by decide +kernel
theorem dX12_other_41 : decode cX12_other 41 = .ok (.aload_n 0, 1) := by decide +kernel
theorem dX12_other_42 : decode cX12_other 42 = .ok (.aload_n 0, 1) := by decide +kernel
theorem dX12_other_43 : decode cX12_other 43 = .ok (.iload_n 1, 1) := by decide +kernel
theorem dX12_other_44 : decode cX12_other 44 = .ok (.invokevirtual 463, 3) := by decide +kernel
theorem dX12_other_47 : decode cX12_other 47 = .ok (.ineg, 1) := by decide +kernel
theorem dX12_other_48 : decode cX12_other 48 = .ok (.invokevirtual 485, 3) := by decide +kernel
theorem dX12_other_51 : decode cX12_other 51 = .ok (.ireturn, 1) := by decide +kernel
theorem dX12_isMap_0 : decode cX12_isMap 0 = .ok (.aload_n 0, 1) := by decide +kernel
theorem dX12_isMap_1 : decode cX12_isMap 1 = .ok (.iload_n 1, 1) := by decide +kernel
theorem dX12_isMap_2 : decode cX12_isMap 2 = .ok (.invokevirtual 545, 3) := by decide +kernel
theorem dX12_isMap_5 : decode cX12_isMap 5 = .ok (.bipush 6, 2) := by decide +kernel
theorem dX12_isMap_7 : decode cX12_isMap 7 = .ok (.if_icmp .ne 7, 3) := by decide +kernel
theorem dX12_isMap_10 : decode cX12_isMap 10 = .ok (.iconst 1, 1) := by decide +kernel
theorem dX12_isMap_11 : decode cX12_isMap 11 = .ok (.goto 4, 3) := by decide +kernel
theorem dX12_isMap_14 : decode cX12_isMap 14 = .ok (.iconst 0, 1) := by decide +kernel
theorem dX12_isMap_15 : decode cX12_isMap 15 = .ok (.istore_n 2, 1) := by decide +kernel
theorem dX12_isMap_16 : decode cX12_isMap 16 = .ok (.iconst 0, 1) := by decide +kernel
theorem dX12_isMap_17 : decode cX12_isMap 17 = .ok (.istore_n 3, 1) := by decide +kernel
theorem dX12_isMap_18 : decode cX12_isMap 18 = .ok (.iload_n 2, 1) := by decide +kernel
theorem dX12_isMap_19 : decode cX12_isMap 19 = .ok (.ifCond .eq 62, 3) := by decide +kernel
theorem dX12_isMap_22 : decode cX12_isMap 22 = .ok (.iload_n 3, 1) := by decide +kernel
theorem dX12_isMap_23 : decode cX12_isMap 23 = .ok (.aload_n 0, 1) := by decide +kernel
theorem dX12_isMap_24 : decode cX12_isMap 24 = .ok (.getfield 372, 3) := by decide +kernel
theorem dX12_isMap_27 : decode cX12_isMap 27 = .ok (.iload_n 1, 1) := by decide +kernel
theorem dX12_isMap_28 : decode cX12_isMap 28 = .ok (.iconst 1, 1) := by decide +kernel
theorem dX12_isMap_29 : decode cX12_isMap 29 = .ok (.iadd, 1) := by decide +kernel
theorem dX12_isMap_30 : decode cX12_isMap 30 = .ok (.iaload, 1) := by decide +kernel
theorem dX12_isMap_31 : decode cX12_isMap 31 = .ok (.if_icmp .ge 50, 3) := by decide +kernel
theorem dX12_isMap_34 : decode cX12_isMap 34 = .ok (.aload_n 0, 1) := by decide +kernel
theorem dX12_isMap_35 : decode cX12_isMap 35 = .ok (.getfield 372, 3) := by decide +kernel
theorem dX12_isMap_38 : decode cX12_isMap 38 = .ok (.iload_n 1, 1) := by decide +kernel
theorem dX12_isMap_39 : decode cX12_isMap 39 = .ok (.iconst 4, 1) := by decide +kernel
theorem dX12_isMap_40 : decode cX12_isMap 40 = .ok (.iadd, 1) := by decide +kernel
theorem dX12_isMap_41 : decode cX12_isMap 41 = .ok (.iload_n 3, 1) := by decide +kernel
theorem dX12_isMap_42 : decode cX12_isMap 42 = .ok (.iadd, 1) := by decide +kernel
theorem dX12_isMap_43 : decode cX12_isMap 43 = .ok (.iaload, 1) := by decide +kernel
theorem dX12_isMap_44 : decode cX12_isMap 44 = .ok (.istore 4, 2) := by decide +kernel
theorem dX12_isMap_46 : decode cX12_isMap 46 = .ok (.aload_n 0, 1) := by decide +kernel
theorem dX12_isMap_47 : decode cX12_isMap 47 = .ok (.iload 4, 2) := by decide +kernel
theorem dX12_isMap_49 : decode cX12_isMap 49 = .ok (.invokevirtual 545, 3) := by decide +kernel
theorem dX12_isMap_52 : decode cX12_isMap 52 = .ok (.iconst 5, 1) := by decide +kernel
theorem dX12_isMap_53 : decode cX12_isMap 53 = .ok (.if_icmp .ne 20, 3) := by decide +kernel
theorem dX12_isMap_56 : decode cX12_isMap 56 = .ok (.aload_n 0, 1) := by decide +kernel
theorem dX12_isMap_57 : decode cX12_isMap 57 = .ok (.getfield 372, 3) := by decide +kernel
theorem dX12_isMap_60 : decode cX12_isMap 60 = .ok (.iload 4, 2) := by decide +kernel
theorem dX12_isMap_62 : decode cX12_isMap 62 = .ok (.iconst 1, 1) := by decide +kernel
theorem dX12_isMap_63 : decode cX12_isMap 63 = .ok (.iadd, 1) := by decide +kernel
theorem dX12_isMap_64 : decode cX12_isMap 64 = .ok (.iaload, 1) := by decide +kernel
theorem dX12_isMap_65 : decode cX12_isMap 65 = .ok (.iconst 2, 1) := by decide +kernel
theorem dX12_isMap_66 : decode cX12_isMap 66 = .ok (.if_icmp .ne 7, 3) := by decide +kernel
theorem dX12_isMap_69 : decode cX12_isMap 69 = .ok (.iconst 1, 1) := by decide +kernel
theorem dX12_isMap_70 : decode cX12_isMap 70 = .ok (.goto 4, 3) := by decide +kernel
theorem dX12_isMap_73 : decode cX12_isMap 73 = .ok (.iconst 0, 1) := by decide +kernel
theorem dX12_isMap_74 : decode cX12_isMap 74 = .ok (.istore_n 2, 1) := by decide +kernel
theorem dX12_isMap_75 : decode cX12_isMap 75 = .ok (.iinc 3 1, 3) := by decide +kernel
theorem dX12_isMap_78 : decode cX12_isMap 78 = .ok (.goto (-60), 3) := by decide +kernel
theorem dX12_isMap_81 : decode cX12_isMap 81 = .ok (.iload_n 2, 1) := by decide +kernel
theorem dX12_isMap_82 : decode cX12_isMap 82 = .ok (.ireturn, 1) := by decide +kernel
theorem dX12_negative_0 : decode cX12_negative 0 = .ok (.aload_n 0, 1) := by decide +kernel
theorem dX12_negative_1 : decode cX12_negative 1 = .ok (.iload_n 1, 1) := by decide +kernel
theorem dX12_negative_2 : decode cX12_negative 2 = .ok (.invokevirtual 545, 3) := by decide +kernel
theorem dX12_negative_5 : decode cX12_negative 5 = .ok (.iconst 2, 1) := by decide +kernel
theorem dX12_negative_6 : decode cX12_negative 6 = .ok (.if_icmp .eq 10, 3) := by decide +kernel
theorem dX12_negative_9 : decode cX12_negative 9 = .ok (.aload_n 0, 1) := by decide +kernel
theorem dX12_negative_10 : decode cX12_negative 10 = .ok (.invokevirtual 666, 3) := by decide +kernel
theorem dX12_negative_13 : decode cX12_negative 13 = .ok (.goto 8, 3) := by decide +kernel
theorem dX12_negative_16 : decode cX12_negative 16 = .ok (.aload_n 0, 1) := by decide +kernel
theorem dX12_negative_17 : decode cX12_negative 17 = .ok (.iload_n 1, 1) := by decide +kernel
theorem dX12_negative_18 : decode cX12_negative 18 = .ok (.invokevirtual 669, 3) := by decide +kernel
theorem dX12_negative_21 : decode cX12_negative 21 = .ok (.ireturn, 1) := by decide +kernel
theorem dX12_turned_0 : decode cX12_turned 0 = .ok (.iload_n 1, 1) := by decide +kernel
theorem dX12_turned_1 : decode cX12_turned 1 = .ok (.iconst 2, 1) := by decide +kernel
theorem dX12_turned_2 : decode cX12_turned 2 = .ok (.if_icmp .eq 14, 3) := by decide +kernel
theorem dX12_turned_5 : decode cX12_turned 5 = .ok (.iload_n 1, 1) := by decide +kernel
theorem dX12_turned_6 : decode cX12_turned 6 = .ok (.iconst 1, 1) := by decide +kernel
theorem dX12_turned_7 : decode cX12_turned 7 = .ok (.if_icmp .eq 9, 3) := by decide +kernel
theorem dX12_turned_10 : decode cX12_turned 10 = .ok (.aload_n 0, 1) := by decide +kernel
theorem dX12_turned_11 : decode cX12_turned 11 = .ok (.bipush 9, 2) := by decide +kernel
theorem dX12_turned_13 : decode cX12_turned 13 = .ok (.invokevirtual 369, 3) := by decide +kernel
theorem dX12_turned_16 : decode cX12_turned 16 = .ok (.aload_n 0, 1) := by decide +kernel
theorem dX12_turned_17 : decode cX12_turned 17 = .ok (.iload_n 1, 1) := by decide +kernel
theorem dX12_turned_18 : decode cX12_turned 18 = .ok (.iconst 1, 1) := by decide +kernel
theorem dX12_turned_19 : decode cX12_turned 19 = .ok (.if_icmp .ne 7, 3) := by decide +kernel
theorem dX12_turned_22 : decode cX12_turned 22 = .ok (.iconst 1, 1) := by decide +kernel
theorem dX12_turned_23 : decode cX12_turned 23 = .ok (.goto 4, 3) := by decide +kernel
theorem dX12_turned_26 : decode cX12_turned 26 = .ok (.iconst 0, 1) := by decide +kernel
theorem dX12_turned_27 : decode cX12_turned 27 = .ok (.invokevirtual 646, 3) := by decide +kernel
theorem dX12_turned_30 : decode cX12_turned 30 = .ok (.ireturn, 1) := by decide +kernel
theorem dX12_isTrue_0 : decode cX12_isTrue 0 = .ok (.aload_n 0, 1) := by decide +kernel
theorem dX12_isTrue_1 : decode cX12_isTrue 1 = .ok (.invokevirtual 572, 3) := by decide +kernel
theorem dX12_isTrue_4 : decode cX12_isTrue 4 = .ok (.istore_n 1, 1) := by decide +kernel
theorem dX12_isTrue_5 : decode cX12_isTrue 5 = .ok (.iload_n 1, 1) := by decide +kernel
theorem dX12_isTrue_6 : decode cX12_isTrue 6 = .ok (.iconst 2, 1) := by decide +kernel
theorem dX12_isTrue_7 : decode cX12_isTrue 7 = .ok (.if_icmp .eq 14, 3) := by decide +kernel
theorem dX12_isTrue_10 : decode cX12_isTrue 10 = .ok (.iload_n 1, 1) := by decide +kernel
theorem dX12_isTrue_11 : decode cX12_isTrue 11 = .ok (.iconst 1, 1) := by decide +kernel
theorem dX12_isTrue_12 : decode cX12_isTrue 12 = .ok (.if_icmp .eq 9, 3) := by decide +kernel
theorem dX12_isTrue_15 : decode cX12_isTrue 15 = .ok (.aload_n 0, 1) := by decide +kernel
theorem dX12_isTrue_16 : decode cX12_isTrue 16 = .ok (.bipush 9, 2) := by decide +kernel
theorem dX12_isTrue_18 : decode cX12_isTrue 18 = .ok (.invokevirtual 369, 3) := by decide +kernel
theorem dX12_isTrue_21 : decode cX12_isTrue 21 = .ok (.iload_n 1, 1) := by decide +kernel
theorem dX12_isTrue_22 : decode cX12_isTrue 22 = .ok (.iconst 2, 1) := by decide +kernel
theorem dX12_isTrue_23 : decode cX12_isTrue 23 = .ok (.if_icmp .ne 7, 3) := by decide +kernel
theorem dX12_isTrue_26 : decode cX12_isTrue 26 = .ok (.iconst 1, 1) := by decide +kernel
theorem dX12_isTrue_27 : decode cX12_isTrue 27 = .ok (.goto 4, 3) := by decide +kernel
theorem dX12_isTrue_30 : decode cX12_isTrue 30 = .ok (.iconst 0, 1) := by decide +kernel
theorem dX12_isTrue_31 : decode cX12_isTrue 31 = .ok (.ireturn, 1) := by decide +kernel
theorem dX12_isSliceIn_0 : decode cX12_isSliceIn 0 = .ok (.aload_n 0, 1) := by decide +kernel
theorem dX12_isSliceIn_1 : decode cX12_isSliceIn 1 = .ok (.getfield 805, 3) := by decide +kernel
theorem dX12_isSliceIn_4 : decode cX12_isSliceIn 4 = .ok (.iconst 1, 1) := by decide +kernel
theorem dX12_isSliceIn_5 : decode cX12_isSliceIn 5 = .ok (.if_icmp .lt 31, 3) := by decide +kernel
theorem dX12_isSliceIn_8 : decode cX12_isSliceIn 8 = .ok (.aload_n 0, 1) := by decide +kernel
theorem dX12_isSliceIn_9 : decode cX12_isSliceIn 9 = .ok (.getfield 808, 3) := by decide +kernel
theorem dX12_isSliceIn_12 : decode cX12_isSliceIn 12 = .ok (.aload_n 0, 1) := by decide +kernel
theorem dX12_isSliceIn_13 : decode cX12_isSliceIn 13 = .ok (.getfield 805, 3) := by decide +kernel
theorem dX12_isSliceIn_16 : decode cX12_isSliceIn 16 = .ok (.iconst 1, 1) := by decide +kernel
theorem dX12_isSliceIn_17 : decode cX12_isSliceIn 17 = .ok (.isub, 1) := by decide +kernel
theorem dX12_isSliceIn_18 : decode cX12_isSliceIn 18 = .ok (.if_icmp .lt 18, 3) := by decide +kernel
theorem dX12_isSliceIn_21 : decode cX12_isSliceIn 21 = .ok (.aload_n 0, 1) := by decide +kernel
theorem dX12_isSliceIn_22 : decode cX12_isSliceIn 22 = .ok (.getfield 808, 3) := by decide +kernel
theorem dX12_isSliceIn_25 : decode cX12_isSliceIn 25 = .ok (.aload_n 0, 1) := by decide +kernel
theorem dX12_isSliceIn_26 : decode cX12_isSliceIn 26 = .ok (.getfield 372, 3) := by decide +kernel
theorem dX12_isSliceIn_29 : decode cX12_isSliceIn 29 = .ok (.iload_n 1, 1) := by decide +kernel
theorem dX12_isSliceIn_30 : decode cX12_isSliceIn 30 = .ok (.iconst 1, 1) := by decide +kernel
theorem dX12_isSliceIn_31 : decode cX12_isSliceIn 31 = .ok (.iadd, 1) := by decide +kernel
theorem dX12_isSliceIn_32 : decode cX12_isSliceIn 32 = .ok (.iaload, 1) := by decide +kernel
theorem dX12_isSliceIn_33 : decode cX12_isSliceIn 33 = .ok (.if_icmp .le 10, 3) := by decide +kernel
theorem dX12_isSliceIn_36 : decode cX12_isSliceIn 36 = .ok (.aload_n 0, 1) := by decide +kernel
theorem dX12_isSliceIn_37 : decode cX12_isSliceIn 37 = .ok (.iconst 4, 1) := by decide +kernel
theorem dX12_isSliceIn_38 : decode cX12_isSliceIn 38 = .ok (.invokevirtual 369, 3) := by decide +kernel
theorem dX12_isSliceIn_41 : decode cX12_isSliceIn 41 = .ok (.iconst 0, 1) := by decide +kernel
theorem dX12_isSliceIn_42 : decode cX12_isSliceIn 42 = .ok (.ireturn, 1) := by decide +kernel
theorem dX12_isSliceIn_43 : decode cX12_isSliceIn 43 = .ok (.iconst 1, 1) := by decide +kernel
theorem dX12_isSliceIn_44 : decode cX12_isSliceIn 44 = .ok (.ireturn, 1) := by decide +kernel
theorem dX12_isOver_0 : decode cX12_isOver 0 = .ok (.iload_n 0, 1) := by decide +kernel
theorem dX12_isOver_1 : decode cX12_isOver 1 = .ok (.bipush 16, 2) := by decide +kernel
theorem dX12_isOver_3 : decode cX12_isOver 3 = .ok (.if_icmp .eq 39, 3) := by decide +kernel
theorem dX12_isOver_6 : decode cX12_isOver 6 = .ok (.iload_n 0, 1) := by decide +kernel
theorem dX12_isOver_7 : decode cX12_isOver 7 = .ok (.bipush 21, 2) := by decide +kernel
theorem dX12_isOver_9 : decode cX12_isOver 9 = .ok (.if_icmp .eq 33, 3) := by decide +kernel
theorem dX12_isOver_12 : decode cX12_isOver 12 = .ok (.iload_n 0, 1) := by decide +kernel
theorem dX12_isOver_13 : decode cX12_isOver 13 = .ok (.bipush 22, 2) := by decide +kernel
theorem dX12_isOver_15 : decode cX12_isOver 15 = .ok (.if_icmp .eq 27, 3) := by decide +kernel
theorem dX12_isOver_18 : decode cX12_isOver 18 = .ok (.iload_n 0, 1) := by decide +kernel
theorem dX12_isOver_19 : decode cX12_isOver 19 = .ok (.bipush 23, 2) := by decide +kernel
theorem dX12_isOver_21 : decode cX12_isOver 21 = .ok (.if_icmp .eq 21, 3) := by decide +kernel
theorem dX12_isOver_24 : decode cX12_isOver 24 = .ok (.iload_n 0, 1) := by decide +kernel
theorem dX12_isOver_25 : decode cX12_isOver 25 = .ok (.bipush 24, 2) := by decide +kernel
theorem dX12_isOver_27 : decode cX12_isOver 27 = .ok (.if_icmp .eq 15, 3) := by decide +kernel
theorem dX12_isOver_30 : decode cX12_isOver 30 = .ok (.iload_n 0, 1) := by decide +kernel
theorem dX12_isOver_31 : decode cX12_isOver 31 = .ok (.bipush 25, 2) := by decide +kernel
theorem dX12_isOver_33 : decode cX12_isOver 33 = .ok (.if_icmp .eq 9, 3) := by decide +kernel
theorem dX12_isOver_36 : decode cX12_isOver 36 = .ok (.iload_n 0, 1) := by decide +kernel
theorem dX12_isOver_37 : decode cX12_isOver 37 = .ok (.bipush 26, 2) := by decide +kernel
theorem dX12_isOver_39 : decode cX12_isOver 39 = .ok (.if_icmp .ne 7, 3) := by decide +kernel
theorem dX12_isOver_42 : decode cX12_isOver 42 = .ok (.iconst 1, 1) := by decide +kernel
theorem dX12_isOver_43 : decode cX12_isOver 43 = .ok (.goto 4, 3) := by decide +kernel
theorem dX12_isOver_46 : decode cX12_isOver 46 = .ok (.iconst 0, 1) := by decide +kernel
theorem dX12_isOver_47 : decode cX12_isOver 47 = .ok (.ireturn, 1) := by decide +kernel
theorem dX12_nameOf_0 : decode cX12_nameOf 0 = .ok (.iload_n 1, 1) := by decide +kernel
theorem dX12_nameOf_1 : decode cX12_nameOf 1 = .ok (.istore_n 2, 1) := by decide +kernel
theorem dX12_nameOf_2 : decode cX12_nameOf 2 = .ok (.aload_n 0, 1) := by decide +kernel
theorem dX12_nameOf_3 : decode cX12_nameOf 3 = .ok (.getfield 83, 3) := by decide +kernel
theorem dX12_nameOf_6 : decode cX12_nameOf 6 = .ok (.iload_n 2, 1) := by decide +kernel
theorem dX12_nameOf_7 : decode cX12_nameOf 7 = .ok (.iaload, 1) := by decide +kernel
theorem dX12_nameOf_8 : decode cX12_nameOf 8 = .ok (.bipush 7, 2) := by decide +kernel
theorem dX12_nameOf_10 : decode cX12_nameOf 10 = .ok (.if_icmp .eq 13, 3) := by decide +kernel
theorem dX12_nameOf_13 : decode cX12_nameOf 13 = .ok (.aload_n 0, 1) := by decide +kernel
theorem dX12_nameOf_14 : decode cX12_nameOf 14 = .ok (.getfield 89, 3) := by decide +kernel
theorem dX12_nameOf_17 : decode cX12_nameOf 17 = .ok (.iload_n 2, 1) := by decide +kernel
theorem dX12_nameOf_18 : decode cX12_nameOf 18 = .ok (.iaload, 1) := by decide +kernel
theorem dX12_nameOf_19 : decode cX12_nameOf 19 = .ok (.istore_n 2, 1) := by decide +kernel
theorem dX12_nameOf_20 : decode cX12_nameOf 20 = .ok (.goto (-18), 3) := by decide +kernel
theorem dX12_nameOf_23 : decode cX12_nameOf 23 = .ok (.iload_n 2, 1) := by decide +kernel
theorem dX12_nameOf_24 : decode cX12_nameOf 24 = .ok (.ireturn, 1) := by decide +kernel
theorem dX12_keysOf_0 : decode cX12_keysOf 0 = .ok (.iload_n 0, 1) := by decide +kernel
theorem dX12_keysOf_1 : decode cX12_keysOf 1 = .ok (.bipush 7, 2) := by decide +kernel
theorem dX12_keysOf_3 : decode cX12_keysOf 3 = .ok (.if_icmp .ne 7, 3) := by decide +kernel
theorem dX12_keysOf_6 : decode cX12_keysOf 6 = .ok (.iconst 0, 1) := by decide +kernel
theorem dX12_keysOf_7 : decode cX12_keysOf 7 = .ok (.goto 14, 3) := by decide +kernel
theorem dX12_keysOf_10 : decode cX12_keysOf 10 = .ok (.iload_n 0, 1) := by decide +kernel
theorem dX12_keysOf_11 : decode cX12_keysOf 11 = .ok (.bipush 22, 2) := by decide +kernel
theorem dX12_keysOf_13 : decode cX12_keysOf 13 = .ok (.if_icmp .ne 7, 3) := by decide +kernel
theorem dX12_keysOf_16 : decode cX12_keysOf 16 = .ok (.iconst 2, 1) := by decide +kernel
theorem dX12_keysOf_17 : decode cX12_keysOf 17 = .ok (.goto 4, 3) := by decide +kernel
theorem dX12_keysOf_20 : decode cX12_keysOf 20 = .ok (.iconst 1, 1) := by decide +kernel
theorem dX12_keysOf_21 : decode cX12_keysOf 21 = .ok (.ireturn, 1) := by decide +kernel
theorem dX12_keysIn_0 : decode cX12_keysIn 0 = .ok (.iconst 0, 1) := by decide +kernel
theorem dX12_keysIn_1 : decode cX12_keysIn 1 = .ok (.istore_n 2, 1) := by decide +kernel
theorem dX12_keysIn_2 : decode cX12_keysIn 2 = .ok (.iload_n 1, 1) := by decide +kernel
theorem dX12_keysIn_3 : decode cX12_keysIn 3 = .ok (.istore_n 3, 1) := by decide +kernel
theorem dX12_keysIn_4 : decode cX12_keysIn 4 = .ok (.aload_n 0, 1) := by decide +kernel
theorem dX12_keysIn_5 : decode cX12_keysIn 5 = .ok (.getfield 83, 3) := by decide +kernel
theorem dX12_keysIn_8 : decode cX12_keysIn 8 = .ok (.iload_n 3, 1) := by decide +kernel
theorem dX12_keysIn_9 : decode cX12_keysIn 9 = .ok (.iaload, 1) := by decide +kernel
theorem dX12_keysIn_10 : decode cX12_keysIn 10 = .ok (.bipush 7, 2) := by decide +kernel
theorem dX12_keysIn_12 : decode cX12_keysIn 12 = .ok (.if_icmp .eq 25, 3) := by decide +kernel
theorem dX12_keysIn_15 : decode cX12_keysIn 15 = .ok (.iload_n 2, 1) := by decide +kernel
theorem dX12_keysIn_16 : decode cX12_keysIn 16 = .ok (.aload_n 0, 1) := by decide +kernel
theorem dX12_keysIn_17 : decode cX12_keysIn 17 = .ok (.getfield 83, 3) := by decide +kernel
theorem dX12_keysIn_20 : decode cX12_keysIn 20 = .ok (.iload_n 3, 1) := by decide +kernel
theorem dX12_keysIn_21 : decode cX12_keysIn 21 = .ok (.iaload, 1) := by decide +kernel
theorem dX12_keysIn_22 : decode cX12_keysIn 22 = .ok (.invokestatic 821, 3) := by decide +kernel
theorem dX12_keysIn_25 : decode cX12_keysIn 25 = .ok (.iadd, 1) := by decide +kernel
theorem dX12_keysIn_26 : decode cX12_keysIn 26 = .ok (.istore_n 2, 1) := by decide +kernel
theorem dX12_keysIn_27 : decode cX12_keysIn 27 = .ok (.aload_n 0, 1) := by decide +kernel
theorem dX12_keysIn_28 : decode cX12_keysIn 28 = .ok (.getfield 89, 3) := by decide +kernel
theorem dX12_keysIn_31 : decode cX12_keysIn 31 = .ok (.iload_n 3, 1) := by decide +kernel
theorem dX12_keysIn_32 : decode cX12_keysIn 32 = .ok (.iaload, 1) := by decide +kernel
theorem dX12_keysIn_33 : decode cX12_keysIn 33 = .ok (.istore_n 3, 1) := by decide +kernel
theorem dX12_keysIn_34 : decode cX12_keysIn 34 = .ok (.goto (-30), 3) := by decide +kernel
theorem dX12_keysIn_37 : decode cX12_keysIn 37 = .ok (.iload_n 2, 1) := by decide +kernel
theorem dX12_keysIn_38 : decode cX12_keysIn 38 = .ok (.ireturn, 1) := by decide +kernel
theorem dX12_assign_0 : decode cX12_assign 0 = .ok (.aload_n 0, 1) := by decide +kernel
theorem dX12_assign_1 : decode cX12_assign 1 = .ok (.getfield 362, 3) := by decide +kernel
theorem dX12_assign_4 : decode cX12_assign 4 = .ok (.ifCond .le 4, 3) := by decide +kernel
theorem dX12_assign_7 : decode cX12_assign 7 = .ok (.return_, 1) := by decide +kernel
theorem dX12_assign_8 : decode cX12_assign 8 = .ok (.aload_n 0, 1) := by decide +kernel
theorem dX12_assign_9 : decode cX12_assign 9 = .ok (.aload_n 0, 1) := by decide +kernel
theorem dX12_assign_10 : decode cX12_assign 10 = .ok (.iload_n 1, 1) := by decide +kernel
theorem dX12_assign_11 : decode cX12_assign 11 = .ok (.invokevirtual 604, 3) := by decide +kernel
theorem dX12_assign_14 : decode cX12_assign 14 = .ok (.invokevirtual 432, 3) := by decide +kernel
theorem dX12_assign_17 : decode cX12_assign 17 = .ok (.istore_n 3, 1) := by decide +kernel
theorem dX12_assign_18 : decode cX12_assign 18 = .ok (.aload_n 0, 1) := by decide +kernel
theorem dX12_assign_19 : decode cX12_assign 19 = .ok (.getfield 852, 3) := by decide +kernel
theorem dX12_assign_22 : decode cX12_assign 22 = .ok (.aload_n 0, 1) := by decide +kernel
theorem dX12_assign_23 : decode cX12_assign 23 = .ok (.getfield 855, 3) := by decide +kernel
theorem dX12_assign_26 : decode cX12_assign 26 = .ok (.iadd, 1) := by decide +kernel
theorem dX12_assign_27 : decode cX12_assign 27 = .ok (.iload_n 3, 1) := by decide +kernel
theorem dX12_assign_28 : decode cX12_assign 28 = .ok (.isub, 1) := by decide +kernel
theorem dX12_assign_29 : decode cX12_assign 29 = .ok (.aload_n 0, 1) := by decide +kernel
theorem dX12_assign_30 : decode cX12_assign 30 = .ok (.iload_n 2, 1) := by decide +kernel
theorem dX12_assign_31 : decode cX12_assign 31 = .ok (.invokevirtual 432, 3) := by decide +kernel
theorem dX12_assign_34 : decode cX12_assign 34 = .ok (.iadd, 1) := by decide +kernel
theorem dX12_assign_35 : decode cX12_assign 35 = .ok (.ldc_w 858, 3) := by decide +kernel
theorem dX12_assign_38 : decode cX12_assign 38 = .ok (.if_icmp .le 10, 3) := by decide +kernel
theorem dX12_assign_41 : decode cX12_assign 41 = .ok (.aload_n 0, 1) := by decide +kernel
theorem dX12_assign_42 : decode cX12_assign 42 = .ok (.bipush 6, 2) := by decide +kernel
theorem dX12_assign_44 : decode cX12_assign 44 = .ok (.invokevirtual 369, 3) := by decide +kernel
theorem dX12_assign_47 : decode cX12_assign 47 = .ok (.return_, 1) := by decide +kernel
theorem dX12_assign_48 : decode cX12_assign 48 = .ok (.aload_n 0, 1) := by decide +kernel
theorem dX12_assign_49 : decode cX12_assign 49 = .ok (.dup, 1) := by decide +kernel
theorem dX12_assign_50 : decode cX12_assign 50 = .ok (.getfield 852, 3) := by decide +kernel
theorem dX12_assign_53 : decode cX12_assign 53 = .ok (.aload_n 0, 1) := by decide +kernel
theorem dX12_assign_54 : decode cX12_assign 54 = .ok (.iload_n 2, 1) := by decide +kernel
theorem dX12_assign_55 : decode cX12_assign 55 = .ok (.invokevirtual 432, 3) := by decide +kernel
theorem dX12_assign_58 : decode cX12_assign 58 = .ok (.iload_n 3, 1) := by decide +kernel
theorem dX12_assign_59 : decode cX12_assign 59 = .ok (.isub, 1) := by decide +kernel
theorem dX12_assign_60 : decode cX12_assign 60 = .ok (.iadd, 1) := by decide +kernel
theorem dX12_assign_61 : decode cX12_assign 61 = .ok (.putfield 852, 3) := by decide +kernel
theorem dX12_assign_64 : decode cX12_assign 64 = .ok (.aload_n 0, 1) := by decide +kernel
theorem dX12_assign_65 : decode cX12_assign 65 = .ok (.iload_n 1, 1) := by decide +kernel
theorem dX12_assign_66 : decode cX12_assign 66 = .ok (.iload_n 2, 1) := by decide +kernel
theorem dX12_assign_67 : decode cX12_assign 67 = .ok (.invokevirtual 694, 3) := by decide +kernel
theorem dX12_assign_70 : decode cX12_assign 70 = .ok (.return_, 1) := by decide +kernel
theorem dX12_pair_0 : decode cX12_pair 0 = .ok (.aload_n 0, 1) := by decide +kernel
theorem dX12_pair_1 : decode cX12_pair 1 = .ok (.getfield 385, 3) := by decide +kernel
theorem dX12_pair_4 : decode cX12_pair 4 = .ok (.istore_n 3, 1) := by decide +kernel
theorem dX12_pair_5 : decode cX12_pair 5 = .ok (.aload_n 0, 1) := by decide +kernel
theorem dX12_pair_6 : decode cX12_pair 6 = .ok (.iload_n 1, 1) := by decide +kernel
theorem dX12_pair_7 : decode cX12_pair 7 = .ok (.invokevirtual 594, 3) := by decide +kernel
theorem dX12_pair_10 : decode cX12_pair 10 = .ok (.aload_n 0, 1) := by decide +kernel
theorem dX12_pair_11 : decode cX12_pair 11 = .ok (.iload_n 2, 1) := by decide +kernel
theorem dX12_pair_12 : decode cX12_pair 12 = .ok (.invokevirtual 594, 3) := by decide +kernel
theorem dX12_pair_15 : decode cX12_pair 15 = .ok (.aload_n 0, 1) := by decide +kernel
theorem dX12_pair_16 : decode cX12_pair 16 = .ok (.iload_n 3, 1) := by decide +kernel
theorem dX12_pair_17 : decode cX12_pair 17 = .ok (.invokevirtual 675, 3) := by decide +kernel
theorem dX12_pair_20 : decode cX12_pair 20 = .ok (.ireturn, 1) := by decide +kernel
theorem dX12_putPlace_0 : decode cX12_putPlace 0 = .ok (.aload_n 0, 1) := by decide +kernel
theorem dX12_putPlace_1 : decode cX12_putPlace 1 = .ok (.getfield 372, 3) := by decide +kernel
theorem dX12_putPlace_4 : decode cX12_putPlace 4 = .ok (.iload_n 1, 1) := by decide +kernel
theorem dX12_putPlace_5 : decode cX12_putPlace 5 = .ok (.iconst 1, 1) := by decide +kernel
theorem dX12_putPlace_6 : decode cX12_putPlace 6 = .ok (.iadd, 1) := by decide +kernel
theorem dX12_putPlace_7 : decode cX12_putPlace 7 = .ok (.iaload, 1) := by decide +kernel
theorem dX12_putPlace_8 : decode cX12_putPlace 8 = .ok (.istore 4, 2) := by decide +kernel
theorem dX12_putPlace_10 : decode cX12_putPlace 10 = .ok (.iload_n 2, 1) := by decide +kernel
theorem dX12_putPlace_11 : decode cX12_putPlace 11 = .ok (.iload 4, 2) := by decide +kernel
theorem dX12_putPlace_13 : decode cX12_putPlace 13 = .ok (.if_icmp .le 9, 3) := by decide +kernel
theorem dX12_putPlace_16 : decode cX12_putPlace 16 = .ok (.iload_n 3, 1) := by decide +kernel
theorem dX12_putPlace_17 : decode cX12_putPlace 17 = .ok (.ifCond .ne 5, 3) := by decide +kernel
theorem dX12_putPlace_20 : decode cX12_putPlace 20 = .ok (.iload_n 1, 1) := by decide +kernel
theorem dX12_putPlace_21 : decode cX12_putPlace 21 = .ok (.ireturn, 1) := by decide +kernel
theorem dX12_putPlace_22 : decode cX12_putPlace 22 = .ok (.iload_n 2, 1) := by decide +kernel
theorem dX12_putPlace_23 : decode cX12_putPlace 23 = .ok (.sipush 2000, 3) := by decide +kernel
theorem dX12_putPlace_26 : decode cX12_putPlace 26 = .ok (.if_icmp .le 10, 3) := by decide +kernel
theorem dX12_putPlace_29 : decode cX12_putPlace 29 = .ok (.aload_n 0, 1) := by decide +kernel
theorem dX12_putPlace_30 : decode cX12_putPlace 30 = .ok (.iconst 5, 1) := by decide +kernel
theorem dX12_putPlace_31 : decode cX12_putPlace 31 = .ok (.invokevirtual 369, 3) := by decide +kernel
theorem dX12_putPlace_34 : decode cX12_putPlace 34 = .ok (.iconst 0, 1) := by decide +kernel
theorem dX12_putPlace_35 : decode cX12_putPlace 35 = .ok (.ireturn, 1) := by decide +kernel
theorem dX12_putPlace_36 : decode cX12_putPlace 36 = .ok (.aload_n 0, 1) := by decide +kernel
theorem dX12_putPlace_37 : decode cX12_putPlace 37 = .ok (.getfield 385, 3) := by decide +kernel
theorem dX12_putPlace_40 : decode cX12_putPlace 40 = .ok (.istore 5, 2) := by decide +kernel
theorem dX12_putPlace_42 : decode cX12_putPlace 42 = .ok (.iconst 1, 1) := by decide +kernel
theorem dX12_putPlace_43 : decode cX12_putPlace 43 = .ok (.istore 6, 2) := by decide +kernel
theorem dX12_putPlace_45 : decode cX12_putPlace 45 = .ok (.iload 6, 2) := by decide +kernel
theorem dX12_putPlace_47 : decode cX12_putPlace 47 = .ok (.iload 4, 2) := by decide +kernel
theorem dX12_putPlace_49 : decode cX12_putPlace 49 = .ok (.if_icmp .le 9, 3) := by decide +kernel
theorem dX12_putPlace_52 : decode cX12_putPlace 52 = .ok (.iload 6, 2) := by decide +kernel
theorem dX12_putPlace_54 : decode cX12_putPlace 54 = .ok (.iload_n 2, 1) := by decide +kernel
theorem dX12_putPlace_55 : decode cX12_putPlace 55 = .ok (.if_icmp .gt 45, 3) := by decide +kernel
theorem dX12_putPlace_58 : decode cX12_putPlace 58 = .ok (.aload_n 0, 1) := by decide +kernel
theorem dX12_putPlace_59 : decode cX12_putPlace 59 = .ok (.iload 6, 2) := by decide +kernel
theorem dX12_putPlace_61 : decode cX12_putPlace 61 = .ok (.iload_n 2, 1) := by decide +kernel
theorem dX12_putPlace_62 : decode cX12_putPlace 62 = .ok (.if_icmp .ne 7, 3) := by decide +kernel
theorem dX12_putPlace_65 : decode cX12_putPlace 65 = .ok (.iload_n 3, 1) := by decide +kernel
theorem dX12_putPlace_66 : decode cX12_putPlace 66 = .ok (.goto 25, 3) := by decide +kernel
theorem dX12_putPlace_69 : decode cX12_putPlace 69 = .ok (.iload 6, 2) := by decide +kernel
theorem dX12_putPlace_71 : decode cX12_putPlace 71 = .ok (.iload 4, 2) := by decide +kernel
theorem dX12_putPlace_73 : decode cX12_putPlace 73 = .ok (.if_icmp .gt 17, 3) := by decide +kernel
theorem dX12_putPlace_76 : decode cX12_putPlace 76 = .ok (.aload_n 0, 1) := by decide +kernel
theorem dX12_putPlace_77 : decode cX12_putPlace 77 = .ok (.getfield 372, 3) := by decide +kernel
theorem dX12_putPlace_80 : decode cX12_putPlace 80 = .ok (.iload_n 1, 1) := by decide +kernel
theorem dX12_putPlace_81 : decode cX12_putPlace 81 = .ok (.iconst 3, 1) := by decide +kernel
theorem dX12_putPlace_82 : decode cX12_putPlace 82 = .ok (.iadd, 1) := by decide +kernel
theorem dX12_putPlace_83 : decode cX12_putPlace 83 = .ok (.iload 6, 2) := by decide +kernel
theorem dX12_putPlace_85 : decode cX12_putPlace 85 = .ok (.iadd, 1) := by decide +kernel
theorem dX12_putPlace_86 : decode cX12_putPlace 86 = .ok (.iaload, 1) := by decide +kernel
theorem dX12_putPlace_87 : decode cX12_putPlace 87 = .ok (.goto 4, 3) := by decide +kernel
theorem dX12_putPlace_90 : decode cX12_putPlace 90 = .ok (.iconst 0, 1) := by decide +kernel
theorem dX12_putPlace_91 : decode cX12_putPlace 91 = .ok (.invokevirtual 594, 3) := by decide +kernel
theorem dX12_putPlace_94 : decode cX12_putPlace 94 = .ok (.iinc 6 1, 3) := by decide +kernel
theorem dX12_putPlace_97 : decode cX12_putPlace 97 = .ok (.goto (-52), 3) := by decide +kernel
theorem dX12_putPlace_100 : decode cX12_putPlace 100 = .ok (.aload_n 0, 1) := by decide +kernel
theorem dX12_putPlace_101 : decode cX12_putPlace 101 = .ok (.iload 5, 2) := by decide +kernel
theorem dX12_putPlace_103 : decode cX12_putPlace 103 = .ok (.invokevirtual 675, 3) := by decide +kernel
theorem dX12_putPlace_106 : decode cX12_putPlace 106 = .ok (.ireturn, 1) := by decide +kernel
theorem dX12_dropIter_0 : decode cX12_dropIter 0 = .ok (.aload_n 0, 1) := by decide +kernel
theorem dX12_dropIter_1 : decode cX12_dropIter 1 = .ok (.getfield 395, 3) := by decide +kernel
theorem dX12_dropIter_4 : decode cX12_dropIter 4 = .ok (.iconst 3, 1) := by decide +kernel
theorem dX12_dropIter_5 : decode cX12_dropIter 5 = .ok (.dup2, 1) := by decide +kernel
theorem dX12_dropIter_6 : decode cX12_dropIter 6 = .ok (.iaload, 1) := by decide +kernel
theorem dX12_dropIter_7 : decode cX12_dropIter 7 = .ok (.iconst 1, 1) := by decide +kernel
theorem dX12_dropIter_8 : decode cX12_dropIter 8 = .ok (.isub, 1) := by decide +kernel
theorem dX12_dropIter_9 : decode cX12_dropIter 9 = .ok (.iastore, 1) := by decide +kernel
theorem dX12_dropIter_10 : decode cX12_dropIter 10 = .ok (.aload_n 0, 1) := by decide +kernel
theorem dX12_dropIter_11 : decode cX12_dropIter 11 = .ok (.dup, 1) := by decide +kernel
theorem dX12_dropIter_12 : decode cX12_dropIter 12 = .ok (.getfield 852, 3) := by decide +kernel
theorem dX12_dropIter_15 : decode cX12_dropIter 15 = .ok (.aload_n 0, 1) := by decide +kernel
theorem dX12_dropIter_16 : decode cX12_dropIter 16 = .ok (.aload_n 0, 1) := by decide +kernel
theorem dX12_dropIter_17 : decode cX12_dropIter 17 = .ok (.getfield 395, 3) := by decide +kernel
theorem dX12_dropIter_20 : decode cX12_dropIter 20 = .ok (.sipush 5314, 3) := by decide +kernel
theorem dX12_dropIter_23 : decode cX12_dropIter 23 = .ok (.aload_n 0, 1) := by decide +kernel
theorem dX12_dropIter_24 : decode cX12_dropIter 24 = .ok (.getfield 395, 3) := by decide +kernel
theorem dX12_dropIter_27 : decode cX12_dropIter 27 = .ok (.iconst 3, 1) := by decide +kernel
theorem dX12_dropIter_28 : decode cX12_dropIter 28 = .ok (.iaload, 1) := by decide +kernel
theorem dX12_dropIter_29 : decode cX12_dropIter 29 = .ok (.iadd, 1) := by decide +kernel
theorem dX12_dropIter_30 : decode cX12_dropIter 30 = .ok (.iaload, 1) := by decide +kernel
theorem dX12_dropIter_31 : decode cX12_dropIter 31 = .ok (.invokevirtual 432, 3) := by decide +kernel
theorem dX12_dropIter_34 : decode cX12_dropIter 34 = .ok (.isub, 1) := by decide +kernel
theorem dX12_dropIter_35 : decode cX12_dropIter 35 = .ok (.putfield 852, 3) := by decide +kernel
theorem dX12_dropIter_38 : decode cX12_dropIter 38 = .ok (.return_, 1) := by decide +kernel
theorem dX12_closeFor_0 : decode cX12_closeFor 0 = .ok (.sipush 3214, 3) := by decide +kernel
theorem dX12_closeFor_3 : decode cX12_closeFor 3 = .ok (.iconst 2, 1) := by decide +kernel
theorem dX12_closeFor_4 : decode cX12_closeFor 4 = .ok (.aload_n 0, 1) := by decide +kernel
theorem dX12_closeFor_5 : decode cX12_closeFor 5 = .ok (.getfield 395, 3) := by decide +kernel
theorem dX12_closeFor_8 : decode cX12_closeFor 8 = .ok (.iconst 2, 1) := by decide +kernel
theorem dX12_closeFor_9 : decode cX12_closeFor 9 = .ok (.iaload, 1) := by decide +kernel
theorem dX12_closeFor_10 : decode cX12_closeFor 10 = .ok (.iconst 1, 1) := by decide +kernel
theorem dX12_closeFor_11 : decode cX12_closeFor 11 = .ok (.isub, 1) := by decide +kernel
theorem dX12_closeFor_12 : decode cX12_closeFor 12 = .ok (.imul, 1) := by decide +kernel
theorem dX12_closeFor_13 : decode cX12_closeFor 13 = .ok (.iadd, 1) := by decide +kernel
theorem dX12_closeFor_14 : decode cX12_closeFor 14 = .ok (.istore_n 1, 1) := by decide +kernel
theorem dX12_closeFor_15 : decode cX12_closeFor 15 = .ok (.aload_n 0, 1) := by decide +kernel
theorem dX12_closeFor_16 : decode cX12_closeFor 16 = .ok (.getfield 395, 3) := by decide +kernel
theorem dX12_closeFor_19 : decode cX12_closeFor 19 = .ok (.iconst 3, 1) := by decide +kernel
theorem dX12_closeFor_20 : decode cX12_closeFor 20 = .ok (.iaload, 1) := by decide +kernel
theorem dX12_closeFor_21 : decode cX12_closeFor 21 = .ok (.aload_n 0, 1) := by decide +kernel
theorem dX12_closeFor_22 : decode cX12_closeFor 22 = .ok (.getfield 395, 3) := by decide +kernel
theorem dX12_closeFor_25 : decode cX12_closeFor 25 = .ok (.iload_n 1, 1) := by decide +kernel
theorem dX12_closeFor_26 : decode cX12_closeFor 26 = .ok (.iconst 1, 1) := by decide +kernel
theorem dX12_closeFor_27 : decode cX12_closeFor 27 = .ok (.iadd, 1) := by decide +kernel
theorem dX12_closeFor_28 : decode cX12_closeFor 28 = .ok (.iaload, 1) := by decide +kernel
theorem dX12_closeFor_29 : decode cX12_closeFor 29 = .ok (.if_icmp .le 10, 3) := by decide +kernel
theorem dX12_closeFor_32 : decode cX12_closeFor 32 = .ok (.aload_n 0, 1) := by decide +kernel
theorem dX12_closeFor_33 : decode cX12_closeFor 33 = .ok (.invokevirtual 892, 3) := by decide +kernel
theorem dX12_closeFor_36 : decode cX12_closeFor 36 = .ok (.goto (-21), 3) := by decide +kernel
theorem dX12_closeFor_39 : decode cX12_closeFor 39 = .ok (.aload_n 0, 1) := by decide +kernel
theorem dX12_closeFor_40 : decode cX12_closeFor 40 = .ok (.getfield 395, 3) := by decide +kernel
theorem dX12_closeFor_43 : decode cX12_closeFor 43 = .ok (.iconst 2, 1) := by decide +kernel
theorem dX12_closeFor_44 : decode cX12_closeFor 44 = .ok (.dup2, 1) := by decide +kernel
theorem dX12_closeFor_45 : decode cX12_closeFor 45 = .ok (.iaload, 1) := by decide +kernel
theorem dX12_closeFor_46 : decode cX12_closeFor 46 = .ok (.iconst 1, 1) := by decide +kernel
theorem dX12_closeFor_47 : decode cX12_closeFor 47 = .ok (.isub, 1) := by decide +kernel
theorem dX12_closeFor_48 : decode cX12_closeFor 48 = .ok (.iastore, 1) := by decide +kernel
theorem dX12_closeFor_49 : decode cX12_closeFor 49 = .ok (.aload_n 0, 1) := by decide +kernel
theorem dX12_closeFor_50 : decode cX12_closeFor 50 = .ok (.getfield 86, 3) := by decide +kernel
theorem dX12_closeFor_53 : decode cX12_closeFor 53 = .ok (.aload_n 0, 1) := by decide +kernel
theorem dX12_closeFor_54 : decode cX12_closeFor 54 = .ok (.getfield 395, 3) := by decide +kernel
theorem dX12_closeFor_57 : decode cX12_closeFor 57 = .ok (.iload_n 1, 1) := by decide +kernel
theorem dX12_closeFor_58 : decode cX12_closeFor 58 = .ok (.iaload, 1) := by decide +kernel
theorem dX12_closeFor_59 : decode cX12_closeFor 59 = .ok (.iaload, 1) := by decide +kernel
theorem dX12_closeFor_60 : decode cX12_closeFor 60 = .ok (.istore_n 2, 1) := by decide +kernel
theorem dX12_closeFor_61 : decode cX12_closeFor 61 = .ok (.iload_n 2, 1) := by decide +kernel
theorem dX12_closeFor_62 : decode cX12_closeFor 62 = .ok (.iconst (-1), 1) := by decide +kernel
theorem dX12_closeFor_63 : decode cX12_closeFor 63 = .ok (.if_icmp .eq 61, 3) := by decide +kernel
theorem dX12_closeFor_66 : decode cX12_closeFor 66 = .ok (.aload_n 0, 1) := by decide +kernel
theorem dX12_closeFor_67 : decode cX12_closeFor 67 = .ok (.getfield 89, 3) := by decide +kernel
theorem dX12_closeFor_70 : decode cX12_closeFor 70 = .ok (.iload_n 2, 1) := by decide +kernel
theorem dX12_closeFor_71 : decode cX12_closeFor 71 = .ok (.iaload, 1) := by decide +kernel
theorem dX12_closeFor_72 : decode cX12_closeFor 72 = .ok (.istore_n 3, 1) := by decide +kernel
theorem dX12_closeFor_73 : decode cX12_closeFor 73 = .ok (.iload_n 3, 1) := by decide +kernel
theorem dX12_closeFor_74 : decode cX12_closeFor 74 = .ok (.iconst (-1), 1) := by decide +kernel
theorem dX12_closeFor_75 : decode cX12_closeFor 75 = .ok (.if_icmp .eq 39, 3) := by decide +kernel
theorem dX12_closeFor_78 : decode cX12_closeFor 78 = .ok (.aload_n 0, 1) := by decide +kernel
theorem dX12_closeFor_79 : decode cX12_closeFor 79 = .ok (.dup, 1) := by decide +kernel
theorem dX12_closeFor_80 : decode cX12_closeFor 80 = .ok (.getfield 852, 3) := by decide +kernel
theorem dX12_closeFor_83 : decode cX12_closeFor 83 = .ok (.iconst 1, 1) := by decide +kernel
theorem dX12_closeFor_84 : decode cX12_closeFor 84 = .ok (.aload_n 0, 1) := by decide +kernel
theorem dX12_closeFor_85 : decode cX12_closeFor 85 = .ok (.aload_n 0, 1) := by decide +kernel
theorem dX12_closeFor_86 : decode cX12_closeFor 86 = .ok (.iload_n 3, 1) := by decide +kernel
theorem dX12_closeFor_87 : decode cX12_closeFor 87 = .ok (.invokevirtual 604, 3) := by decide +kernel
theorem dX12_closeFor_90 : decode cX12_closeFor 90 = .ok (.invokevirtual 432, 3) := by decide +kernel
theorem dX12_closeFor_93 : decode cX12_closeFor 93 = .ok (.isub, 1) := by decide +kernel
theorem dX12_closeFor_94 : decode cX12_closeFor 94 = .ok (.iadd, 1) := by decide +kernel
theorem dX12_closeFor_95 : decode cX12_closeFor 95 = .ok (.putfield 852, 3) := by decide +kernel
theorem dX12_closeFor_98 : decode cX12_closeFor 98 = .ok (.aload_n 0, 1) := by decide +kernel
theorem dX12_closeFor_99 : decode cX12_closeFor 99 = .ok (.iload_n 3, 1) := by decide +kernel
theorem dX12_closeFor_100 : decode cX12_closeFor 100 = .ok (.iconst 0, 1) := by decide +kernel
theorem dX12_closeFor_101 : decode cX12_closeFor 101 = .ok (.invokevirtual 694, 3) := by decide +kernel
theorem dX12_closeFor_104 : decode cX12_closeFor 104 = .ok (.aload_n 0, 1) := by decide +kernel
theorem dX12_closeFor_105 : decode cX12_closeFor 105 = .ok (.getfield 98, 3) := by decide +kernel
theorem dX12_closeFor_108 : decode cX12_closeFor 108 = .ok (.iload_n 3, 1) := by decide +kernel
theorem dX12_closeFor_109 : decode cX12_closeFor 109 = .ok (.iaload, 1) := by decide +kernel
theorem dX12_closeFor_110 : decode cX12_closeFor 110 = .ok (.istore_n 3, 1) := by decide +kernel
theorem dX12_closeFor_111 : decode cX12_closeFor 111 = .ok (.goto (-38), 3) := by decide +kernel
theorem dX12_closeFor_114 : decode cX12_closeFor 114 = .ok (.aload_n 0, 1) := by decide +kernel
theorem dX12_closeFor_115 : decode cX12_closeFor 115 = .ok (.getfield 98, 3) := by decide +kernel
theorem dX12_closeFor_118 : decode cX12_closeFor 118 = .ok (.iload_n 2, 1) := by decide +kernel
theorem dX12_closeFor_119 : decode cX12_closeFor 119 = .ok (.iaload, 1) := by decide +kernel
theorem dX12_closeFor_120 : decode cX12_closeFor 120 = .ok (.istore_n 2, 1) := by decide +kernel
theorem dX12_closeFor_121 : decode cX12_closeFor 121 = .ok (.goto (-60), 3) := by decide +kernel
theorem dX12_closeFor_124 : decode cX12_closeFor 124 = .ok (.return_, 1) := by decide +kernel
theorem dX12_iterOf_0 : decode cX12_iterOf 0 = .ok (.aload_n 0, 1) := by decide +kernel
theorem dX12_iterOf_1 : decode cX12_iterOf 1 = .ok (.getfield 86, 3) := by decide +kernel
theorem dX12_iterOf_4 : decode cX12_iterOf 4 = .ok (.iload_n 1, 1) := by decide +kernel
theorem dX12_iterOf_5 : decode cX12_iterOf 5 = .ok (.iaload, 1) := by decide +kernel
theorem dX12_iterOf_6 : decode cX12_iterOf 6 = .ok (.istore_n 3, 1) := by decide +kernel
theorem dX12_iterOf_7 : decode cX12_iterOf 7 = .ok (.iconst 0, 1) := by decide +kernel
theorem dX12_iterOf_8 : decode cX12_iterOf 8 = .ok (.istore 4, 2) := by decide +kernel
theorem dX12_iterOf_10 : decode cX12_iterOf 10 = .ok (.iload 4, 2) := by decide +kernel
theorem dX12_iterOf_12 : decode cX12_iterOf 12 = .ok (.iload_n 2, 1) := by decide +kernel
theorem dX12_iterOf_13 : decode cX12_iterOf 13 = .ok (.if_icmp .ge 16, 3) := by decide +kernel
theorem dX12_iterOf_16 : decode cX12_iterOf 16 = .ok (.aload_n 0, 1) := by decide +kernel
theorem dX12_iterOf_17 : decode cX12_iterOf 17 = .ok (.getfield 98, 3) := by decide +kernel
theorem dX12_iterOf_20 : decode cX12_iterOf 20 = .ok (.iload_n 3, 1) := by decide +kernel
theorem dX12_iterOf_21 : decode cX12_iterOf 21 = .ok (.iaload, 1) := by decide +kernel
theorem dX12_iterOf_22 : decode cX12_iterOf 22 = .ok (.istore_n 3, 1) := by decide +kernel
theorem dX12_iterOf_23 : decode cX12_iterOf 23 = .ok (.iinc 4 1, 3) := by decide +kernel
theorem dX12_iterOf_26 : decode cX12_iterOf 26 = .ok (.goto (-16), 3) := by decide +kernel
theorem dX12_iterOf_29 : decode cX12_iterOf 29 = .ok (.iload_n 3, 1) := by decide +kernel
theorem dX12_iterOf_30 : decode cX12_iterOf 30 = .ok (.ireturn, 1) := by decide +kernel
theorem dX12_stepFor_0 : decode cX12_stepFor 0 = .ok (.aload_n 0, 1) := by decide +kernel
theorem dX12_stepFor_1 : decode cX12_stepFor 1 = .ok (.getfield 395, 3) := by decide +kernel
theorem dX12_stepFor_4 : decode cX12_stepFor 4 = .ok (.iconst 3, 1) := by decide +kernel
theorem dX12_stepFor_5 : decode cX12_stepFor 5 = .ok (.iaload, 1) := by decide +kernel
theorem dX12_stepFor_6 : decode cX12_stepFor 6 = .ok (.iconst 1, 1) := by decide +kernel
theorem dX12_stepFor_7 : decode cX12_stepFor 7 = .ok (.isub, 1) := by decide +kernel
theorem dX12_stepFor_8 : decode cX12_stepFor 8 = .ok (.istore_n 2, 1) := by decide +kernel
theorem dX12_stepFor_9 : decode cX12_stepFor 9 = .ok (.aload_n 0, 1) := by decide +kernel
theorem dX12_stepFor_10 : decode cX12_stepFor 10 = .ok (.getfield 395, 3) := by decide +kernel
theorem dX12_stepFor_13 : decode cX12_stepFor 13 = .ok (.sipush 5314, 3) := by decide +kernel
theorem dX12_stepFor_16 : decode cX12_stepFor 16 = .ok (.iload_n 2, 1) := by decide +kernel
theorem dX12_stepFor_17 : decode cX12_stepFor 17 = .ok (.iadd, 1) := by decide +kernel
theorem dX12_stepFor_18 : decode cX12_stepFor 18 = .ok (.iaload, 1) := by decide +kernel
theorem dX12_stepFor_19 : decode cX12_stepFor 19 = .ok (.istore_n 3, 1) := by decide +kernel
theorem dX12_stepFor_20 : decode cX12_stepFor 20 = .ok (.aload_n 0, 1) := by decide +kernel
theorem dX12_stepFor_21 : decode cX12_stepFor 21 = .ok (.getfield 395, 3) := by decide +kernel
theorem dX12_stepFor_24 : decode cX12_stepFor 24 = .ok (.sipush 8414, 3) := by decide +kernel
theorem dX12_stepFor_27 : decode cX12_stepFor 27 = .ok (.iload_n 2, 1) := by decide +kernel
theorem dX12_stepFor_28 : decode cX12_stepFor 28 = .ok (.iadd, 1) := by decide +kernel
theorem dX12_stepFor_29 : decode cX12_stepFor 29 = .ok (.iaload, 1) := by decide +kernel
theorem dX12_stepFor_30 : decode cX12_stepFor 30 = .ok (.istore 4, 2) := by decide +kernel
theorem dX12_stepFor_32 : decode cX12_stepFor 32 = .ok (.iload 4, 2) := by decide +kernel
theorem dX12_stepFor_34 : decode cX12_stepFor 34 = .ok (.aload_n 0, 1) := by decide +kernel
theorem dX12_stepFor_35 : decode cX12_stepFor 35 = .ok (.getfield 372, 3) := by decide +kernel
theorem dX12_stepFor_38 : decode cX12_stepFor 38 = .ok (.iload_n 3, 1) := by decide +kernel
theorem dX12_stepFor_39 : decode cX12_stepFor 39 = .ok (.iconst 1, 1) := by decide +kernel
theorem dX12_stepFor_40 : decode cX12_stepFor 40 = .ok (.iadd, 1) := by decide +kernel
theorem dX12_stepFor_41 : decode cX12_stepFor 41 = .ok (.iaload, 1) := by decide +kernel
theorem dX12_stepFor_42 : decode cX12_stepFor 42 = .ok (.if_icmp .ne 5, 3) := by decide +kernel
theorem dX12_stepFor_45 : decode cX12_stepFor 45 = .ok (.iconst 0, 1) := by decide +kernel
theorem dX12_stepFor_46 : decode cX12_stepFor 46 = .ok (.ireturn, 1) := by decide +kernel
theorem dX12_stepFor_47 : decode cX12_stepFor 47 = .ok (.aload_n 0, 1) := by decide +kernel
theorem dX12_stepFor_48 : decode cX12_stepFor 48 = .ok (.getfield 395, 3) := by decide +kernel
theorem dX12_stepFor_51 : decode cX12_stepFor 51 = .ok (.sipush 8414, 3) := by decide +kernel
theorem dX12_stepFor_54 : decode cX12_stepFor 54 = .ok (.iload_n 2, 1) := by decide +kernel
theorem dX12_stepFor_55 : decode cX12_stepFor 55 = .ok (.iadd, 1) := by decide +kernel
theorem dX12_stepFor_56 : decode cX12_stepFor 56 = .ok (.iload 4, 2) := by decide +kernel
theorem dX12_stepFor_58 : decode cX12_stepFor 58 = .ok (.iconst 1, 1) := by decide +kernel
theorem dX12_stepFor_59 : decode cX12_stepFor 59 = .ok (.iadd, 1) := by decide +kernel
theorem dX12_stepFor_60 : decode cX12_stepFor 60 = .ok (.iastore, 1) := by decide +kernel
theorem dX12_stepFor_61 : decode cX12_stepFor 61 = .ok (.aload_n 0, 1) := by decide +kernel
theorem dX12_stepFor_62 : decode cX12_stepFor 62 = .ok (.iconst 1, 1) := by decide +kernel
theorem dX12_stepFor_63 : decode cX12_stepFor 63 = .ok (.invokevirtual 563, 3) := by decide +kernel
theorem dX12_stepFor_66 : decode cX12_stepFor 66 = .ok (.aload_n 0, 1) := by decide +kernel
theorem dX12_stepFor_67 : decode cX12_stepFor 67 = .ok (.getfield 362, 3) := by decide +kernel
theorem dX12_stepFor_70 : decode cX12_stepFor 70 = .ok (.ifCond .le 5, 3) := by decide +kernel
theorem dX12_stepFor_73 : decode cX12_stepFor 73 = .ok (.iconst 0, 1) := by decide +kernel
theorem dX12_stepFor_74 : decode cX12_stepFor 74 = .ok (.ireturn, 1) := by decide +kernel
theorem dX12_stepFor_75 : decode cX12_stepFor 75 = .ok (.aload_n 0, 1) := by decide +kernel
theorem dX12_stepFor_76 : decode cX12_stepFor 76 = .ok (.iload_n 3, 1) := by decide +kernel
theorem dX12_stepFor_77 : decode cX12_stepFor 77 = .ok (.iload 4, 2) := by decide +kernel
theorem dX12_stepFor_79 : decode cX12_stepFor 79 = .ok (.invokevirtual 703, 3) := by decide +kernel
theorem dX12_stepFor_82 : decode cX12_stepFor 82 = .ok (.istore 5, 2) := by decide +kernel
theorem dX12_stepFor_84 : decode cX12_stepFor 84 = .ok (.aload_n 0, 1) := by decide +kernel
theorem dX12_stepFor_85 : decode cX12_stepFor 85 = .ok (.getfield 86, 3) := by decide +kernel
theorem dX12_stepFor_88 : decode cX12_stepFor 88 = .ok (.iload_n 1, 1) := by decide +kernel
theorem dX12_stepFor_89 : decode cX12_stepFor 89 = .ok (.iaload, 1) := by decide +kernel
theorem dX12_stepFor_90 : decode cX12_stepFor 90 = .ok (.ifCond .ne 28, 3) := by decide +kernel
theorem dX12_stepFor_93 : decode cX12_stepFor 93 = .ok (.aload_n 0, 1) := by decide +kernel
theorem dX12_stepFor_94 : decode cX12_stepFor 94 = .ok (.aload_n 0, 1) := by decide +kernel
theorem dX12_stepFor_95 : decode cX12_stepFor 95 = .ok (.getfield 89, 3) := by decide +kernel
theorem dX12_stepFor_98 : decode cX12_stepFor 98 = .ok (.iload_n 1, 1) := by decide +kernel
theorem dX12_stepFor_99 : decode cX12_stepFor 99 = .ok (.iaload, 1) := by decide +kernel
theorem dX12_stepFor_100 : decode cX12_stepFor 100 = .ok (.iload 5, 2) := by decide +kernel
theorem dX12_stepFor_102 : decode cX12_stepFor 102 = .ok (.invokevirtual 840, 3) := by decide +kernel
theorem dX12_stepFor_105 : decode cX12_stepFor 105 = .ok (.aload_n 0, 1) := by decide +kernel
theorem dX12_stepFor_106 : decode cX12_stepFor 106 = .ok (.getfield 362, 3) := by decide +kernel
theorem dX12_stepFor_109 : decode cX12_stepFor 109 = .ok (.ifCond .ne 7, 3) := by decide +kernel
theorem dX12_stepFor_112 : decode cX12_stepFor 112 = .ok (.iconst 1, 1) := by decide +kernel
theorem dX12_stepFor_113 : decode cX12_stepFor 113 = .ok (.goto 4, 3) := by decide +kernel
theorem dX12_stepFor_116 : decode cX12_stepFor 116 = .ok (.iconst 0, 1) := by decide +kernel
theorem dX12_stepFor_117 : decode cX12_stepFor 117 = .ok (.ireturn, 1) := by decide +kernel
theorem dX12_stepFor_118 : decode cX12_stepFor 118 = .ok (.iconst 0, 1) := by decide +kernel
theorem dX12_stepFor_119 : decode cX12_stepFor 119 = .ok (.istore 6, 2) := by decide +kernel
theorem dX12_stepFor_121 : decode cX12_stepFor 121 = .ok (.aload_n 0, 1) := by decide +kernel
theorem dX12_stepFor_122 : decode cX12_stepFor 122 = .ok (.getfield 89, 3) := by decide +kernel
theorem dX12_stepFor_125 : decode cX12_stepFor 125 = .ok (.iload_n 1, 1) := by decide +kernel
theorem dX12_stepFor_126 : decode cX12_stepFor 126 = .ok (.iaload, 1) := by decide +kernel
theorem dX12_stepFor_127 : decode cX12_stepFor 127 = .ok (.istore 7, 2) := by decide +kernel
theorem dX12_stepFor_129 : decode cX12_stepFor 129 = .ok (.iload 7, 2) := by decide +kernel
theorem dX12_stepFor_131 : decode cX12_stepFor 131 = .ok (.iconst (-1), 1) := by decide +kernel
theorem dX12_stepFor_132 : decode cX12_stepFor 132 = .ok (.if_icmp .eq 18, 3) := by decide +kernel
theorem dX12_stepFor_135 : decode cX12_stepFor 135 = .ok (.iinc 6 1, 3) := by decide +kernel
theorem dX12_stepFor_138 : decode cX12_stepFor 138 = .ok (.aload_n 0, 1) := by decide +kernel
theorem dX12_stepFor_139 : decode cX12_stepFor 139 = .ok (.getfield 98, 3) := by decide +kernel
theorem dX12_stepFor_142 : decode cX12_stepFor 142 = .ok (.iload 7, 2) := by decide +kernel
theorem dX12_stepFor_144 : decode cX12_stepFor 144 = .ok (.iaload, 1) := by decide +kernel
theorem dX12_stepFor_145 : decode cX12_stepFor 145 = .ok (.istore 7, 2) := by decide +kernel
theorem dX12_stepFor_147 : decode cX12_stepFor 147 = .ok (.goto (-18), 3) := by decide +kernel
theorem dX12_stepFor_150 : decode cX12_stepFor 150 = .ok (.aload_n 0, 1) := by decide +kernel
theorem dX12_stepFor_151 : decode cX12_stepFor 151 = .ok (.iload 5, 2) := by decide +kernel
theorem dX12_stepFor_153 : decode cX12_stepFor 153 = .ok (.invokevirtual 545, 3) := by decide +kernel
theorem dX12_stepFor_156 : decode cX12_stepFor 156 = .ok (.iconst 5, 1) := by decide +kernel
theorem dX12_stepFor_157 : decode cX12_stepFor 157 = .ok (.if_icmp .ne 17, 3) := by decide +kernel
theorem dX12_stepFor_160 : decode cX12_stepFor 160 = .ok (.aload_n 0, 1) := by decide +kernel
theorem dX12_stepFor_161 : decode cX12_stepFor 161 = .ok (.getfield 372, 3) := by decide +kernel
theorem dX12_stepFor_164 : decode cX12_stepFor 164 = .ok (.iload 5, 2) := by decide +kernel
theorem dX12_stepFor_166 : decode cX12_stepFor 166 = .ok (.iconst 1, 1) := by decide +kernel
theorem dX12_stepFor_167 : decode cX12_stepFor 167 = .ok (.iadd, 1) := by decide +kernel
theorem dX12_stepFor_168 : decode cX12_stepFor 168 = .ok (.iaload, 1) := by decide +kernel
theorem dX12_stepFor_169 : decode cX12_stepFor 169 = .ok (.iload 6, 2) := by decide +kernel
theorem dX12_stepFor_171 : decode cX12_stepFor 171 = .ok (.if_icmp .le 10, 3) := by decide +kernel
theorem dX12_stepFor_174 : decode cX12_stepFor 174 = .ok (.aload_n 0, 1) := by decide +kernel
theorem dX12_stepFor_175 : decode cX12_stepFor 175 = .ok (.iconst 1, 1) := by decide +kernel
theorem dX12_stepFor_176 : decode cX12_stepFor 176 = .ok (.invokevirtual 369, 3) := by decide +kernel
theorem dX12_stepFor_179 : decode cX12_stepFor 179 = .ok (.iconst 0, 1) := by decide +kernel
theorem dX12_stepFor_180 : decode cX12_stepFor 180 = .ok (.ireturn, 1) := by decide +kernel
theorem dX12_stepFor_181 : decode cX12_stepFor 181 = .ok (.iconst 0, 1) := by decide +kernel
theorem dX12_stepFor_182 : decode cX12_stepFor 182 = .ok (.istore 7, 2) := by decide +kernel
theorem dX12_stepFor_184 : decode cX12_stepFor 184 = .ok (.aload_n 0, 1) := by decide +kernel
theorem dX12_stepFor_185 : decode cX12_stepFor 185 = .ok (.getfield 89, 3) := by decide +kernel
theorem dX12_stepFor_188 : decode cX12_stepFor 188 = .ok (.iload_n 1, 1) := by decide +kernel
theorem dX12_stepFor_189 : decode cX12_stepFor 189 = .ok (.iaload, 1) := by decide +kernel
theorem dX12_stepFor_190 : decode cX12_stepFor 190 = .ok (.istore 8, 2) := by decide +kernel
theorem dX12_stepFor_192 : decode cX12_stepFor 192 = .ok (.iload 8, 2) := by decide +kernel
theorem dX12_stepFor_194 : decode cX12_stepFor 194 = .ok (.iconst (-1), 1) := by decide +kernel
theorem dX12_stepFor_195 : decode cX12_stepFor 195 = .ok (.if_icmp .eq 54, 3) := by decide +kernel
theorem dX12_stepFor_198 : decode cX12_stepFor 198 = .ok (.aload_n 0, 1) := by decide +kernel
theorem dX12_stepFor_199 : decode cX12_stepFor 199 = .ok (.iload 8, 2) := by decide +kernel
theorem dX12_stepFor_201 : decode cX12_stepFor 201 = .ok (.iload 7, 2) := by decide +kernel
theorem dX12_stepFor_203 : decode cX12_stepFor 203 = .ok (.aload_n 0, 1) := by decide +kernel
theorem dX12_stepFor_204 : decode cX12_stepFor 204 = .ok (.getfield 372, 3) := by decide +kernel
theorem dX12_stepFor_207 : decode cX12_stepFor 207 = .ok (.iload 5, 2) := by decide +kernel
theorem dX12_stepFor_209 : decode cX12_stepFor 209 = .ok (.iconst 1, 1) := by decide +kernel
theorem dX12_stepFor_210 : decode cX12_stepFor 210 = .ok (.iadd, 1) := by decide +kernel
theorem dX12_stepFor_211 : decode cX12_stepFor 211 = .ok (.iaload, 1) := by decide +kernel
theorem dX12_stepFor_212 : decode cX12_stepFor 212 = .ok (.if_icmp .ge 18, 3) := by decide +kernel
theorem dX12_stepFor_215 : decode cX12_stepFor 215 = .ok (.aload_n 0, 1) := by decide +kernel
theorem dX12_stepFor_216 : decode cX12_stepFor 216 = .ok (.getfield 372, 3) := by decide +kernel
theorem dX12_stepFor_219 : decode cX12_stepFor 219 = .ok (.iload 5, 2) := by decide +kernel
theorem dX12_stepFor_221 : decode cX12_stepFor 221 = .ok (.iconst 4, 1) := by decide +kernel
theorem dX12_stepFor_222 : decode cX12_stepFor 222 = .ok (.iadd, 1) := by decide +kernel
theorem dX12_stepFor_223 : decode cX12_stepFor 223 = .ok (.iload 7, 2) := by decide +kernel
theorem dX12_stepFor_225 : decode cX12_stepFor 225 = .ok (.iadd, 1) := by decide +kernel
theorem dX12_stepFor_226 : decode cX12_stepFor 226 = .ok (.iaload, 1) := by decide +kernel
theorem dX12_stepFor_227 : decode cX12_stepFor 227 = .ok (.goto 4, 3) := by decide +kernel
theorem dX12_stepFor_230 : decode cX12_stepFor 230 = .ok (.iconst 0, 1) := by decide +kernel
theorem dX12_stepFor_231 : decode cX12_stepFor 231 = .ok (.invokevirtual 840, 3) := by decide +kernel
theorem dX12_stepFor_234 : decode cX12_stepFor 234 = .ok (.iinc 7 1, 3) := by decide +kernel
theorem dX12_stepFor_237 : decode cX12_stepFor 237 = .ok (.aload_n 0, 1) := by decide +kernel
theorem dX12_stepFor_238 : decode cX12_stepFor 238 = .ok (.getfield 98, 3) := by decide +kernel
theorem dX12_stepFor_241 : decode cX12_stepFor 241 = .ok (.iload 8, 2) := by decide +kernel
theorem dX12_stepFor_243 : decode cX12_stepFor 243 = .ok (.iaload, 1) := by decide +kernel
theorem dX12_stepFor_244 : decode cX12_stepFor 244 = .ok (.istore 8, 2) := by decide +kernel
theorem dX12_stepFor_246 : decode cX12_stepFor 246 = .ok (.goto (-54), 3) := by decide +kernel
theorem dX12_stepFor_249 : decode cX12_stepFor 249 = .ok (.aload_n 0, 1) := by decide +kernel
theorem dX12_stepFor_250 : decode cX12_stepFor 250 = .ok (.getfield 362, 3) := by decide +kernel
theorem dX12_stepFor_253 : decode cX12_stepFor 253 = .ok (.ifCond .ne 7, 3) := by decide +kernel
theorem dX12_stepFor_256 : decode cX12_stepFor 256 = .ok (.iconst 1, 1) := by decide +kernel
theorem dX12_stepFor_257 : decode cX12_stepFor 257 = .ok (.goto 4, 3) := by decide +kernel
theorem dX12_stepFor_260 : decode cX12_stepFor 260 = .ok (.iconst 0, 1) := by decide +kernel
theorem dX12_stepFor_261 : decode cX12_stepFor 261 = .ok (.ireturn, 1) := by decide +kernel
theorem dX12_loopOf_0 : decode cX12_loopOf 0 = .ok (.aload_n 0, 1) := by decide +kernel
theorem dX12_loopOf_1 : decode cX12_loopOf 1 = .ok (.getfield 291, 3) := by decide +kernel
theorem dX12_loopOf_4 : decode cX12_loopOf 4 = .ok (.aload_n 0, 1) := by decide +kernel
theorem dX12_loopOf_5 : decode cX12_loopOf 5 = .ok (.getfield 95, 3) := by decide +kernel
theorem dX12_loopOf_8 : decode cX12_loopOf 8 = .ok (.iload_n 1, 1) := by decide +kernel
theorem dX12_loopOf_9 : decode cX12_loopOf 9 = .ok (.iaload, 1) := by decide +kernel
theorem dX12_loopOf_10 : decode cX12_loopOf 10 = .ok (.iaload, 1) := by decide +kernel
theorem dX12_loopOf_11 : decode cX12_loopOf 11 = .ok (.istore_n 2, 1) := by decide +kernel
theorem dX12_loopOf_12 : decode cX12_loopOf 12 = .ok (.aload_n 0, 1) := by decide +kernel
theorem dX12_loopOf_13 : decode cX12_loopOf 13 = .ok (.getfield 83, 3) := by decide +kernel
theorem dX12_loopOf_16 : decode cX12_loopOf 16 = .ok (.iload_n 2, 1) := by decide +kernel
theorem dX12_loopOf_17 : decode cX12_loopOf 17 = .ok (.iaload, 1) := by decide +kernel
theorem dX12_loopOf_18 : decode cX12_loopOf 18 = .ok (.bipush 47, 2) := by decide +kernel
theorem dX12_loopOf_20 : decode cX12_loopOf 20 = .ok (.if_icmp .eq 29, 3) := by decide +kernel
theorem dX12_loopOf_23 : decode cX12_loopOf 23 = .ok (.aload_n 0, 1) := by decide +kernel
theorem dX12_loopOf_24 : decode cX12_loopOf 24 = .ok (.getfield 83, 3) := by decide +kernel
theorem dX12_loopOf_27 : decode cX12_loopOf 27 = .ok (.iload_n 2, 1) := by decide +kernel
theorem dX12_loopOf_28 : decode cX12_loopOf 28 = .ok (.iaload, 1) := by decide +kernel
theorem dX12_loopOf_29 : decode cX12_loopOf 29 = .ok (.bipush 48, 2) := by decide +kernel
theorem dX12_loopOf_31 : decode cX12_loopOf 31 = .ok (.if_icmp .eq 18, 3) := by decide +kernel
theorem dX12_loopOf_34 : decode cX12_loopOf 34 = .ok (.aload_n 0, 1) := by decide +kernel
theorem dX12_loopOf_35 : decode cX12_loopOf 35 = .ok (.getfield 291, 3) := by decide +kernel
theorem dX12_loopOf_38 : decode cX12_loopOf 38 = .ok (.aload_n 0, 1) := by decide +kernel
theorem dX12_loopOf_39 : decode cX12_loopOf 39 = .ok (.getfield 95, 3) := by decide +kernel
theorem dX12_loopOf_42 : decode cX12_loopOf 42 = .ok (.iload_n 2, 1) := by decide +kernel
theorem dX12_loopOf_43 : decode cX12_loopOf 43 = .ok (.iaload, 1) := by decide +kernel
theorem dX12_loopOf_44 : decode cX12_loopOf 44 = .ok (.iaload, 1) := by decide +kernel
theorem dX12_loopOf_45 : decode cX12_loopOf 45 = .ok (.istore_n 2, 1) := by decide +kernel
theorem dX12_loopOf_46 : decode cX12_loopOf 46 = .ok (.goto (-34), 3) := by decide +kernel
theorem dX12_loopOf_49 : decode cX12_loopOf 49 = .ok (.iload_n 2, 1) := by decide +kernel
theorem dX12_loopOf_50 : decode cX12_loopOf 50 = .ok (.ireturn, 1) := by decide +kernel
theorem dX12_makePoint_0 : decode cX12_makePoint 0 = .ok (.aload_n 0, 1) := by decide +kernel
theorem dX12_makePoint_1 : decode cX12_makePoint 1 = .ok (.getfield 402, 3) := by decide +kernel
theorem dX12_makePoint_4 : decode cX12_makePoint 4 = .ok (.bipush 20, 2) := by decide +kernel
theorem dX12_makePoint_6 : decode cX12_makePoint 6 = .ok (.if_icmp .eq 23, 3) := by decide +kernel
theorem dX12_makePoint_9 : decode cX12_makePoint 9 = .ok (.aload_n 0, 1) := by decide +kernel
theorem dX12_makePoint_10 : decode cX12_makePoint 10 = .ok (.getfield 852, 3) := by decide +kernel
theorem dX12_makePoint_13 : decode cX12_makePoint 13 = .ok (.aload_n 0, 1) := by decide +kernel
theorem dX12_makePoint_14 : decode cX12_makePoint 14 = .ok (.getfield 855, 3) := by decide +kernel
theorem dX12_makePoint_17 : decode cX12_makePoint 17 = .ok (.iadd, 1) := by decide +kernel
theorem dX12_makePoint_18 : decode cX12_makePoint 18 = .ok (.aload_n 0, 1) := by decide +kernel
theorem dX12_makePoint_19 : decode cX12_makePoint 19 = .ok (.getfield 852, 3) := by decide +kernel
theorem dX12_makePoint_22 : decode cX12_makePoint 22 = .ok (.iadd, 1) := by decide +kernel
theorem dX12_makePoint_23 : decode cX12_makePoint 23 = .ok (.ldc_w 858, 3) := by decide +kernel
theorem dX12_makePoint_26 : decode cX12_makePoint 26 = .ok (.if_icmp .le 10, 3) := by decide +kernel
theorem dX12_makePoint_29 : decode cX12_makePoint 29 = .ok (.aload_n 0, 1) := by decide +kernel
theorem dX12_makePoint_30 : decode cX12_makePoint 30 = .ok (.bipush 6, 2) := by decide +kernel
theorem dX12_makePoint_32 : decode cX12_makePoint 32 = .ok (.invokevirtual 369, 3) := by decide +kernel
theorem dX12_makePoint_35 : decode cX12_makePoint 35 = .ok (.return_, 1) := by decide +kernel
theorem dX12_makePoint_36 : decode cX12_makePoint 36 = .ok (.aload_n 0, 1) := by decide +kernel
theorem dX12_makePoint_37 : decode cX12_makePoint 37 = .ok (.getfield 395, 3) := by decide +kernel
theorem dX12_makePoint_40 : decode cX12_makePoint 40 = .ok (.iconst 0, 1) := by decide +kernel
theorem dX12_makePoint_41 : decode cX12_makePoint 41 = .ok (.iload_n 1, 1) := by decide +kernel
theorem dX12_makePoint_42 : decode cX12_makePoint 42 = .ok (.iastore, 1) := by decide +kernel
theorem dX12_makePoint_43 : decode cX12_makePoint 43 = .ok (.iconst 0, 1) := by decide +kernel
theorem dX12_makePoint_44 : decode cX12_makePoint 44 = .ok (.istore_n 2, 1) := by decide +kernel
theorem dX12_makePoint_45 : decode cX12_makePoint 45 = .ok (.iload_n 2, 1) := by decide +kernel
theorem dX12_makePoint_46 : decode cX12_makePoint 46 = .ok (.sipush 11514, 3) := by decide +kernel
theorem dX12_makePoint_49 : decode cX12_makePoint 49 = .ok (.if_icmp .ge 30, 3) := by decide +kernel
theorem dX12_makePoint_52 : decode cX12_makePoint 52 = .ok (.aload_n 0, 1) := by decide +kernel
theorem dX12_makePoint_53 : decode cX12_makePoint 53 = .ok (.getfield 405, 3) := by decide +kernel
theorem dX12_makePoint_56 : decode cX12_makePoint 56 = .ok (.sipush 11514, 3) := by decide +kernel
theorem dX12_makePoint_59 : decode cX12_makePoint 59 = .ok (.aload_n 0, 1) := by decide +kernel
theorem dX12_makePoint_60 : decode cX12_makePoint 60 = .ok (.getfield 402, 3) := by decide +kernel
theorem dX12_makePoint_63 : decode cX12_makePoint 63 = .ok (.imul, 1) := by decide +kernel
theorem dX12_makePoint_64 : decode cX12_makePoint 64 = .ok (.iload_n 2, 1) := by decide +kernel
theorem dX12_makePoint_65 : decode cX12_makePoint 65 = .ok (.iadd, 1) := by decide +kernel
theorem dX12_makePoint_66 : decode cX12_makePoint 66 = .ok (.aload_n 0, 1) := by decide +kernel
theorem dX12_makePoint_67 : decode cX12_makePoint 67 = .ok (.getfield 395, 3) := by decide +kernel
theorem dX12_makePoint_70 : decode cX12_makePoint 70 = .ok (.iload_n 2, 1) := by decide +kernel
theorem dX12_makePoint_71 : decode cX12_makePoint 71 = .ok (.iaload, 1) := by decide +kernel
theorem dX12_makePoint_72 : decode cX12_makePoint 72 = .ok (.iastore, 1) := by decide +kernel
theorem dX12_makePoint_73 : decode cX12_makePoint 73 = .ok (.iinc 2 1, 3) := by decide +kernel
theorem dX12_makePoint_76 : decode cX12_makePoint 76 = .ok (.goto (-31), 3) := by decide +kernel
theorem dX12_makePoint_79 : decode cX12_makePoint 79 = .ok (.aload_n 0, 1) := by decide +kernel
theorem dX12_makePoint_80 : decode cX12_makePoint 80 = .ok (.getfield 968, 3) := by decide +kernel
theorem dX12_makePoint_83 : decode cX12_makePoint 83 = .ok (.aload_n 0, 1) := by decide +kernel
theorem dX12_makePoint_84 : decode cX12_makePoint 84 = .ok (.getfield 402, 3) := by decide +kernel
theorem dX12_makePoint_87 : decode cX12_makePoint 87 = .ok (.aload_n 0, 1) := by decide +kernel
theorem dX12_makePoint_88 : decode cX12_makePoint 88 = .ok (.getfield 852, 3) := by decide +kernel
theorem dX12_makePoint_91 : decode cX12_makePoint 91 = .ok (.iastore, 1) := by decide +kernel
theorem dX12_makePoint_92 : decode cX12_makePoint 92 = .ok (.aload_n 0, 1) := by decide +kernel
theorem dX12_makePoint_93 : decode cX12_makePoint 93 = .ok (.dup, 1) := by decide +kernel
theorem dX12_makePoint_94 : decode cX12_makePoint 94 = .ok (.getfield 855, 3) := by decide +kernel
theorem dX12_makePoint_97 : decode cX12_makePoint 97 = .ok (.aload_n 0, 1) := by decide +kernel
theorem dX12_makePoint_98 : decode cX12_makePoint 98 = .ok (.getfield 852, 3) := by decide +kernel
theorem dX12_makePoint_101 : decode cX12_makePoint 101 = .ok (.iadd, 1) := by decide +kernel
theorem dX12_makePoint_102 : decode cX12_makePoint 102 = .ok (.putfield 855, 3) := by decide +kernel
theorem dX12_makePoint_105 : decode cX12_makePoint 105 = .ok (.aload_n 0, 1) := by decide +kernel
theorem dX12_makePoint_106 : decode cX12_makePoint 106 = .ok (.dup, 1) := by decide +kernel
theorem dX12_makePoint_107 : decode cX12_makePoint 107 = .ok (.getfield 402, 3) := by decide +kernel
theorem dX12_makePoint_110 : decode cX12_makePoint 110 = .ok (.iconst 1, 1) := by decide +kernel
theorem dX12_makePoint_111 : decode cX12_makePoint 111 = .ok (.iadd, 1) := by decide +kernel
theorem dX12_makePoint_112 : decode cX12_makePoint 112 = .ok (.putfield 402, 3) := by decide +kernel
theorem dX12_makePoint_115 : decode cX12_makePoint 115 = .ok (.return_, 1) := by decide +kernel
theorem dX12_putOut_0 : decode cX12_putOut 0 = .ok (.aload_n 0, 1) := by decide +kernel
theorem dX12_putOut_1 : decode cX12_putOut 1 = .ok (.getfield 977, 3) := by decide +kernel
theorem dX12_putOut_4 : decode cX12_putOut 4 = .ok (.ldc_w 368, 3) := by decide +kernel
theorem dX12_putOut_7 : decode cX12_putOut 7 = .ok (.if_icmp .ge 13, 3) := by decide +kernel
theorem dX12_putOut_10 : decode cX12_putOut 10 = .ok (.aload_n 0, 1) := by decide +kernel
theorem dX12_putOut_11 : decode cX12_putOut 11 = .ok (.getfield 980, 3) := by decide +kernel
theorem dX12_putOut_14 : decode cX12_putOut 14 = .ok (.aload_n 0, 1) := by decide +kernel
theorem dX12_putOut_15 : decode cX12_putOut 15 = .ok (.getfield 977, 3) := by decide +kernel
theorem dX12_putOut_18 : decode cX12_putOut 18 = .ok (.iload_n 1, 1) := by decide +kernel
theorem dX12_putOut_19 : decode cX12_putOut 19 = .ok (.iastore, 1) := by decide +kernel
theorem dX12_putOut_20 : decode cX12_putOut 20 = .ok (.aload_n 0, 1) := by decide +kernel
theorem dX12_putOut_21 : decode cX12_putOut 21 = .ok (.dup, 1) := by decide +kernel
theorem dX12_putOut_22 : decode cX12_putOut 22 = .ok (.getfield 977, 3) := by decide +kernel
theorem dX12_putOut_25 : decode cX12_putOut 25 = .ok (.aload_n 0, 1) := by decide +kernel
theorem dX12_putOut_26 : decode cX12_putOut 26 = .ok (.getfield 977, 3) := by decide +kernel
theorem dX12_putOut_29 : decode cX12_putOut 29 = .ok (.ldc_w 983, 3) := by decide +kernel
theorem dX12_putOut_32 : decode cX12_putOut 32 = .ok (.if_icmp .ge 7, 3) := by decide +kernel
theorem dX12_putOut_35 : decode cX12_putOut 35 = .ok (.iconst 1, 1) := by decide +kernel
theorem dX12_putOut_36 : decode cX12_putOut 36 = .ok (.goto 4, 3) := by decide +kernel
theorem dX12_putOut_39 : decode cX12_putOut 39 = .ok (.iconst 0, 1) := by decide +kernel
theorem dX12_putOut_40 : decode cX12_putOut 40 = .ok (.iadd, 1) := by decide +kernel
theorem dX12_putOut_41 : decode cX12_putOut 41 = .ok (.putfield 977, 3) := by decide +kernel
theorem dX12_putOut_44 : decode cX12_putOut 44 = .ok (.return_, 1) := by decide +kernel
theorem dX12_beginText_0 : decode cX12_beginText 0 = .ok (.aload_n 0, 1) := by decide +kernel
theorem dX12_beginText_1 : decode cX12_beginText 1 = .ok (.iconst 0, 1) := by decide +kernel
theorem dX12_beginText_2 : decode cX12_beginText 2 = .ok (.putfield 21, 3) := by decide +kernel
theorem dX12_beginText_5 : decode cX12_beginText 5 = .ok (.aload_n 0, 1) := by decide +kernel
theorem dX12_beginText_6 : decode cX12_beginText 6 = .ok (.iconst 0, 1) := by decide +kernel
theorem dX12_beginText_7 : decode cX12_beginText 7 = .ok (.putfield 11, 3) := by decide +kernel
theorem dX12_beginText_10 : decode cX12_beginText 10 = .ok (.aload_n 0, 1) := by decide +kernel
theorem dX12_beginText_11 : decode cX12_beginText 11 = .ok (.iconst 0, 1) := by decide +kernel
theorem dX12_beginText_12 : decode cX12_beginText 12 = .ok (.putfield 77, 3) := by decide +kernel
theorem dX12_beginText_15 : decode cX12_beginText 15 = .ok (.aload_n 0, 1) := by decide +kernel
theorem dX12_beginText_16 : decode cX12_beginText 16 = .ok (.iconst 0, 1) := by decide +kernel
theorem dX12_beginText_17 : decode cX12_beginText 17 = .ok (.putfield 114, 3) := by decide +kernel
theorem dX12_beginText_20 : decode cX12_beginText 20 = .ok (.aload_n 0, 1) := by decide +kernel
theorem dX12_beginText_21 : decode cX12_beginText 21 = .ok (.iconst 0, 1) := by decide +kernel
theorem dX12_beginText_22 : decode cX12_beginText 22 = .ok (.putfield 256, 3) := by decide +kernel
theorem dX12_beginText_25 : decode cX12_beginText 25 = .ok (.aload_n 0, 1) := by decide +kernel
theorem dX12_beginText_26 : decode cX12_beginText 26 = .ok (.iconst 0, 1) := by decide +kernel
theorem dX12_beginText_27 : decode cX12_beginText 27 = .ok (.putfield 321, 3) := by decide +kernel
theorem dX12_beginText_30 : decode cX12_beginText 30 = .ok (.return_, 1) := by decide +kernel
theorem dX12_good_0 : decode cX12_good 0 = .ok (.aload_n 0, 1) := by decide +kernel
theorem dX12_good_1 : decode cX12_good 1 = .ok (.iload_n 1, 1) := by decide +kernel
theorem dX12_good_2 : decode cX12_good 2 = .ok (.putfield 993, 3) := by decide +kernel
theorem dX12_good_5 : decode cX12_good 5 = .ok (.iload_n 1, 1) := by decide +kernel
theorem dX12_good_6 : decode cX12_good 6 = .ok (.ifCond .ne 7, 3) := by decide +kernel
theorem dX12_good_9 : decode cX12_good 9 = .ok (.iconst 1, 1) := by decide +kernel
theorem dX12_good_10 : decode cX12_good 10 = .ok (.goto 4, 3) := by decide +kernel
theorem dX12_good_13 : decode cX12_good 13 = .ok (.iconst 0, 1) := by decide +kernel
theorem dX12_good_14 : decode cX12_good 14 = .ok (.ireturn, 1) := by decide +kernel
theorem dX12_init__0 : decode cX12_init_ 0 = .ok (.aload_n 0, 1) := by decide +kernel
theorem dX12_init__1 : decode cX12_init_ 1 = .ok (.iconst 0, 1) := by decide +kernel
theorem dX12_init__2 : decode cX12_init_ 2 = .ok (.putfield 993, 3) := by decide +kernel
theorem dX12_init__5 : decode cX12_init_ 5 = .ok (.aload_n 0, 1) := by decide +kernel
theorem dX12_init__6 : decode cX12_init_ 6 = .ok (.iconst 0, 1) := by decide +kernel
theorem dX12_init__7 : decode cX12_init_ 7 = .ok (.putfield 1, 3) := by decide +kernel
theorem dX12_init__10 : decode cX12_init_ 10 = .ok (.aload_n 0, 1) := by decide +kernel
theorem dX12_init__11 : decode cX12_init_ 11 = .ok (.iconst 0, 1) := by decide +kernel
theorem dX12_init__12 : decode cX12_init_ 12 = .ok (.putfield 15, 3) := by decide +kernel
theorem dX12_init__15 : decode cX12_init_ 15 = .ok (.aload_n 0, 1) := by decide +kernel
theorem dX12_init__16 : decode cX12_init_ 16 = .ok (.iconst 0, 1) := by decide +kernel
theorem dX12_init__17 : decode cX12_init_ 17 = .ok (.putfield 378, 3) := by decide +kernel
theorem dX12_init__20 : decode cX12_init_ 20 = .ok (.aload_n 0, 1) := by decide +kernel
theorem dX12_init__21 : decode cX12_init_ 21 = .ok (.iconst 4, 1) := by decide +kernel
theorem dX12_init__22 : decode cX12_init_ 22 = .ok (.putfield 375, 3) := by decide +kernel
theorem dX12_init__25 : decode cX12_init_ 25 = .ok (.aload_n 0, 1) := by decide +kernel
theorem dX12_init__26 : decode cX12_init_ 26 = .ok (.iconst 0, 1) := by decide +kernel
theorem dX12_init__27 : decode cX12_init_ 27 = .ok (.putfield 385, 3) := by decide +kernel
theorem dX12_init__30 : decode cX12_init_ 30 = .ok (.aload_n 0, 1) := by decide +kernel
theorem dX12_init__31 : decode cX12_init_ 31 = .ok (.iconst 0, 1) := by decide +kernel
theorem dX12_init__32 : decode cX12_init_ 32 = .ok (.putfield 414, 3) := by decide +kernel
theorem dX12_init__35 : decode cX12_init_ 35 = .ok (.aload_n 0, 1) := by decide +kernel
theorem dX12_init__36 : decode cX12_init_ 36 = .ok (.iconst 0, 1) := by decide +kernel
theorem dX12_init__37 : decode cX12_init_ 37 = .ok (.putfield 402, 3) := by decide +kernel
theorem dX12_init__40 : decode cX12_init_ 40 = .ok (.aload_n 0, 1) := by decide +kernel
theorem dX12_init__41 : decode cX12_init_ 41 = .ok (.iconst 0, 1) := by decide +kernel
theorem dX12_init__42 : decode cX12_init_ 42 = .ok (.putfield 855, 3) := by decide +kernel
theorem dX12_init__45 : decode cX12_init_ 45 = .ok (.aload_n 0, 1) := by decide +kernel
theorem dX12_init__46 : decode cX12_init_ 46 = .ok (.iconst 0, 1) := by decide +kernel
theorem dX12_init__47 : decode cX12_init_ 47 = .ok (.putfield 1029, 3) := by decide +kernel
theorem dX12_init__50 : decode cX12_init_ 50 = .ok (.aload_n 0, 1) := by decide +kernel
theorem dX12_init__51 : decode cX12_init_ 51 = .ok (.iconst 0, 1) := by decide +kernel
theorem dX12_init__52 : decode cX12_init_ 52 = .ok (.putfield 1032, 3) := by decide +kernel
theorem dX12_init__55 : decode cX12_init_ 55 = .ok (.aload_n 0, 1) := by decide +kernel
theorem dX12_init__56 : decode cX12_init_ 56 = .ok (.iconst 0, 1) := by decide +kernel
theorem dX12_init__57 : decode cX12_init_ 57 = .ok (.putfield 1035, 3) := by decide +kernel
theorem dX12_init__60 : decode cX12_init_ 60 = .ok (.aload_n 0, 1) := by decide +kernel
theorem dX12_init__61 : decode cX12_init_ 61 = .ok (.iconst 0, 1) := by decide +kernel
theorem dX12_init__62 : decode cX12_init_ 62 = .ok (.putfield 1038, 3) := by decide +kernel
theorem dX12_init__65 : decode cX12_init_ 65 = .ok (.aload_n 0, 1) := by decide +kernel
theorem dX12_init__66 : decode cX12_init_ 66 = .ok (.getfield 426, 3) := by decide +kernel
theorem dX12_init__69 : decode cX12_init_ 69 = .ok (.iconst 0, 1) := by decide +kernel
theorem dX12_init__70 : decode cX12_init_ 70 = .ok (.iconst 0, 1) := by decide +kernel
theorem dX12_init__71 : decode cX12_init_ 71 = .ok (.iastore, 1) := by decide +kernel
theorem dX12_init__72 : decode cX12_init_ 72 = .ok (.aload_n 0, 1) := by decide +kernel
theorem dX12_init__73 : decode cX12_init_ 73 = .ok (.getfield 426, 3) := by decide +kernel
theorem dX12_init__76 : decode cX12_init_ 76 = .ok (.iconst 1, 1) := by decide +kernel
theorem dX12_init__77 : decode cX12_init_ 77 = .ok (.iconst 0, 1) := by decide +kernel
theorem dX12_init__78 : decode cX12_init_ 78 = .ok (.iastore, 1) := by decide +kernel
theorem dX12_init__79 : decode cX12_init_ 79 = .ok (.aload_n 0, 1) := by decide +kernel
theorem dX12_init__80 : decode cX12_init_ 80 = .ok (.iconst 0, 1) := by decide +kernel
theorem dX12_init__81 : decode cX12_init_ 81 = .ok (.putfield 1041, 3) := by decide +kernel
theorem dX12_init__84 : decode cX12_init_ 84 = .ok (.aload_n 0, 1) := by decide +kernel
theorem dX12_init__85 : decode cX12_init_ 85 = .ok (.iconst 0, 1) := by decide +kernel
theorem dX12_init__86 : decode cX12_init_ 86 = .ok (.putfield 1044, 3) := by decide +kernel
theorem dX12_init__89 : decode cX12_init_ 89 = .ok (.aload_n 0, 1) := by decide +kernel
theorem dX12_init__90 : decode cX12_init_ 90 = .ok (.iconst 0, 1) := by decide +kernel
theorem dX12_init__91 : decode cX12_init_ 91 = .ok (.putfield 1047, 3) := by decide +kernel
theorem dX12_init__94 : decode cX12_init_ 94 = .ok (.aload_n 0, 1) := by decide +kernel
theorem dX12_init__95 : decode cX12_init_ 95 = .ok (.iconst 1, 1) := by decide +kernel
theorem dX12_init__96 : decode cX12_init_ 96 = .ok (.putfield 80, 3) := by decide +kernel
theorem dX12_init__99 : decode cX12_init_ 99 = .ok (.aload_n 0, 1) := by decide +kernel
theorem dX12_init__100 : decode cX12_init_ 100 = .ok (.iconst 0, 1) := by decide +kernel
theorem dX12_init__101 : decode cX12_init_ 101 = .ok (.putfield 105, 3) := by decide +kernel
theorem dX12_init__104 : decode cX12_init_ 104 = .ok (.aload_n 0, 1) := by decide +kernel
theorem dX12_init__105 : decode cX12_init_ 105 = .ok (.iconst 0, 1) := by decide +kernel
theorem dX12_init__106 : decode cX12_init_ 106 = .ok (.putfield 139, 3) := by decide +kernel
theorem dX12_init__109 : decode cX12_init_ 109 = .ok (.aload_n 0, 1) := by decide +kernel
theorem dX12_init__110 : decode cX12_init_ 110 = .ok (.getfield 157, 3) := by decide +kernel
theorem dX12_init__113 : decode cX12_init_ 113 = .ok (.iconst 0, 1) := by decide +kernel
theorem dX12_init__114 : decode cX12_init_ 114 = .ok (.iconst 0, 1) := by decide +kernel
theorem dX12_init__115 : decode cX12_init_ 115 = .ok (.iastore, 1) := by decide +kernel
theorem dX12_init__116 : decode cX12_init_ 116 = .ok (.aload_n 0, 1) := by decide +kernel
theorem dX12_init__117 : decode cX12_init_ 117 = .ok (.iconst 0, 1) := by decide +kernel
theorem dX12_init__118 : decode cX12_init_ 118 = .ok (.putfield 297, 3) := by decide +kernel
theorem dX12_init__121 : decode cX12_init_ 121 = .ok (.aload_n 0, 1) := by decide +kernel
theorem dX12_init__122 : decode cX12_init_ 122 = .ok (.iconst 0, 1) := by decide +kernel
theorem dX12_init__123 : decode cX12_init_ 123 = .ok (.putfield 349, 3) := by decide +kernel
theorem dX12_init__126 : decode cX12_init_ 126 = .ok (.aload_n 0, 1) := by decide +kernel
theorem dX12_init__127 : decode cX12_init_ 127 = .ok (.getfield 395, 3) := by decide +kernel
theorem dX12_init__130 : decode cX12_init_ 130 = .ok (.iconst 1, 1) := by decide +kernel
theorem dX12_init__131 : decode cX12_init_ 131 = .ok (.iconst 0, 1) := by decide +kernel
theorem dX12_init__132 : decode cX12_init_ 132 = .ok (.iastore, 1) := by decide +kernel
theorem dX12_init__133 : decode cX12_init_ 133 = .ok (.aload_n 0, 1) := by decide +kernel
theorem dX12_init__134 : decode cX12_init_ 134 = .ok (.getfield 395, 3) := by decide +kernel
theorem dX12_init__137 : decode cX12_init_ 137 = .ok (.iconst 3, 1) := by decide +kernel
theorem dX12_init__138 : decode cX12_init_ 138 = .ok (.iconst 0, 1) := by decide +kernel
theorem dX12_init__139 : decode cX12_init_ 139 = .ok (.iastore, 1) := by decide +kernel
theorem dX12_init__140 : decode cX12_init_ 140 = .ok (.aload_n 0, 1) := by decide +kernel
theorem dX12_init__141 : decode cX12_init_ 141 = .ok (.getfield 395, 3) := by decide +kernel
theorem dX12_init__144 : decode cX12_init_ 144 = .ok (.iconst 2, 1) := by decide +kernel
theorem dX12_init__145 : decode cX12_init_ 145 = .ok (.iconst 0, 1) := by decide +kernel
theorem dX12_init__146 : decode cX12_init_ 146 = .ok (.iastore, 1) := by decide +kernel
theorem dX12_init__147 : decode cX12_init_ 147 = .ok (.iconst 0, 1) := by decide +kernel
theorem dX12_init__148 : decode cX12_init_ 148 = .ok (.istore_n 1, 1) := by decide +kernel
theorem dX12_init__149 : decode cX12_init_ 149 = .ok (.iload_n 1, 1) := by decide +kernel
theorem dX12_init__150 : decode cX12_init_ 150 = .ok (.bipush 60, 2) := by decide +kernel
theorem dX12_init__152 : decode cX12_init_ 152 = .ok (.if_icmp .ge 18, 3) := by decide +kernel
theorem dX12_init__155 : decode cX12_init_ 155 = .ok (.aload_n 0, 1) := by decide +kernel
theorem dX12_init__156 : decode cX12_init_ 156 = .ok (.getfield 395, 3) := by decide +kernel
theorem dX12_init__159 : decode cX12_init_ 159 = .ok (.iconst 4, 1) := by decide +kernel
theorem dX12_init__160 : decode cX12_init_ 160 = .ok (.iload_n 1, 1) := by decide +kernel
theorem dX12_init__161 : decode cX12_init_ 161 = .ok (.iadd, 1) := by decide +kernel
theorem dX12_init__162 : decode cX12_init_ 162 = .ok (.iconst 0, 1) := by decide +kernel
theorem dX12_init__163 : decode cX12_init_ 163 = .ok (.iastore, 1) := by decide +kernel
theorem dX12_init__164 : decode cX12_init_ 164 = .ok (.iinc 1 1, 3) := by decide +kernel
theorem dX12_init__167 : decode cX12_init_ 167 = .ok (.goto (-18), 3) := by decide +kernel
theorem dX12_init__170 : decode cX12_init_ 170 = .ok (.iconst 0, 1) := by decide +kernel
theorem dX12_init__171 : decode cX12_init_ 171 = .ok (.istore_n 1, 1) := by decide +kernel
theorem dX12_init__172 : decode cX12_init_ 172 = .ok (.iload_n 1, 1) := by decide +kernel
theorem dX12_init__173 : decode cX12_init_ 173 = .ok (.sipush 1380, 3) := by decide +kernel
theorem dX12_init__176 : decode cX12_init_ 176 = .ok (.if_icmp .ge 16, 3) := by decide +kernel
theorem dX12_init__179 : decode cX12_init_ 179 = .ok (.aload_n 0, 1) := by decide +kernel
theorem dX12_init__180 : decode cX12_init_ 180 = .ok (.getfield 408, 3) := by decide +kernel
theorem dX12_init__183 : decode cX12_init_ 183 = .ok (.iload_n 1, 1) := by decide +kernel
theorem dX12_init__184 : decode cX12_init_ 184 = .ok (.iconst 0, 1) := by decide +kernel
theorem dX12_init__185 : decode cX12_init_ 185 = .ok (.iastore, 1) := by decide +kernel
theorem dX12_init__186 : decode cX12_init_ 186 = .ok (.iinc 1 1, 3) := by decide +kernel
theorem dX12_init__189 : decode cX12_init_ 189 = .ok (.goto (-17), 3) := by decide +kernel
theorem dX12_init__192 : decode cX12_init_ 192 = .ok (.iconst 0, 1) := by decide +kernel
theorem dX12_init__193 : decode cX12_init_ 193 = .ok (.istore_n 1, 1) := by decide +kernel
theorem dX12_init__194 : decode cX12_init_ 194 = .ok (.iload_n 1, 1) := by decide +kernel
theorem dX12_init__195 : decode cX12_init_ 195 = .ok (.bipush 8, 2) := by decide +kernel
theorem dX12_init__197 : decode cX12_init_ 197 = .ok (.if_icmp .ge 30, 3) := by decide +kernel
theorem dX12_init__200 : decode cX12_init_ 200 = .ok (.aload_n 0, 1) := by decide +kernel
theorem dX12_init__201 : decode cX12_init_ 201 = .ok (.getfield 417, 3) := by decide +kernel
theorem dX12_init__204 : decode cX12_init_ 204 = .ok (.iload_n 1, 1) := by decide +kernel
theorem dX12_init__205 : decode cX12_init_ 205 = .ok (.iconst 0, 1) := by decide +kernel
theorem dX12_init__206 : decode cX12_init_ 206 = .ok (.iastore, 1) := by decide +kernel
theorem dX12_init__207 : decode cX12_init_ 207 = .ok (.aload_n 0, 1) := by decide +kernel
theorem dX12_init__208 : decode cX12_init_ 208 = .ok (.getfield 420, 3) := by decide +kernel
theorem dX12_init__211 : decode cX12_init_ 211 = .ok (.iload_n 1, 1) := by decide +kernel
theorem dX12_init__212 : decode cX12_init_ 212 = .ok (.iconst 0, 1) := by decide +kernel
theorem dX12_init__213 : decode cX12_init_ 213 = .ok (.iastore, 1) := by decide +kernel
theorem dX12_init__214 : decode cX12_init_ 214 = .ok (.aload_n 0, 1) := by decide +kernel
theorem dX12_init__215 : decode cX12_init_ 215 = .ok (.getfield 423, 3) := by decide +kernel
theorem dX12_init__218 : decode cX12_init_ 218 = .ok (.iload_n 1, 1) := by decide +kernel
theorem dX12_init__219 : decode cX12_init_ 219 = .ok (.iconst 0, 1) := by decide +kernel
theorem dX12_init__220 : decode cX12_init_ 220 = .ok (.iastore, 1) := by decide +kernel
theorem dX12_init__221 : decode cX12_init_ 221 = .ok (.iinc 1 1, 3) := by decide +kernel
theorem dX12_init__224 : decode cX12_init_ 224 = .ok (.goto (-30), 3) := by decide +kernel
theorem dX12_init__227 : decode cX12_init_ 227 = .ok (.return_, 1) := by decide +kernel
theorem dX12_thrown_0 : decode cX12_thrown 0 = .ok (.aload_n 0, 1) := by decide +kernel
theorem dX12_thrown_1 : decode cX12_thrown 1 = .ok (.getfield 993, 3) := by decide +kernel
theorem dX12_thrown_4 : decode cX12_thrown 4 = .ok (.ireturn, 1) := by decide +kernel
theorem dX12_end_0 : decode cX12_end 0 = .ok (.aload_n 0, 1) := by decide +kernel
theorem dX12_end_1 : decode cX12_end 1 = .ok (.iload_n 1, 1) := by decide +kernel
theorem dX12_end_2 : decode cX12_end 2 = .ok (.ifCond .lt 11, 3) := by decide +kernel
theorem dX12_end_5 : decode cX12_end 5 = .ok (.iload_n 1, 1) := by decide +kernel
theorem dX12_end_6 : decode cX12_end 6 = .ok (.aload_n 0, 1) := by decide +kernel
theorem dX12_end_7 : decode cX12_end 7 = .ok (.getfield 1, 3) := by decide +kernel
theorem dX12_end_10 : decode cX12_end 10 = .ok (.if_icmp .le 7, 3) := by decide +kernel
theorem dX12_end_13 : decode cX12_end 13 = .ok (.iconst 1, 1) := by decide +kernel
theorem dX12_end_14 : decode cX12_end 14 = .ok (.goto 4, 3) := by decide +kernel
theorem dX12_end_17 : decode cX12_end 17 = .ok (.iconst 0, 1) := by decide +kernel
theorem dX12_end_18 : decode cX12_end 18 = .ok (.invokevirtual 1050, 3) := by decide +kernel
theorem dX12_end_21 : decode cX12_end 21 = .ok (.ifCond .eq 8, 3) := by decide +kernel
theorem dX12_end_24 : decode cX12_end 24 = .ok (.aload_n 0, 1) := by decide +kernel
theorem dX12_end_25 : decode cX12_end 25 = .ok (.iload_n 1, 1) := by decide +kernel
theorem dX12_end_26 : decode cX12_end 26 = .ok (.putfield 1, 3) := by decide +kernel
theorem dX12_end_29 : decode cX12_end 29 = .ok (.return_, 1) := by decide +kernel
theorem dX12_fault__0 : decode cX12_fault_ 0 = .ok (.aload_n 0, 1) := by decide +kernel
theorem dX12_fault__1 : decode cX12_fault_ 1 = .ok (.iconst 0, 1) := by decide +kernel
theorem dX12_fault__2 : decode cX12_fault_ 2 = .ok (.putfield 993, 3) := by decide +kernel
theorem dX12_fault__5 : decode cX12_fault_ 5 = .ok (.aload_n 0, 1) := by decide +kernel
theorem dX12_fault__6 : decode cX12_fault_ 6 = .ok (.getfield 15, 3) := by decide +kernel
theorem dX12_fault__9 : decode cX12_fault_ 9 = .ok (.ireturn, 1) := by decide +kernel
theorem dX12_out_0 : decode cX12_out 0 = .ok (.aload_n 0, 1) := by decide +kernel
theorem dX12_out_1 : decode cX12_out 1 = .ok (.aload_n 0, 1) := by decide +kernel
theorem dX12_out_2 : decode cX12_out 2 = .ok (.getfield 1044, 3) := by decide +kernel
theorem dX12_out_5 : decode cX12_out 5 = .ok (.ifCond .eq 22, 3) := by decide +kernel
theorem dX12_out_8 : decode cX12_out 8 = .ok (.iload_n 1, 1) := by decide +kernel
theorem dX12_out_9 : decode cX12_out 9 = .ok (.ifCond .lt 18, 3) := by decide +kernel
theorem dX12_out_12 : decode cX12_out 12 = .ok (.iload_n 1, 1) := by decide +kernel
theorem dX12_out_13 : decode cX12_out 13 = .ok (.aload_n 0, 1) := by decide +kernel
theorem dX12_out_14 : decode cX12_out 14 = .ok (.getfield 977, 3) := by decide +kernel
theorem dX12_out_17 : decode cX12_out 17 = .ok (.if_icmp .ge 10, 3) := by decide +kernel
theorem dX12_out_20 : decode cX12_out 20 = .ok (.iload_n 1, 1) := by decide +kernel
theorem dX12_out_21 : decode cX12_out 21 = .ok (.ldc_w 368, 3) := by decide +kernel
theorem dX12_out_24 : decode cX12_out 24 = .ok (.if_icmp .lt 7, 3) := by decide +kernel
theorem dX12_out_27 : decode cX12_out 27 = .ok (.iconst 1, 1) := by decide +kernel
theorem dX12_out_28 : decode cX12_out 28 = .ok (.goto 4, 3) := by decide +kernel
theorem dX12_out_31 : decode cX12_out 31 = .ok (.iconst 0, 1) := by decide +kernel
theorem dX12_out_32 : decode cX12_out 32 = .ok (.invokevirtual 1050, 3) := by decide +kernel
theorem dX12_out_35 : decode cX12_out 35 = .ok (.ifCond .eq 12, 3) := by decide +kernel
theorem dX12_out_38 : decode cX12_out 38 = .ok (.aload_n 0, 1) := by decide +kernel
theorem dX12_out_39 : decode cX12_out 39 = .ok (.getfield 980, 3) := by decide +kernel
theorem dX12_out_42 : decode cX12_out 42 = .ok (.iload_n 1, 1) := by decide +kernel
theorem dX12_out_43 : decode cX12_out 43 = .ok (.iaload, 1) := by decide +kernel
theorem dX12_out_44 : decode cX12_out 44 = .ok (.goto 4, 3) := by decide +kernel
theorem dX12_out_47 : decode cX12_out 47 = .ok (.iconst 0, 1) := by decide +kernel
theorem dX12_out_48 : decode cX12_out 48 = .ok (.ireturn, 1) := by decide +kernel
theorem dX12_shown_0 : decode cX12_shown 0 = .ok (.aload_n 0, 1) := by decide +kernel
theorem dX12_shown_1 : decode cX12_shown 1 = .ok (.iload_n 1, 1) := by decide +kernel
theorem dX12_shown_2 : decode cX12_shown 2 = .ok (.ifCond .lt 11, 3) := by decide +kernel
theorem dX12_shown_5 : decode cX12_shown 5 = .ok (.iload_n 1, 1) := by decide +kernel
theorem dX12_shown_6 : decode cX12_shown 6 = .ok (.aload_n 0, 1) := by decide +kernel
theorem dX12_shown_7 : decode cX12_shown 7 = .ok (.getfield 1038, 3) := by decide +kernel
theorem dX12_shown_10 : decode cX12_shown 10 = .ok (.if_icmp .lt 7, 3) := by decide +kernel
theorem dX12_shown_13 : decode cX12_shown 13 = .ok (.iconst 1, 1) := by decide +kernel
theorem dX12_shown_14 : decode cX12_shown 14 = .ok (.goto 4, 3) := by decide +kernel
theorem dX12_shown_17 : decode cX12_shown 17 = .ok (.iconst 0, 1) := by decide +kernel
theorem dX12_shown_18 : decode cX12_shown 18 = .ok (.invokevirtual 1050, 3) := by decide +kernel
theorem dX12_shown_21 : decode cX12_shown 21 = .ok (.ifCond .eq 12, 3) := by decide +kernel
theorem dX12_shown_24 : decode cX12_shown 24 = .ok (.aload_n 0, 1) := by decide +kernel
theorem dX12_shown_25 : decode cX12_shown 25 = .ok (.getfield 1023, 3) := by decide +kernel
theorem dX12_shown_28 : decode cX12_shown 28 = .ok (.iload_n 1, 1) := by decide +kernel
theorem dX12_shown_29 : decode cX12_shown 29 = .ok (.iaload, 1) := by decide +kernel
theorem dX12_shown_30 : decode cX12_shown 30 = .ok (.goto 4, 3) := by decide +kernel
theorem dX12_shown_33 : decode cX12_shown 33 = .ok (.iconst 0, 1) := by decide +kernel
theorem dX12_shown_34 : decode cX12_shown 34 = .ok (.ireturn, 1) := by decide +kernel
theorem dX12_shape_0 : decode cX12_shape 0 = .ok (.aload_n 0, 1) := by decide +kernel
theorem dX12_shape_1 : decode cX12_shape 1 = .ok (.iload_n 1, 1) := by decide +kernel
theorem dX12_shape_2 : decode cX12_shape 2 = .ok (.ifCond .lt 8, 3) := by decide +kernel
theorem dX12_shape_5 : decode cX12_shape 5 = .ok (.iload_n 1, 1) := by decide +kernel
theorem dX12_shape_6 : decode cX12_shape 6 = .ok (.iconst 3, 1) := by decide +kernel
theorem dX12_shape_7 : decode cX12_shape 7 = .ok (.if_icmp .le 7, 3) := by decide +kernel
theorem dX12_shape_10 : decode cX12_shape 10 = .ok (.iconst 1, 1) := by decide +kernel
theorem dX12_shape_11 : decode cX12_shape 11 = .ok (.goto 4, 3) := by decide +kernel
theorem dX12_shape_14 : decode cX12_shape 14 = .ok (.iconst 0, 1) := by decide +kernel
theorem dX12_shape_15 : decode cX12_shape 15 = .ok (.invokevirtual 1050, 3) := by decide +kernel
theorem dX12_shape_18 : decode cX12_shape 18 = .ok (.ifCond .ne 5, 3) := by decide +kernel
theorem dX12_shape_21 : decode cX12_shape 21 = .ok (.iconst 0, 1) := by decide +kernel
theorem dX12_shape_22 : decode cX12_shape 22 = .ok (.ireturn, 1) := by decide +kernel
theorem dX12_shape_23 : decode cX12_shape 23 = .ok (.iload_n 1, 1) := by decide +kernel
theorem dX12_shape_24 : decode cX12_shape 24 = .ok (.iconst 3, 1) := by decide +kernel
theorem dX12_shape_25 : decode cX12_shape 25 = .ok (.if_icmp .ne 8, 3) := by decide +kernel
theorem dX12_shape_28 : decode cX12_shape 28 = .ok (.aload_n 0, 1) := by decide +kernel
theorem dX12_shape_29 : decode cX12_shape 29 = .ok (.getfield 1035, 3) := by decide +kernel
theorem dX12_shape_32 : decode cX12_shape 32 = .ok (.ireturn, 1) := by decide +kernel
theorem dX12_shape_33 : decode cX12_shape 33 = .ok (.aload_n 0, 1) := by decide +kernel
theorem dX12_shape_34 : decode cX12_shape 34 = .ok (.getfield 1032, 3) := by decide +kernel
theorem dX12_shape_37 : decode cX12_shape 37 = .ok (.ifCond .ne 5, 3) := by decide +kernel
theorem dX12_shape_40 : decode cX12_shape 40 = .ok (.iconst 0, 1) := by decide +kernel
theorem dX12_shape_41 : decode cX12_shape 41 = .ok (.ireturn, 1) := by decide +kernel
theorem dX12_shape_42 : decode cX12_shape 42 = .ok (.aload_n 0, 1) := by decide +kernel
theorem dX12_shape_43 : decode cX12_shape 43 = .ok (.getfield 426, 3) := by decide +kernel
theorem dX12_shape_46 : decode cX12_shape 46 = .ok (.iconst 0, 1) := by decide +kernel
theorem dX12_shape_47 : decode cX12_shape 47 = .ok (.iaload, 1) := by decide +kernel
theorem dX12_shape_48 : decode cX12_shape 48 = .ok (.istore_n 2, 1) := by decide +kernel
theorem dX12_shape_49 : decode cX12_shape 49 = .ok (.aload_n 0, 1) := by decide +kernel
theorem dX12_shape_50 : decode cX12_shape 50 = .ok (.iload_n 2, 1) := by decide +kernel
theorem dX12_shape_51 : decode cX12_shape 51 = .ok (.invokevirtual 545, 3) := by decide +kernel
theorem dX12_shape_54 : decode cX12_shape 54 = .ok (.istore_n 3, 1) := by decide +kernel
theorem dX12_shape_55 : decode cX12_shape 55 = .ok (.iload_n 1, 1) := by decide +kernel
theorem dX12_shape_56 : decode cX12_shape 56 = .ok (.ifCond .ne 7, 3) := by decide +kernel
theorem dX12_shape_59 : decode cX12_shape 59 = .ok (.iload_n 3, 1) := by decide +kernel
theorem dX12_shape_60 : decode cX12_shape 60 = .ok (.goto 33, 3) := by decide +kernel
theorem dX12_shape_63 : decode cX12_shape 63 = .ok (.iload_n 1, 1) := by decide +kernel
theorem dX12_shape_64 : decode cX12_shape 64 = .ok (.iconst 1, 1) := by decide +kernel
theorem dX12_shape_65 : decode cX12_shape 65 = .ok (.if_icmp .ne 11, 3) := by decide +kernel
theorem dX12_shape_68 : decode cX12_shape 68 = .ok (.aload_n 0, 1) := by decide +kernel
theorem dX12_shape_69 : decode cX12_shape 69 = .ok (.iload_n 2, 1) := by decide +kernel
theorem dX12_shape_70 : decode cX12_shape 70 = .ok (.invokevirtual 432, 3) := by decide +kernel
theorem dX12_shape_73 : decode cX12_shape 73 = .ok (.goto 20, 3) := by decide +kernel
theorem dX12_shape_76 : decode cX12_shape 76 = .ok (.iload_n 3, 1) := by decide +kernel
theorem dX12_shape_77 : decode cX12_shape 77 = .ok (.iconst 4, 1) := by decide +kernel
theorem dX12_shape_78 : decode cX12_shape 78 = .ok (.if_icmp .lt 14, 3) := by decide +kernel
theorem dX12_shape_81 : decode cX12_shape 81 = .ok (.aload_n 0, 1) := by decide +kernel
theorem dX12_shape_82 : decode cX12_shape 82 = .ok (.getfield 372, 3) := by decide +kernel
theorem dX12_shape_85 : decode cX12_shape 85 = .ok (.iload_n 2, 1) := by decide +kernel
theorem dX12_shape_86 : decode cX12_shape 86 = .ok (.iconst 1, 1) := by decide +kernel
theorem dX12_shape_87 : decode cX12_shape 87 = .ok (.iadd, 1) := by decide +kernel
theorem dX12_shape_88 : decode cX12_shape 88 = .ok (.iaload, 1) := by decide +kernel
theorem dX12_shape_89 : decode cX12_shape 89 = .ok (.goto 4, 3) := by decide +kernel
theorem dX12_shape_92 : decode cX12_shape 92 = .ok (.iconst 0, 1) := by decide +kernel
theorem dX12_shape_93 : decode cX12_shape 93 = .ok (.ireturn, 1) := by decide +kernel
