/-! decode rows -/
theorem dJ7_copyOf_59c91_0 : decode cJ7_copyOf_59c91 0 = .ok (.iload_n 1, 1) := by decide +kernel
theorem dJ7_copyOf_59c91_1 : decode cJ7_copyOf_59c91 1 = .ok (.aload_n 0, 1) := by decide +kernel
theorem dJ7_copyOf_59c91_2 : decode cJ7_copyOf_59c91 2 = .ok (.arraylength, 1) := by decide +kernel
theorem dJ7_copyOf_59c91_3 : decode cJ7_copyOf_59c91 3 = .ok (.if_icmp .ne 11, 3) := by decide +kernel
theorem dJ7_copyOf_59c91_6 : decode cJ7_copyOf_59c91 6 = .ok (.aload_n 0, 1) := by decide +kernel
theorem dJ7_copyOf_59c91_7 : decode cJ7_copyOf_59c91 7 = .ok (.invokevirtual 316, 3) := by decide +kernel
theorem dJ7_copyOf_59c91_10 : decode cJ7_copyOf_59c91 10 = .ok (.checkcast 317, 3) := by decide +kernel
theorem dJ7_copyOf_59c91_13 : decode cJ7_copyOf_59c91 13 = .ok (.areturn, 1) := by decide +kernel
theorem dJ7_copyOf_59c91_14 : decode cJ7_copyOf_59c91 14 = .ok (.iload_n 1, 1) := by decide +kernel
theorem dJ7_copyOf_59c91_15 : decode cJ7_copyOf_59c91 15 = .ok (.newarray .int, 2) := by decide +kernel
theorem dJ7_copyOf_59c91_17 : decode cJ7_copyOf_59c91 17 = .ok (.astore_n 2, 1) := by decide +kernel
theorem dJ7_copyOf_59c91_18 : decode cJ7_copyOf_59c91 18 = .ok (.aload_n 0, 1) := by decide +kernel
theorem dJ7_copyOf_59c91_19 : decode cJ7_copyOf_59c91 19 = .ok (.iconst 0, 1) := by decide +kernel
theorem dJ7_copyOf_59c91_20 : decode cJ7_copyOf_59c91 20 = .ok (.aload_n 2, 1) := by decide +kernel
theorem dJ7_copyOf_59c91_21 : decode cJ7_copyOf_59c91 21 = .ok (.iconst 0, 1) := by decide +kernel
theorem dJ7_copyOf_59c91_22 : decode cJ7_copyOf_59c91 22 = .ok (.aload_n 0, 1) := by decide +kernel
theorem dJ7_copyOf_59c91_23 : decode cJ7_copyOf_59c91 23 = .ok (.arraylength, 1) := by decide +kernel
theorem dJ7_copyOf_59c91_24 : decode cJ7_copyOf_59c91 24 = .ok (.iload_n 1, 1) := by decide +kernel
theorem dJ7_copyOf_59c91_25 : decode cJ7_copyOf_59c91 25 = .ok (.invokestatic 304, 3) := by decide +kernel
theorem dJ7_copyOf_59c91_28 : decode cJ7_copyOf_59c91 28 = .ok (.invokestatic 150, 3) := by decide +kernel
theorem dJ7_copyOf_59c91_31 : decode cJ7_copyOf_59c91 31 = .ok (.aload_n 2, 1) := by decide +kernel
theorem dJ7_copyOf_59c91_32 : decode cJ7_copyOf_59c91 32 = .ok (.areturn, 1) := by decide +kernel
theorem dJ7_copyOf_9075b_0 : decode cJ7_copyOf_9075b 0 = .ok (.iload_n 1, 1) := by decide +kernel
theorem dJ7_copyOf_9075b_1 : decode cJ7_copyOf_9075b 1 = .ok (.aload_n 0, 1) := by decide +kernel
theorem dJ7_copyOf_9075b_2 : decode cJ7_copyOf_9075b 2 = .ok (.arraylength, 1) := by decide +kernel
theorem dJ7_copyOf_9075b_3 : decode cJ7_copyOf_9075b 3 = .ok (.if_icmp .ne 11, 3) := by decide +kernel
theorem dJ7_copyOf_9075b_6 : decode cJ7_copyOf_9075b 6 = .ok (.aload_n 0, 1) := by decide +kernel
theorem dJ7_copyOf_9075b_7 : decode cJ7_copyOf_9075b 7 = .ok (.invokevirtual 310, 3) := by decide +kernel
theorem dJ7_copyOf_9075b_10 : decode cJ7_copyOf_9075b 10 = .ok (.checkcast 311, 3) := by decide +kernel
theorem dJ7_copyOf_9075b_13 : decode cJ7_copyOf_9075b 13 = .ok (.areturn, 1) := by decide +kernel
theorem dJ7_copyOf_9075b_14 : decode cJ7_copyOf_9075b 14 = .ok (.iload_n 1, 1) := by decide +kernel
theorem dJ7_copyOf_9075b_15 : decode cJ7_copyOf_9075b 15 = .ok (.newarray .byte, 2) := by decide +kernel
theorem dJ7_copyOf_9075b_17 : decode cJ7_copyOf_9075b 17 = .ok (.astore_n 2, 1) := by decide +kernel
theorem dJ7_copyOf_9075b_18 : decode cJ7_copyOf_9075b 18 = .ok (.aload_n 0, 1) := by decide +kernel
theorem dJ7_copyOf_9075b_19 : decode cJ7_copyOf_9075b 19 = .ok (.iconst 0, 1) := by decide +kernel
theorem dJ7_copyOf_9075b_20 : decode cJ7_copyOf_9075b 20 = .ok (.aload_n 2, 1) := by decide +kernel
theorem dJ7_copyOf_9075b_21 : decode cJ7_copyOf_9075b 21 = .ok (.iconst 0, 1) := by decide +kernel
theorem dJ7_copyOf_9075b_22 : decode cJ7_copyOf_9075b 22 = .ok (.aload_n 0, 1) := by decide +kernel
theorem dJ7_copyOf_9075b_23 : decode cJ7_copyOf_9075b 23 = .ok (.arraylength, 1) := by decide +kernel
theorem dJ7_copyOf_9075b_24 : decode cJ7_copyOf_9075b 24 = .ok (.iload_n 1, 1) := by decide +kernel
theorem dJ7_copyOf_9075b_25 : decode cJ7_copyOf_9075b 25 = .ok (.invokestatic 304, 3) := by decide +kernel
theorem dJ7_copyOf_9075b_28 : decode cJ7_copyOf_9075b 28 = .ok (.invokestatic 150, 3) := by decide +kernel
theorem dJ7_copyOf_9075b_31 : decode cJ7_copyOf_9075b 31 = .ok (.aload_n 2, 1) := by decide +kernel
theorem dJ7_copyOf_9075b_32 : decode cJ7_copyOf_9075b 32 = .ok (.areturn, 1) := by decide +kernel
theorem dX11_widened_0 : decode cX11_widened 0 = .ok (.iload_n 1, 1) := by decide +kernel
theorem dX11_widened_1 : decode cX11_widened 1 = .ok (.aload_n 0, 1) := by decide +kernel
theorem dX11_widened_2 : decode cX11_widened 2 = .ok (.arraylength, 1) := by decide +kernel
theorem dX11_widened_3 : decode cX11_widened 3 = .ok (.if_icmp .le 17, 3) := by decide +kernel
theorem dX11_widened_6 : decode cX11_widened 6 = .ok (.aload_n 0, 1) := by decide +kernel
theorem dX11_widened_7 : decode cX11_widened 7 = .ok (.arraylength, 1) := by decide +kernel
theorem dX11_widened_8 : decode cX11_widened 8 = .ok (.iload_n 2, 1) := by decide +kernel
theorem dX11_widened_9 : decode cX11_widened 9 = .ok (.if_icmp .ge 11, 3) := by decide +kernel
theorem dX11_widened_12 : decode cX11_widened 12 = .ok (.aload_n 0, 1) := by decide +kernel
theorem dX11_widened_13 : decode cX11_widened 13 = .ok (.iload_n 2, 1) := by decide +kernel
theorem dX11_widened_14 : decode cX11_widened 14 = .ok (.invokestatic 7, 3) := by decide +kernel
theorem dX11_widened_17 : decode cX11_widened 17 = .ok (.goto 4, 3) := by decide +kernel
theorem dX11_widened_20 : decode cX11_widened 20 = .ok (.aload_n 0, 1) := by decide +kernel
theorem dX11_widened_21 : decode cX11_widened 21 = .ok (.areturn, 1) := by decide +kernel
theorem dX11_widenedBytes_0 : decode cX11_widenedBytes 0 = .ok (.iload_n 1, 1) := by decide +kernel
theorem dX11_widenedBytes_1 : decode cX11_widenedBytes 1 = .ok (.aload_n 0, 1) := by decide +kernel
theorem dX11_widenedBytes_2 : decode cX11_widenedBytes 2 = .ok (.arraylength, 1) := by decide +kernel
theorem dX11_widenedBytes_3 : decode cX11_widenedBytes 3 = .ok (.if_icmp .le 17, 3) := by decide +kernel
theorem dX11_widenedBytes_6 : decode cX11_widenedBytes 6 = .ok (.aload_n 0, 1) := by decide +kernel
theorem dX11_widenedBytes_7 : decode cX11_widenedBytes 7 = .ok (.arraylength, 1) := by decide +kernel
theorem dX11_widenedBytes_8 : decode cX11_widenedBytes 8 = .ok (.iload_n 2, 1) := by decide +kernel
theorem dX11_widenedBytes_9 : decode cX11_widenedBytes 9 = .ok (.if_icmp .ge 11, 3) := by decide +kernel
theorem dX11_widenedBytes_12 : decode cX11_widenedBytes 12 = .ok (.aload_n 0, 1) := by decide +kernel
theorem dX11_widenedBytes_13 : decode cX11_widenedBytes 13 = .ok (.iload_n 2, 1) := by decide +kernel
theorem dX11_widenedBytes_14 : decode cX11_widenedBytes 14 = .ok (.invokestatic 13, 3) := by decide +kernel
theorem dX11_widenedBytes_17 : decode cX11_widenedBytes 17 = .ok (.goto 4, 3) := by decide +kernel
theorem dX11_widenedBytes_20 : decode cX11_widenedBytes 20 = .ok (.aload_n 0, 1) := by decide +kernel
theorem dX11_widenedBytes_21 : decode cX11_widenedBytes 21 = .ok (.areturn, 1) := by decide +kernel
