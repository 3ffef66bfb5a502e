theorem dX11_fits_0 : decode cX11_fits 0 = .ok (.iload_n 0, 1) := by decide +kernel
theorem dX11_fits_1 : decode cX11_fits 1 = .ok (.ifCond .lt 24, 3) := by decide +kernel
theorem dX11_fits_4 : decode cX11_fits 4 = .ok (.iload_n 1, 1) := by decide +kernel
theorem dX11_fits_5 : decode cX11_fits 5 = .ok (.ifCond .lt 20, 3) := by decide +kernel
theorem dX11_fits_8 : decode cX11_fits 8 = .ok (.iload_n 1, 1) := by decide +kernel
theorem dX11_fits_9 : decode cX11_fits 9 = .ok (.bipush 31, 2) := by decide +kernel
theorem dX11_fits_11 : decode cX11_fits 11 = .ok (.if_icmp .ge 14, 3) := by decide +kernel
theorem dX11_fits_14 : decode cX11_fits 14 = .ok (.iload_n 0, 1) := by decide +kernel
theorem dX11_fits_15 : decode cX11_fits 15 = .ok (.iconst 1, 1) := by decide +kernel
theorem dX11_fits_16 : decode cX11_fits 16 = .ok (.iload_n 1, 1) := by decide +kernel
theorem dX11_fits_17 : decode cX11_fits 17 = .ok (.ishl, 1) := by decide +kernel
theorem dX11_fits_18 : decode cX11_fits 18 = .ok (.if_icmp .ge 7, 3) := by decide +kernel
theorem dX11_fits_21 : decode cX11_fits 21 = .ok (.iconst 1, 1) := by decide +kernel
theorem dX11_fits_22 : decode cX11_fits 22 = .ok (.goto 4, 3) := by decide +kernel
theorem dX11_fits_25 : decode cX11_fits 25 = .ok (.iconst 0, 1) := by decide +kernel
theorem dX11_fits_26 : decode cX11_fits 26 = .ok (.ireturn, 1) := by decide +kernel
theorem dX11_blocksOf_0 : decode cX11_blocksOf 0 = .ok (.iload_n 0, 1) := by decide +kernel
theorem dX11_blocksOf_1 : decode cX11_blocksOf 1 = .ok (.ifCond .le 7, 3) := by decide +kernel
theorem dX11_blocksOf_4 : decode cX11_blocksOf 4 = .ok (.iload_n 1, 1) := by decide +kernel
theorem dX11_blocksOf_5 : decode cX11_blocksOf 5 = .ok (.ifCond .gt 7, 3) := by decide +kernel
theorem dX11_blocksOf_8 : decode cX11_blocksOf 8 = .ok (.iconst 0, 1) := by decide +kernel
theorem dX11_blocksOf_9 : decode cX11_blocksOf 9 = .ok (.goto 10, 3) := by decide +kernel
theorem dX11_blocksOf_12 : decode cX11_blocksOf 12 = .ok (.iload_n 0, 1) := by decide +kernel
theorem dX11_blocksOf_13 : decode cX11_blocksOf 13 = .ok (.iload_n 1, 1) := by decide +kernel
theorem dX11_blocksOf_14 : decode cX11_blocksOf 14 = .ok (.iadd, 1) := by decide +kernel
theorem dX11_blocksOf_15 : decode cX11_blocksOf 15 = .ok (.iconst 1, 1) := by decide +kernel
theorem dX11_blocksOf_16 : decode cX11_blocksOf 16 = .ok (.isub, 1) := by decide +kernel
theorem dX11_blocksOf_17 : decode cX11_blocksOf 17 = .ok (.iload_n 1, 1) := by decide +kernel
theorem dX11_blocksOf_18 : decode cX11_blocksOf 18 = .ok (.idiv, 1) := by decide +kernel
theorem dX11_blocksOf_19 : decode cX11_blocksOf 19 = .ok (.ireturn, 1) := by decide +kernel
theorem dX11_at_0 : decode cX11_at 0 = .ok (.aload_n 0, 1) := by decide +kernel
theorem dX11_at_1 : decode cX11_at 1 = .ok (.ifnull 13, 3) := by decide +kernel
theorem dX11_at_4 : decode cX11_at 4 = .ok (.iload_n 1, 1) := by decide +kernel
theorem dX11_at_5 : decode cX11_at 5 = .ok (.ifCond .lt 9, 3) := by decide +kernel
theorem dX11_at_8 : decode cX11_at 8 = .ok (.iload_n 1, 1) := by decide +kernel
theorem dX11_at_9 : decode cX11_at 9 = .ok (.aload_n 0, 1) := by decide +kernel
theorem dX11_at_10 : decode cX11_at 10 = .ok (.arraylength, 1) := by decide +kernel
theorem dX11_at_11 : decode cX11_at 11 = .ok (.if_icmp .lt 7, 3) := by decide +kernel
theorem dX11_at_14 : decode cX11_at 14 = .ok (.iconst 0, 1) := by decide +kernel
theorem dX11_at_15 : decode cX11_at 15 = .ok (.goto 6, 3) := by decide +kernel
theorem dX11_at_18 : decode cX11_at 18 = .ok (.aload_n 0, 1) := by decide +kernel
theorem dX11_at_19 : decode cX11_at 19 = .ok (.iload_n 1, 1) := by decide +kernel
theorem dX11_at_20 : decode cX11_at 20 = .ok (.iaload, 1) := by decide +kernel
theorem dX11_at_21 : decode cX11_at 21 = .ok (.ireturn, 1) := by decide +kernel
