set_option maxRecDepth 20000 in
theorem ggX3_cameFromGreater_X11_at : GoodIn wsX3_cameFromGreater wsX11_at := goodIn_r _ [4] (by decide +kernel) (by decide +kernel)
set_option maxRecDepth 20000 in
theorem gX3_cameFromGreater_X11_at_n22 : GoodIn wsX3_cameFromGreater (wsX11_at) := ggX3_cameFromGreater_X11_at
theorem dX3_init_0 : decode cX3_init 0 = .ok (.aload_n 0, 1) := by decide +kernel
theorem dX3_init_1 : decode cX3_init 1 = .ok (.invokespecial 3, 3) := by decide +kernel
theorem dX3_init_4 : decode cX3_init 4 = .ok (.aload_n 0, 1) := by decide +kernel
theorem dX3_init_5 : decode cX3_init 5 = .ok (.bipush 16, 2) := by decide +kernel
theorem dX3_init_7 : decode cX3_init 7 = .ok (.newarray .int, 2) := by decide +kernel
theorem dX3_init_9 : decode cX3_init 9 = .ok (.putfield 9, 3) := by decide +kernel
theorem dX3_init_12 : decode cX3_init 12 = .ok (.aload_n 0, 1) := by decide +kernel
theorem dX3_init_13 : decode cX3_init 13 = .ok (.bipush 16, 2) := by decide +kernel
theorem dX3_init_15 : decode cX3_init 15 = .ok (.newarray .int, 2) := by decide +kernel
theorem dX3_init_17 : decode cX3_init 17 = .ok (.putfield 15, 3) := by decide +kernel
theorem dX3_init_20 : decode cX3_init 20 = .ok (.aload_n 0, 1) := by decide +kernel
theorem dX3_init_21 : decode cX3_init 21 = .ok (.sipush 320, 3) := by decide +kernel
theorem dX3_init_24 : decode cX3_init 24 = .ok (.newarray .int, 2) := by decide +kernel
theorem dX3_init_26 : decode cX3_init 26 = .ok (.putfield 18, 3) := by decide +kernel
theorem dX3_init_29 : decode cX3_init 29 = .ok (.return_, 1) := by decide +kernel
theorem dX3_startAt_0 : decode cX3_startAt 0 = .ok (.iconst 0, 1) := by decide +kernel
theorem dX3_startAt_1 : decode cX3_startAt 1 = .ok (.istore_n 3, 1) := by decide +kernel
theorem dX3_startAt_2 : decode cX3_startAt 2 = .ok (.iload_n 3, 1) := by decide +kernel
theorem dX3_startAt_3 : decode cX3_startAt 3 = .ok (.aload_n 0, 1) := by decide +kernel
theorem dX3_startAt_4 : decode cX3_startAt 4 = .ok (.getfield 9, 3) := by decide +kernel
theorem dX3_startAt_7 : decode cX3_startAt 7 = .ok (.arraylength, 1) := by decide +kernel
theorem dX3_startAt_8 : decode cX3_startAt 8 = .ok (.if_icmp .ge 26, 3) := by decide +kernel
theorem dX3_startAt_11 : decode cX3_startAt 11 = .ok (.aload_n 0, 1) := by decide +kernel
theorem dX3_startAt_12 : decode cX3_startAt 12 = .ok (.getfield 9, 3) := by decide +kernel
theorem dX3_startAt_15 : decode cX3_startAt 15 = .ok (.iload_n 3, 1) := by decide +kernel
theorem dX3_startAt_16 : decode cX3_startAt 16 = .ok (.iload_n 3, 1) := by decide +kernel
theorem dX3_startAt_17 : decode cX3_startAt 17 = .ok (.iload_n 1, 1) := by decide +kernel
theorem dX3_startAt_18 : decode cX3_startAt 18 = .ok (.if_icmp .ne 7, 3) := by decide +kernel
theorem dX3_startAt_21 : decode cX3_startAt 21 = .ok (.iload_n 2, 1) := by decide +kernel
theorem dX3_startAt_22 : decode cX3_startAt 22 = .ok (.goto 5, 3) := by decide +kernel
theorem dX3_startAt_25 : decode cX3_startAt 25 = .ok (.ldc 21, 2) := by decide +kernel
theorem dX3_startAt_27 : decode cX3_startAt 27 = .ok (.iastore, 1) := by decide +kernel
theorem dX3_startAt_28 : decode cX3_startAt 28 = .ok (.iinc 3 1, 3) := by decide +kernel
theorem dX3_startAt_31 : decode cX3_startAt 31 = .ok (.goto (-29), 3) := by decide +kernel
theorem dX3_startAt_34 : decode cX3_startAt 34 = .ok (.return_, 1) := by decide +kernel
theorem dX3_farnessOf_0 : decode cX3_farnessOf 0 = .ok (.iload_n 1, 1) := by decide +kernel
theorem dX3_farnessOf_1 : decode cX3_farnessOf 1 = .ok (.ifCond .lt 21, 3) := by decide +kernel
theorem dX3_farnessOf_4 : decode cX3_farnessOf 4 = .ok (.iload_n 1, 1) := by decide +kernel
theorem dX3_farnessOf_5 : decode cX3_farnessOf 5 = .ok (.aload_n 0, 1) := by decide +kernel
theorem dX3_farnessOf_6 : decode cX3_farnessOf 6 = .ok (.getfield 9, 3) := by decide +kernel
theorem dX3_farnessOf_9 : decode cX3_farnessOf 9 = .ok (.arraylength, 1) := by decide +kernel
theorem dX3_farnessOf_10 : decode cX3_farnessOf 10 = .ok (.if_icmp .ge 12, 3) := by decide +kernel
theorem dX3_farnessOf_13 : decode cX3_farnessOf 13 = .ok (.aload_n 0, 1) := by decide +kernel
theorem dX3_farnessOf_14 : decode cX3_farnessOf 14 = .ok (.getfield 9, 3) := by decide +kernel
theorem dX3_farnessOf_17 : decode cX3_farnessOf 17 = .ok (.iload_n 1, 1) := by decide +kernel
theorem dX3_farnessOf_18 : decode cX3_farnessOf 18 = .ok (.iaload, 1) := by decide +kernel
theorem dX3_farnessOf_19 : decode cX3_farnessOf 19 = .ok (.goto 5, 3) := by decide +kernel
theorem dX3_farnessOf_22 : decode cX3_farnessOf 22 = .ok (.ldc 21, 2) := by decide +kernel
theorem dX3_farnessOf_24 : decode cX3_farnessOf 24 = .ok (.ireturn, 1) := by decide +kernel
theorem dX3_forget_0 : decode cX3_forget 0 = .ok (.iload_n 1, 1) := by decide +kernel
theorem dX3_forget_1 : decode cX3_forget 1 = .ok (.ifCond .lt 20, 3) := by decide +kernel
theorem dX3_forget_4 : decode cX3_forget 4 = .ok (.iload_n 1, 1) := by decide +kernel
theorem dX3_forget_5 : decode cX3_forget 5 = .ok (.aload_n 0, 1) := by decide +kernel
theorem dX3_forget_6 : decode cX3_forget 6 = .ok (.getfield 9, 3) := by decide +kernel
theorem dX3_forget_9 : decode cX3_forget 9 = .ok (.arraylength, 1) := by decide +kernel
theorem dX3_forget_10 : decode cX3_forget 10 = .ok (.if_icmp .ge 11, 3) := by decide +kernel
theorem dX3_forget_13 : decode cX3_forget 13 = .ok (.aload_n 0, 1) := by decide +kernel
theorem dX3_forget_14 : decode cX3_forget 14 = .ok (.getfield 9, 3) := by decide +kernel
theorem dX3_forget_17 : decode cX3_forget 17 = .ok (.iload_n 1, 1) := by decide +kernel
theorem dX3_forget_18 : decode cX3_forget 18 = .ok (.ldc 21, 2) := by decide +kernel
theorem dX3_forget_20 : decode cX3_forget 20 = .ok (.iastore, 1) := by decide +kernel
theorem dX3_forget_21 : decode cX3_forget 21 = .ok (.return_, 1) := by decide +kernel
theorem dX3_keepNext_0 : decode cX3_keepNext 0 = .ok (.iload_n 1, 1) := by decide +kernel
theorem dX3_keepNext_1 : decode cX3_keepNext 1 = .ok (.ifCond .lt 19, 3) := by decide +kernel
theorem dX3_keepNext_4 : decode cX3_keepNext 4 = .ok (.iload_n 1, 1) := by decide +kernel
theorem dX3_keepNext_5 : decode cX3_keepNext 5 = .ok (.aload_n 0, 1) := by decide +kernel
theorem dX3_keepNext_6 : decode cX3_keepNext 6 = .ok (.getfield 15, 3) := by decide +kernel
theorem dX3_keepNext_9 : decode cX3_keepNext 9 = .ok (.arraylength, 1) := by decide +kernel
theorem dX3_keepNext_10 : decode cX3_keepNext 10 = .ok (.if_icmp .ge 10, 3) := by decide +kernel
theorem dX3_keepNext_13 : decode cX3_keepNext 13 = .ok (.aload_n 0, 1) := by decide +kernel
theorem dX3_keepNext_14 : decode cX3_keepNext 14 = .ok (.getfield 15, 3) := by decide +kernel
theorem dX3_keepNext_17 : decode cX3_keepNext 17 = .ok (.iload_n 1, 1) := by decide +kernel
theorem dX3_keepNext_18 : decode cX3_keepNext 18 = .ok (.iload_n 2, 1) := by decide +kernel
theorem dX3_keepNext_19 : decode cX3_keepNext 19 = .ok (.iastore, 1) := by decide +kernel
theorem dX3_keepNext_20 : decode cX3_keepNext 20 = .ok (.return_, 1) := by decide +kernel
theorem dX3_endStep_0 : decode cX3_endStep 0 = .ok (.iload_n 1, 1) := by decide +kernel
theorem dX3_endStep_1 : decode cX3_endStep 1 = .ok (.ifCond .lt 19, 3) := by decide +kernel
theorem dX3_endStep_4 : decode cX3_endStep 4 = .ok (.iload_n 1, 1) := by decide +kernel
theorem dX3_endStep_5 : decode cX3_endStep 5 = .ok (.aload_n 0, 1) := by decide +kernel
theorem dX3_endStep_6 : decode cX3_endStep 6 = .ok (.getfield 18, 3) := by decide +kernel
theorem dX3_endStep_9 : decode cX3_endStep 9 = .ok (.arraylength, 1) := by decide +kernel
theorem dX3_endStep_10 : decode cX3_endStep 10 = .ok (.if_icmp .ge 10, 3) := by decide +kernel
theorem dX3_endStep_13 : decode cX3_endStep 13 = .ok (.aload_n 0, 1) := by decide +kernel
theorem dX3_endStep_14 : decode cX3_endStep 14 = .ok (.getfield 18, 3) := by decide +kernel
theorem dX3_endStep_17 : decode cX3_endStep 17 = .ok (.iload_n 1, 1) := by decide +kernel
theorem dX3_endStep_18 : decode cX3_endStep 18 = .ok (.iload_n 3, 1) := by decide +kernel
theorem dX3_endStep_19 : decode cX3_endStep 19 = .ok (.iastore, 1) := by decide +kernel
theorem dX3_endStep_20 : decode cX3_endStep 20 = .ok (.iconst 0, 1) := by decide +kernel
theorem dX3_endStep_21 : decode cX3_endStep 21 = .ok (.istore 4, 2) := by decide +kernel
theorem dX3_endStep_23 : decode cX3_endStep 23 = .ok (.iload 4, 2) := by decide +kernel
theorem dX3_endStep_25 : decode cX3_endStep 25 = .ok (.iload_n 2, 1) := by decide +kernel
theorem dX3_endStep_26 : decode cX3_endStep 26 = .ok (.if_icmp .ge 43, 3) := by decide +kernel
theorem dX3_endStep_29 : decode cX3_endStep 29 = .ok (.iload 4, 2) := by decide +kernel
theorem dX3_endStep_31 : decode cX3_endStep 31 = .ok (.aload_n 0, 1) := by decide +kernel
theorem dX3_endStep_32 : decode cX3_endStep 32 = .ok (.getfield 9, 3) := by decide +kernel
theorem dX3_endStep_35 : decode cX3_endStep 35 = .ok (.arraylength, 1) := by decide +kernel
theorem dX3_endStep_36 : decode cX3_endStep 36 = .ok (.if_icmp .ge 33, 3) := by decide +kernel
theorem dX3_endStep_39 : decode cX3_endStep 39 = .ok (.iload 4, 2) := by decide +kernel
theorem dX3_endStep_41 : decode cX3_endStep 41 = .ok (.aload_n 0, 1) := by decide +kernel
theorem dX3_endStep_42 : decode cX3_endStep 42 = .ok (.getfield 15, 3) := by decide +kernel
theorem dX3_endStep_45 : decode cX3_endStep 45 = .ok (.arraylength, 1) := by decide +kernel
theorem dX3_endStep_46 : decode cX3_endStep 46 = .ok (.if_icmp .ge 23, 3) := by decide +kernel
theorem dX3_endStep_49 : decode cX3_endStep 49 = .ok (.aload_n 0, 1) := by decide +kernel
theorem dX3_endStep_50 : decode cX3_endStep 50 = .ok (.getfield 9, 3) := by decide +kernel
theorem dX3_endStep_53 : decode cX3_endStep 53 = .ok (.iload 4, 2) := by decide +kernel
theorem dX3_endStep_55 : decode cX3_endStep 55 = .ok (.aload_n 0, 1) := by decide +kernel
theorem dX3_endStep_56 : decode cX3_endStep 56 = .ok (.getfield 15, 3) := by decide +kernel
theorem dX3_endStep_59 : decode cX3_endStep 59 = .ok (.iload 4, 2) := by decide +kernel
theorem dX3_endStep_61 : decode cX3_endStep 61 = .ok (.iaload, 1) := by decide +kernel
theorem dX3_endStep_62 : decode cX3_endStep 62 = .ok (.iastore, 1) := by decide +kernel
theorem dX3_endStep_63 : decode cX3_endStep 63 = .ok (.iinc 4 1, 3) := by decide +kernel
theorem dX3_endStep_66 : decode cX3_endStep 66 = .ok (.goto (-43), 3) := by decide +kernel
theorem dX3_endStep_69 : decode cX3_endStep 69 = .ok (.return_, 1) := by decide +kernel
theorem dX3_cameFromGreater_0 : decode cX3_cameFromGreater 0 = .ok (.aload_n 0, 1) := by decide +kernel
theorem dX3_cameFromGreater_1 : decode cX3_cameFromGreater 1 = .ok (.getfield 18, 3) := by decide +kernel
theorem dX3_cameFromGreater_4 : decode cX3_cameFromGreater 4 = .ok (.iload_n 1, 1) := by decide +kernel
theorem dX3_cameFromGreater_5 : decode cX3_cameFromGreater 5 = .ok (.invokestatic 22, 3) := by decide +kernel
theorem dX3_cameFromGreater_8 : decode cX3_cameFromGreater 8 = .ok (.iload_n 2, 1) := by decide +kernel
theorem dX3_cameFromGreater_9 : decode cX3_cameFromGreater 9 = .ok (.iushr, 1) := by decide +kernel
theorem dX3_cameFromGreater_10 : decode cX3_cameFromGreater 10 = .ok (.iconst 1, 1) := by decide +kernel
theorem dX3_cameFromGreater_11 : decode cX3_cameFromGreater 11 = .ok (.iand, 1) := by decide +kernel
theorem dX3_cameFromGreater_12 : decode cX3_cameFromGreater 12 = .ok (.ireturn, 1) := by decide +kernel
set_option maxRecDepth 20000 in
theorem ggX4_init_X7_init : GoodIn wsX4_init wsX7_init := goodIn_r _ [11, 12, 2, 3, 13, 14, 15, 16, 17, 18, 19, 22, 23] (by decide +kernel) (by decide +kernel)
set_option maxRecDepth 20000 in
theorem gX4_init_X7_init : GoodIn wsX4_init (wsX7_init) := ggX4_init_X7_init
theorem dX4_init_0 : decode cX4_init 0 = .ok (.aload_n 0, 1) := by decide +kernel
theorem dX4_init_1 : decode cX4_init 1 = .ok (.invokespecial 3, 3) := by decide +kernel
theorem dX4_init_4 : decode cX4_init 4 = .ok (.aload_n 0, 1) := by decide +kernel
theorem dX4_init_5 : decode cX4_init 5 = .ok (.iconst 5, 1) := by decide +kernel
theorem dX4_init_6 : decode cX4_init 6 = .ok (.anewarray 9, 3) := by decide +kernel
theorem dX4_init_9 : decode cX4_init 9 = .ok (.putfield 11, 3) := by decide +kernel
theorem dX4_init_12 : decode cX4_init 12 = .ok (.aload_n 0, 1) := by decide +kernel
theorem dX4_init_13 : decode cX4_init 13 = .ok (.new 9, 3) := by decide +kernel
theorem dX4_init_16 : decode cX4_init 16 = .ok (.dup, 1) := by decide +kernel
theorem dX4_init_17 : decode cX4_init 17 = .ok (.iconst 0, 1) := by decide +kernel
theorem dX4_init_18 : decode cX4_init 18 = .ok (.invokespecial 17, 3) := by decide +kernel
theorem dX4_init_21 : decode cX4_init 21 = .ok (.putfield 20, 3) := by decide +kernel
theorem dX4_init_24 : decode cX4_init 24 = .ok (.iconst 0, 1) := by decide +kernel
theorem dX4_init_25 : decode cX4_init 25 = .ok (.istore_n 1, 1) := by decide +kernel
theorem dX4_init_26 : decode cX4_init 26 = .ok (.iload_n 1, 1) := by decide +kernel
theorem dX4_init_27 : decode cX4_init 27 = .ok (.aload_n 0, 1) := by decide +kernel
theorem dX4_init_28 : decode cX4_init 28 = .ok (.getfield 11, 3) := by decide +kernel
theorem dX4_init_31 : decode cX4_init 31 = .ok (.arraylength, 1) := by decide +kernel
theorem dX4_init_32 : decode cX4_init 32 = .ok (.if_icmp .ge 34, 3) := by decide +kernel
theorem dX4_init_35 : decode cX4_init 35 = .ok (.aload_n 0, 1) := by decide +kernel
theorem dX4_init_36 : decode cX4_init 36 = .ok (.getfield 11, 3) := by decide +kernel
theorem dX4_init_39 : decode cX4_init 39 = .ok (.iload_n 1, 1) := by decide +kernel
theorem dX4_init_40 : decode cX4_init 40 = .ok (.new 9, 3) := by decide +kernel
theorem dX4_init_43 : decode cX4_init 43 = .ok (.dup, 1) := by decide +kernel
theorem dX4_init_44 : decode cX4_init 44 = .ok (.iload_n 1, 1) := by decide +kernel
theorem dX4_init_45 : decode cX4_init 45 = .ok (.ifCond .ne 8, 3) := by decide +kernel
theorem dX4_init_48 : decode cX4_init 48 = .ok (.bipush 32, 2) := by decide +kernel
theorem dX4_init_50 : decode cX4_init 50 = .ok (.goto 6, 3) := by decide +kernel
theorem dX4_init_53 : decode cX4_init 53 = .ok (.sipush 320, 3) := by decide +kernel
theorem dX4_init_56 : decode cX4_init 56 = .ok (.invokespecial 17, 3) := by decide +kernel
theorem dX4_init_59 : decode cX4_init 59 = .ok (.aastore, 1) := by decide +kernel
theorem dX4_init_60 : decode cX4_init 60 = .ok (.iinc 1 1, 3) := by decide +kernel
theorem dX4_init_63 : decode cX4_init 63 = .ok (.goto (-37), 3) := by decide +kernel
theorem dX4_init_66 : decode cX4_init 66 = .ok (.return_, 1) := by decide +kernel
theorem dX4_at_0 : decode cX4_at 0 = .ok (.iload_n 1, 1) := by decide +kernel
theorem dX4_at_1 : decode cX4_at 1 = .ok (.ifCond .lt 12, 3) := by decide +kernel
theorem dX4_at_4 : decode cX4_at 4 = .ok (.iload_n 1, 1) := by decide +kernel
theorem dX4_at_5 : decode cX4_at 5 = .ok (.aload_n 0, 1) := by decide +kernel
theorem dX4_at_6 : decode cX4_at 6 = .ok (.getfield 11, 3) := by decide +kernel
theorem dX4_at_9 : decode cX4_at 9 = .ok (.arraylength, 1) := by decide +kernel
theorem dX4_at_10 : decode cX4_at 10 = .ok (.if_icmp .lt 8, 3) := by decide +kernel
theorem dX4_at_13 : decode cX4_at 13 = .ok (.aload_n 0, 1) := by decide +kernel
theorem dX4_at_14 : decode cX4_at 14 = .ok (.getfield 20, 3) := by decide +kernel
theorem dX4_at_17 : decode cX4_at 17 = .ok (.areturn, 1) := by decide +kernel
theorem dX4_at_18 : decode cX4_at 18 = .ok (.aload_n 0, 1) := by decide +kernel
theorem dX4_at_19 : decode cX4_at 19 = .ok (.getfield 11, 3) := by decide +kernel
theorem dX4_at_22 : decode cX4_at 22 = .ok (.iload_n 1, 1) := by decide +kernel
theorem dX4_at_23 : decode cX4_at 23 = .ok (.aaload, 1) := by decide +kernel
theorem dX4_at_24 : decode cX4_at 24 = .ok (.astore_n 2, 1) := by decide +kernel
theorem dX4_at_25 : decode cX4_at 25 = .ok (.aload_n 2, 1) := by decide +kernel
theorem dX4_at_26 : decode cX4_at 26 = .ok (.ifnonnull 10, 3) := by decide +kernel
theorem dX4_at_29 : decode cX4_at 29 = .ok (.aload_n 0, 1) := by decide +kernel
theorem dX4_at_30 : decode cX4_at 30 = .ok (.getfield 20, 3) := by decide +kernel
theorem dX4_at_33 : decode cX4_at 33 = .ok (.goto 4, 3) := by decide +kernel
theorem dX4_at_36 : decode cX4_at 36 = .ok (.aload_n 2, 1) := by decide +kernel
theorem dX4_at_37 : decode cX4_at 37 = .ok (.areturn, 1) := by decide +kernel
set_option maxRecDepth 20000 in
theorem ggX5_harm_X5_burst : GoodIn wsX5_harm wsX5_burst := goodIn_r _ [6, 7, 8, 9, 10, 11, 12, 13, 14, 15, 16, 17, 18, 19, 20, 21, 22, 23, 24, 25, 26, 27, 28, 29, 30, 31, 32, 43, 44, 45, 46, 47, 48] (by decide +kernel) (by decide +kernel)
set_option maxRecDepth 20000 in
theorem gX5_harm_X5_burst : GoodIn wsX5_harm (wsV RX5 24 RX5 yX5_burst wsX5_burst) := goodIn_app (goodIn_of _ (by decide +kernel)) ggX5_harm_X5_burst
set_option maxRecDepth 20000 in
theorem ggX5_harm_X5_scatter : GoodIn wsX5_harm wsX5_scatter := goodIn_r _ [36, 13, 37, 38, 39, 40, 41, 7, 1, 14, 15, 16, 17, 18, 19, 42, 30, 31, 32, 28, 20, 21, 22, 23, 24, 25, 26, 27, 29, 43, 44, 45, 46, 47, 48] (by decide +kernel) (by decide +kernel)
set_option maxRecDepth 20000 in
theorem gX5_harm_X5_scatter : GoodIn wsX5_harm (wsV RX5 28 RX5 yX5_scatter wsX5_scatter) := goodIn_app (goodIn_of _ (by decide +kernel)) ggX5_harm_X5_scatter
set_option maxRecDepth 20000 in
theorem ggX5_burst_X7_size : GoodIn wsX5_burst wsX7_size := goodIn_r _ [12, 13, 31, 32] (by decide +kernel) (by decide +kernel)
set_option maxRecDepth 20000 in
theorem gX5_burst_X7_size : GoodIn wsX5_burst (wsV RX5 37 RX7 yX7_size wsX7_size) := goodIn_app (goodIn_of _ (by decide +kernel)) ggX5_burst_X7_size
set_option maxRecDepth 20000 in
theorem ggX5_burst_X7_turn : GoodIn wsX5_burst wsX7_turn := goodIn_r _ [17, 18, 19, 20, 11, 21, 13, 22, 23, 24, 25, 26, 31, 32] (by decide +kernel) (by decide +kernel)
set_option maxRecDepth 20000 in
theorem gX5_burst_X7_turn : GoodIn wsX5_burst (wsV RX5 43 RX7 yX7_turn wsX7_turn) := goodIn_app (goodIn_of _ (by decide +kernel)) ggX5_burst_X7_turn
set_option maxRecDepth 20000 in
theorem ggX5_scatter_X7_size : GoodIn wsX5_scatter wsX7_size := goodIn_r _ [13, 14, 33, 34] (by decide +kernel) (by decide +kernel)
set_option maxRecDepth 20000 in
theorem gX5_scatter_X7_size : GoodIn wsX5_scatter (wsV RX5 37 RX7 yX7_size wsX7_size) := goodIn_app (goodIn_of _ (by decide +kernel)) ggX5_scatter_X7_size
set_option maxRecDepth 20000 in
theorem ggX5_scatter_X7_put : GoodIn wsX5_scatter wsX7_put := goodIn_r _ [18, 14, 19, 33, 34] (by decide +kernel) (by decide +kernel)
set_option maxRecDepth 20000 in
theorem gX5_scatter_X7_put : GoodIn wsX5_scatter (wsV RX5 57 RX7 yX7_put wsX7_put) := goodIn_app (goodIn_of _ (by decide +kernel)) ggX5_scatter_X7_put
set_option maxRecDepth 20000 in
theorem ggX5_scatter_X7_turn : GoodIn wsX5_scatter wsX7_turn := goodIn_r _ [23, 24, 25, 26, 12, 27, 14, 19, 28, 16, 17, 18, 33, 34] (by decide +kernel) (by decide +kernel)
set_option maxRecDepth 20000 in
theorem gX5_scatter_X7_turn : GoodIn wsX5_scatter (wsV RX5 43 RX7 yX7_turn wsX7_turn) := goodIn_app (goodIn_of _ (by decide +kernel)) ggX5_scatter_X7_turn
theorem dX5_init_0 : decode cX5_init 0 = .ok (.aload_n 0, 1) := by decide +kernel
theorem dX5_init_1 : decode cX5_init 1 = .ok (.invokespecial 3, 3) := by decide +kernel
theorem dX5_init_4 : decode cX5_init 4 = .ok (.aload_n 0, 1) := by decide +kernel
theorem dX5_init_5 : decode cX5_init 5 = .ok (.iconst 0, 1) := by decide +kernel
theorem dX5_init_6 : decode cX5_init 6 = .ok (.putfield 9, 3) := by decide +kernel
theorem dX5_init_9 : decode cX5_init 9 = .ok (.aload_n 0, 1) := by decide +kernel
theorem dX5_init_10 : decode cX5_init 10 = .ok (.iconst 0, 1) := by decide +kernel
theorem dX5_init_11 : decode cX5_init 11 = .ok (.putfield 15, 3) := by decide +kernel
theorem dX5_init_14 : decode cX5_init 14 = .ok (.aload_n 0, 1) := by decide +kernel
theorem dX5_init_15 : decode cX5_init 15 = .ok (.iconst 0, 1) := by decide +kernel
theorem dX5_init_16 : decode cX5_init 16 = .ok (.putfield 18, 3) := by decide +kernel
theorem dX5_init_19 : decode cX5_init 19 = .ok (.aload_n 0, 1) := by decide +kernel
theorem dX5_init_20 : decode cX5_init 20 = .ok (.iconst 0, 1) := by decide +kernel
theorem dX5_init_21 : decode cX5_init 21 = .ok (.putfield 21, 3) := by decide +kernel
theorem dX5_init_24 : decode cX5_init 24 = .ok (.return_, 1) := by decide +kernel
theorem dX5_kind_0 : decode cX5_kind 0 = .ok (.aload_n 0, 1) := by decide +kernel
theorem dX5_kind_1 : decode cX5_kind 1 = .ok (.getfield 9, 3) := by decide +kernel
theorem dX5_kind_4 : decode cX5_kind 4 = .ok (.ireturn, 1) := by decide +kernel
theorem dX5_become_0 : decode cX5_become 0 = .ok (.aload_n 0, 1) := by decide +kernel
theorem dX5_become_1 : decode cX5_become 1 = .ok (.iload_n 1, 1) := by decide +kernel
theorem dX5_become_2 : decode cX5_become 2 = .ok (.putfield 9, 3) := by decide +kernel
theorem dX5_become_5 : decode cX5_become 5 = .ok (.aload_n 0, 1) := by decide +kernel
theorem dX5_become_6 : decode cX5_become 6 = .ok (.iload_n 2, 1) := by decide +kernel
theorem dX5_become_7 : decode cX5_become 7 = .ok (.putfield 15, 3) := by decide +kernel
theorem dX5_become_10 : decode cX5_become 10 = .ok (.aload_n 0, 1) := by decide +kernel
theorem dX5_become_11 : decode cX5_become 11 = .ok (.iload_n 3, 1) := by decide +kernel
theorem dX5_become_12 : decode cX5_become 12 = .ok (.putfield 18, 3) := by decide +kernel
theorem dX5_become_15 : decode cX5_become 15 = .ok (.aload_n 0, 1) := by decide +kernel
theorem dX5_become_16 : decode cX5_become 16 = .ok (.iload 4, 2) := by decide +kernel
theorem dX5_become_18 : decode cX5_become 18 = .ok (.putfield 21, 3) := by decide +kernel
theorem dX5_become_21 : decode cX5_become 21 = .ok (.return_, 1) := by decide +kernel
theorem dX5_harm_0 : decode cX5_harm 0 = .ok (.aload_n 0, 1) := by decide +kernel
theorem dX5_harm_1 : decode cX5_harm 1 = .ok (.getfield 9, 3) := by decide +kernel
theorem dX5_harm_4 : decode cX5_harm 4 = .ok (.iconst 2, 1) := by decide +kernel
theorem dX5_harm_5 : decode cX5_harm 5 = .ok (.if_icmp .ne 11, 3) := by decide +kernel
theorem dX5_harm_8 : decode cX5_harm 8 = .ok (.aload_n 0, 1) := by decide +kernel
theorem dX5_harm_9 : decode cX5_harm 9 = .ok (.aload_n 1, 1) := by decide +kernel
theorem dX5_harm_10 : decode cX5_harm 10 = .ok (.invokevirtual 24, 3) := by decide +kernel
theorem dX5_harm_13 : decode cX5_harm 13 = .ok (.goto 24, 3) := by decide +kernel
theorem dX5_harm_16 : decode cX5_harm 16 = .ok (.aload_n 0, 1) := by decide +kernel
theorem dX5_harm_17 : decode cX5_harm 17 = .ok (.getfield 9, 3) := by decide +kernel
theorem dX5_harm_20 : decode cX5_harm 20 = .ok (.iconst 1, 1) := by decide +kernel
theorem dX5_harm_21 : decode cX5_harm 21 = .ok (.if_icmp .eq 11, 3) := by decide +kernel
theorem dX5_harm_24 : decode cX5_harm 24 = .ok (.aload_n 0, 1) := by decide +kernel
theorem dX5_harm_25 : decode cX5_harm 25 = .ok (.getfield 9, 3) := by decide +kernel
theorem dX5_harm_28 : decode cX5_harm 28 = .ok (.iconst 3, 1) := by decide +kernel
theorem dX5_harm_29 : decode cX5_harm 29 = .ok (.if_icmp .ne 8, 3) := by decide +kernel
theorem dX5_harm_32 : decode cX5_harm 32 = .ok (.aload_n 0, 1) := by decide +kernel
theorem dX5_harm_33 : decode cX5_harm 33 = .ok (.aload_n 1, 1) := by decide +kernel
theorem dX5_harm_34 : decode cX5_harm 34 = .ok (.invokevirtual 28, 3) := by decide +kernel
theorem dX5_harm_37 : decode cX5_harm 37 = .ok (.return_, 1) := by decide +kernel
theorem dX5_burst_0 : decode cX5_burst 0 = .ok (.iconst 0, 1) := by decide +kernel
theorem dX5_burst_1 : decode cX5_burst 1 = .ok (.aload_n 0, 1) := by decide +kernel
theorem dX5_burst_2 : decode cX5_burst 2 = .ok (.getfield 15, 3) := by decide +kernel
theorem dX5_burst_5 : decode cX5_burst 5 = .ok (.invokestatic 31, 3) := by decide +kernel
theorem dX5_burst_8 : decode cX5_burst 8 = .ok (.istore_n 2, 1) := by decide +kernel
theorem dX5_burst_9 : decode cX5_burst 9 = .ok (.iload_n 2, 1) := by decide +kernel
theorem dX5_burst_10 : decode cX5_burst 10 = .ok (.aload_n 1, 1) := by decide +kernel
theorem dX5_burst_11 : decode cX5_burst 11 = .ok (.invokevirtual 37, 3) := by decide +kernel
theorem dX5_burst_14 : decode cX5_burst 14 = .ok (.if_icmp .ge 39, 3) := by decide +kernel
theorem dX5_burst_17 : decode cX5_burst 17 = .ok (.aload_n 0, 1) := by decide +kernel
theorem dX5_burst_18 : decode cX5_burst 18 = .ok (.getfield 21, 3) := by decide +kernel
theorem dX5_burst_21 : decode cX5_burst 21 = .ok (.ifCond .le 26, 3) := by decide +kernel
theorem dX5_burst_24 : decode cX5_burst 24 = .ok (.iload_n 2, 1) := by decide +kernel
theorem dX5_burst_25 : decode cX5_burst 25 = .ok (.aload_n 0, 1) := by decide +kernel
theorem dX5_burst_26 : decode cX5_burst 26 = .ok (.getfield 15, 3) := by decide +kernel
theorem dX5_burst_29 : decode cX5_burst 29 = .ok (.isub, 1) := by decide +kernel
theorem dX5_burst_30 : decode cX5_burst 30 = .ok (.aload_n 0, 1) := by decide +kernel
theorem dX5_burst_31 : decode cX5_burst 31 = .ok (.getfield 21, 3) := by decide +kernel
theorem dX5_burst_34 : decode cX5_burst 34 = .ok (.irem, 1) := by decide +kernel
theorem dX5_burst_35 : decode cX5_burst 35 = .ok (.aload_n 0, 1) := by decide +kernel
theorem dX5_burst_36 : decode cX5_burst 36 = .ok (.getfield 18, 3) := by decide +kernel
theorem dX5_burst_39 : decode cX5_burst 39 = .ok (.if_icmp .ge 8, 3) := by decide +kernel
theorem dX5_burst_42 : decode cX5_burst 42 = .ok (.aload_n 1, 1) := by decide +kernel
theorem dX5_burst_43 : decode cX5_burst 43 = .ok (.iload_n 2, 1) := by decide +kernel
theorem dX5_burst_44 : decode cX5_burst 44 = .ok (.invokevirtual 43, 3) := by decide +kernel
theorem dX5_burst_47 : decode cX5_burst 47 = .ok (.iinc 2 1, 3) := by decide +kernel
theorem dX5_burst_50 : decode cX5_burst 50 = .ok (.goto (-41), 3) := by decide +kernel
theorem dX5_burst_53 : decode cX5_burst 53 = .ok (.return_, 1) := by decide +kernel
theorem dX5_scatter_0 : decode cX5_scatter 0 = .ok (.aload_n 0, 1) := by decide +kernel
theorem dX5_scatter_1 : decode cX5_scatter 1 = .ok (.getfield 18, 3) := by decide +kernel
theorem dX5_scatter_4 : decode cX5_scatter 4 = .ok (.i2l, 1) := by decide +kernel
theorem dX5_scatter_5 : decode cX5_scatter 5 = .ok (.lstore_n 2, 1) := by decide +kernel
theorem dX5_scatter_6 : decode cX5_scatter 6 = .ok (.iconst 0, 1) := by decide +kernel
theorem dX5_scatter_7 : decode cX5_scatter 7 = .ok (.istore 4, 2) := by decide +kernel
theorem dX5_scatter_9 : decode cX5_scatter 9 = .ok (.iload 4, 2) := by decide +kernel
theorem dX5_scatter_11 : decode cX5_scatter 11 = .ok (.aload_n 1, 1) := by decide +kernel
theorem dX5_scatter_12 : decode cX5_scatter 12 = .ok (.invokevirtual 37, 3) := by decide +kernel
theorem dX5_scatter_15 : decode cX5_scatter 15 = .ok (.if_icmp .ge 65, 3) := by decide +kernel
theorem dX5_scatter_18 : decode cX5_scatter 18 = .ok (.lload_n 2, 1) := by decide +kernel
theorem dX5_scatter_19 : decode cX5_scatter 19 = .ok (.ldc2_w 47, 3) := by decide +kernel
theorem dX5_scatter_22 : decode cX5_scatter 22 = .ok (.lmul, 1) := by decide +kernel
theorem dX5_scatter_23 : decode cX5_scatter 23 = .ok (.ldc2_w 49, 3) := by decide +kernel
theorem dX5_scatter_26 : decode cX5_scatter 26 = .ok (.ladd, 1) := by decide +kernel
theorem dX5_scatter_27 : decode cX5_scatter 27 = .ok (.ldc2_w 51, 3) := by decide +kernel
theorem dX5_scatter_30 : decode cX5_scatter 30 = .ok (.lrem, 1) := by decide +kernel
theorem dX5_scatter_31 : decode cX5_scatter 31 = .ok (.lstore_n 2, 1) := by decide +kernel
theorem dX5_scatter_32 : decode cX5_scatter 32 = .ok (.lload_n 2, 1) := by decide +kernel
theorem dX5_scatter_33 : decode cX5_scatter 33 = .ok (.ldc2_w 53, 3) := by decide +kernel
theorem dX5_scatter_36 : decode cX5_scatter 36 = .ok (.ldiv, 1) := by decide +kernel
theorem dX5_scatter_37 : decode cX5_scatter 37 = .ok (.ldc2_w 55, 3) := by decide +kernel
theorem dX5_scatter_40 : decode cX5_scatter 40 = .ok (.lrem, 1) := by decide +kernel
theorem dX5_scatter_41 : decode cX5_scatter 41 = .ok (.aload_n 0, 1) := by decide +kernel
theorem dX5_scatter_42 : decode cX5_scatter 42 = .ok (.getfield 15, 3) := by decide +kernel
theorem dX5_scatter_45 : decode cX5_scatter 45 = .ok (.i2l, 1) := by decide +kernel
theorem dX5_scatter_46 : decode cX5_scatter 46 = .ok (.lcmp, 1) := by decide +kernel
theorem dX5_scatter_47 : decode cX5_scatter 47 = .ok (.ifCond .ge 27, 3) := by decide +kernel
theorem dX5_scatter_50 : decode cX5_scatter 50 = .ok (.aload_n 0, 1) := by decide +kernel
theorem dX5_scatter_51 : decode cX5_scatter 51 = .ok (.getfield 9, 3) := by decide +kernel
theorem dX5_scatter_54 : decode cX5_scatter 54 = .ok (.iconst 3, 1) := by decide +kernel
theorem dX5_scatter_55 : decode cX5_scatter 55 = .ok (.if_icmp .ne 13, 3) := by decide +kernel
theorem dX5_scatter_58 : decode cX5_scatter 58 = .ok (.aload_n 1, 1) := by decide +kernel
theorem dX5_scatter_59 : decode cX5_scatter 59 = .ok (.iload 4, 2) := by decide +kernel
theorem dX5_scatter_61 : decode cX5_scatter 61 = .ok (.iconst 2, 1) := by decide +kernel
theorem dX5_scatter_62 : decode cX5_scatter 62 = .ok (.invokevirtual 57, 3) := by decide +kernel
theorem dX5_scatter_65 : decode cX5_scatter 65 = .ok (.goto 9, 3) := by decide +kernel
theorem dX5_scatter_68 : decode cX5_scatter 68 = .ok (.aload_n 1, 1) := by decide +kernel
theorem dX5_scatter_69 : decode cX5_scatter 69 = .ok (.iload 4, 2) := by decide +kernel
theorem dX5_scatter_71 : decode cX5_scatter 71 = .ok (.invokevirtual 43, 3) := by decide +kernel
theorem dX5_scatter_74 : decode cX5_scatter 74 = .ok (.iinc 4 1, 3) := by decide +kernel
theorem dX5_scatter_77 : decode cX5_scatter 77 = .ok (.goto (-68), 3) := by decide +kernel
theorem dX5_scatter_80 : decode cX5_scatter 80 = .ok (.return_, 1) := by decide +kernel
set_option maxRecDepth 20000 in
theorem ggX6_init_X8_init : GoodIn wsX6_init wsX8_init := goodIn_r _ [4, 5, 6, 7] (by decide +kernel) (by decide +kernel)
set_option maxRecDepth 20000 in
theorem gX6_init_X8_init_n3 : GoodIn wsX6_init (wsX8_init) := ggX6_init_X8_init
set_option maxRecDepth 20000 in
theorem ggX6_code_X7_size : GoodIn wsX6_code wsX7_size := goodIn_r _ [6, 7, 22, 23] (by decide +kernel) (by decide +kernel)
set_option maxRecDepth 20000 in
theorem gX6_code_X7_size : GoodIn wsX6_code (wsV RX6 15 RX7 yX7_size wsX7_size) := goodIn_app (goodIn_of _ (by decide +kernel)) ggX6_code_X7_size
set_option maxRecDepth 20000 in
theorem ggX6_code_X7_numberAt : GoodIn wsX6_code wsX7_numberAt := goodIn_r _ [11, 12, 13, 14, 5, 15, 7, 16, 22, 23] (by decide +kernel) (by decide +kernel)
set_option maxRecDepth 20000 in
theorem gX6_code_X7_numberAt : GoodIn wsX6_code (wsV RX6 21 RX7 yX7_numberAt wsX7_numberAt) := goodIn_app (goodIn_of _ (by decide +kernel)) ggX6_code_X7_numberAt
set_option maxRecDepth 20000 in
theorem ggX6_code_X7_put : GoodIn wsX6_code wsX7_put := goodIn_r _ [20, 7, 16, 22, 23] (by decide +kernel) (by decide +kernel)
set_option maxRecDepth 20000 in
theorem gX6_code_X7_put : GoodIn wsX6_code (wsV RX6 25 RX7 yX7_put wsX7_put) := goodIn_app (goodIn_of _ (by decide +kernel)) ggX6_code_X7_put
set_option maxRecDepth 20000 in
theorem ggX6_decode_X7_size : GoodIn wsX6_decode wsX7_size := goodIn_r _ [6, 7, 33, 34] (by decide +kernel) (by decide +kernel)
set_option maxRecDepth 20000 in
theorem gX6_decode_X7_size : GoodIn wsX6_decode (wsV RX6 15 RX7 yX7_size wsX7_size) := goodIn_app (goodIn_of _ (by decide +kernel)) ggX6_decode_X7_size
set_option maxRecDepth 20000 in
theorem ggX6_decode_X7_numberAt : GoodIn wsX6_decode wsX7_numberAt := goodIn_r _ [11, 12, 13, 14, 5, 15, 7, 16, 33, 34] (by decide +kernel) (by decide +kernel)
set_option maxRecDepth 20000 in
theorem gX6_decode_X7_numberAt : GoodIn wsX6_decode (wsV RX6 21 RX7 yX7_numberAt wsX7_numberAt) := goodIn_app (goodIn_of _ (by decide +kernel)) ggX6_decode_X7_numberAt
set_option maxRecDepth 20000 in
theorem ggX6_decode_J6_bitCount_0f7a4 : GoodIn wsX6_decode wsJ6_bitCount_0f7a4 := goodIn_r _ [20, 21, 22, 23] (by decide +kernel) (by decide +kernel)
set_option maxRecDepth 20000 in
theorem gX6_decode_J6_bitCount_0f7a4 : GoodIn wsX6_decode (va_wsS RX6 29 yJ6_bitCount_0f7a4 wsJ6_bitCount_0f7a4) := goodIn_app (goodIn_of _ (by decide +kernel)) ggX6_decode_J6_bitCount_0f7a4
set_option maxRecDepth 20000 in
theorem ggX6_decode_X7_knownAt : GoodIn wsX6_decode wsX7_knownAt := goodIn_r _ [27, 12, 13, 14, 5, 15, 7, 16, 33, 34] (by decide +kernel) (by decide +kernel)
set_option maxRecDepth 20000 in
theorem gX6_decode_X7_knownAt : GoodIn wsX6_decode (wsV RX6 35 RX7 yX7_knownAt wsX7_knownAt) := goodIn_app (goodIn_of _ (by decide +kernel)) ggX6_decode_X7_knownAt
set_option maxRecDepth 20000 in
theorem ggX6_decode_X7_put : GoodIn wsX6_decode wsX7_put := goodIn_r _ [31, 7, 16, 33, 34] (by decide +kernel) (by decide +kernel)
set_option maxRecDepth 20000 in
theorem gX6_decode_X7_put : GoodIn wsX6_decode (wsV RX6 25 RX7 yX7_put wsX7_put) := goodIn_app (goodIn_of _ (by decide +kernel)) ggX6_decode_X7_put
theorem dX6_init_0 : decode cX6_init 0 = .ok (.aload_n 0, 1) := by decide +kernel
theorem dX6_init_1 : decode cX6_init 1 = .ok (.invokespecial 3, 3) := by decide +kernel
theorem dX6_init_4 : decode cX6_init 4 = .ok (.aload_n 0, 1) := by decide +kernel
theorem dX6_init_5 : decode cX6_init 5 = .ok (.iload_n 1, 1) := by decide +kernel
theorem dX6_init_6 : decode cX6_init 6 = .ok (.putfield 9, 3) := by decide +kernel
theorem dX6_init_9 : decode cX6_init 9 = .ok (.return_, 1) := by decide +kernel
theorem dX6_kind_0 : decode cX6_kind 0 = .ok (.iconst 0, 1) := by decide +kernel
theorem dX6_kind_1 : decode cX6_kind 1 = .ok (.ireturn, 1) := by decide +kernel
theorem dX6_sizeOf_0 : decode cX6_sizeOf 0 = .ok (.iload_n 1, 1) := by decide +kernel
theorem dX6_sizeOf_1 : decode cX6_sizeOf 1 = .ok (.aload_n 0, 1) := by decide +kernel
theorem dX6_sizeOf_2 : decode cX6_sizeOf 2 = .ok (.getfield 9, 3) := by decide +kernel
theorem dX6_sizeOf_5 : decode cX6_sizeOf 5 = .ok (.imul, 1) := by decide +kernel
theorem dX6_sizeOf_6 : decode cX6_sizeOf 6 = .ok (.ireturn, 1) := by decide +kernel
theorem dX6_apart_0 : decode cX6_apart 0 = .ok (.aload_n 0, 1) := by decide +kernel
theorem dX6_apart_1 : decode cX6_apart 1 = .ok (.getfield 9, 3) := by decide +kernel
theorem dX6_apart_4 : decode cX6_apart 4 = .ok (.ireturn, 1) := by decide +kernel
theorem dX6_code_0 : decode cX6_code 0 = .ok (.iconst 0, 1) := by decide +kernel
theorem dX6_code_1 : decode cX6_code 1 = .ok (.istore_n 3, 1) := by decide +kernel
theorem dX6_code_2 : decode cX6_code 2 = .ok (.iload_n 3, 1) := by decide +kernel
theorem dX6_code_3 : decode cX6_code 3 = .ok (.aload_n 1, 1) := by decide +kernel
theorem dX6_code_4 : decode cX6_code 4 = .ok (.invokevirtual 15, 3) := by decide +kernel
theorem dX6_code_7 : decode cX6_code 7 = .ok (.if_icmp .ge 50, 3) := by decide +kernel
theorem dX6_code_10 : decode cX6_code 10 = .ok (.aload_n 1, 1) := by decide +kernel
theorem dX6_code_11 : decode cX6_code 11 = .ok (.iload_n 3, 1) := by decide +kernel
theorem dX6_code_12 : decode cX6_code 12 = .ok (.iconst 1, 1) := by decide +kernel
theorem dX6_code_13 : decode cX6_code 13 = .ok (.invokevirtual 21, 3) := by decide +kernel
theorem dX6_code_16 : decode cX6_code 16 = .ok (.istore 4, 2) := by decide +kernel
theorem dX6_code_18 : decode cX6_code 18 = .ok (.iconst 0, 1) := by decide +kernel
theorem dX6_code_19 : decode cX6_code 19 = .ok (.istore 5, 2) := by decide +kernel
theorem dX6_code_21 : decode cX6_code 21 = .ok (.iload 5, 2) := by decide +kernel
theorem dX6_code_23 : decode cX6_code 23 = .ok (.aload_n 0, 1) := by decide +kernel
theorem dX6_code_24 : decode cX6_code 24 = .ok (.getfield 9, 3) := by decide +kernel
theorem dX6_code_27 : decode cX6_code 27 = .ok (.if_icmp .ge 24, 3) := by decide +kernel
theorem dX6_code_30 : decode cX6_code 30 = .ok (.aload_n 2, 1) := by decide +kernel
theorem dX6_code_31 : decode cX6_code 31 = .ok (.iload_n 3, 1) := by decide +kernel
theorem dX6_code_32 : decode cX6_code 32 = .ok (.aload_n 0, 1) := by decide +kernel
theorem dX6_code_33 : decode cX6_code 33 = .ok (.getfield 9, 3) := by decide +kernel
theorem dX6_code_36 : decode cX6_code 36 = .ok (.imul, 1) := by decide +kernel
theorem dX6_code_37 : decode cX6_code 37 = .ok (.iload 5, 2) := by decide +kernel
theorem dX6_code_39 : decode cX6_code 39 = .ok (.iadd, 1) := by decide +kernel
theorem dX6_code_40 : decode cX6_code 40 = .ok (.iload 4, 2) := by decide +kernel
theorem dX6_code_42 : decode cX6_code 42 = .ok (.invokevirtual 25, 3) := by decide +kernel
theorem dX6_code_45 : decode cX6_code 45 = .ok (.iinc 5 1, 3) := by decide +kernel
theorem dX6_code_48 : decode cX6_code 48 = .ok (.goto (-27), 3) := by decide +kernel
theorem dX6_code_51 : decode cX6_code 51 = .ok (.iinc 3 1, 3) := by decide +kernel
theorem dX6_code_54 : decode cX6_code 54 = .ok (.goto (-52), 3) := by decide +kernel
theorem dX6_code_57 : decode cX6_code 57 = .ok (.return_, 1) := by decide +kernel
theorem dX6_decode_0 : decode cX6_decode 0 = .ok (.iconst 0, 1) := by decide +kernel
theorem dX6_decode_1 : decode cX6_decode 1 = .ok (.istore_n 3, 1) := by decide +kernel
theorem dX6_decode_2 : decode cX6_decode 2 = .ok (.iload_n 3, 1) := by decide +kernel
theorem dX6_decode_3 : decode cX6_decode 3 = .ok (.aload_n 2, 1) := by decide +kernel
theorem dX6_decode_4 : decode cX6_decode 4 = .ok (.invokevirtual 15, 3) := by decide +kernel
theorem dX6_decode_7 : decode cX6_decode 7 = .ok (.if_icmp .ge 78, 3) := by decide +kernel
theorem dX6_decode_10 : decode cX6_decode 10 = .ok (.aload_n 1, 1) := by decide +kernel
theorem dX6_decode_11 : decode cX6_decode 11 = .ok (.iload_n 3, 1) := by decide +kernel
theorem dX6_decode_12 : decode cX6_decode 12 = .ok (.aload_n 0, 1) := by decide +kernel
theorem dX6_decode_13 : decode cX6_decode 13 = .ok (.getfield 9, 3) := by decide +kernel
theorem dX6_decode_16 : decode cX6_decode 16 = .ok (.imul, 1) := by decide +kernel
theorem dX6_decode_17 : decode cX6_decode 17 = .ok (.aload_n 0, 1) := by decide +kernel
theorem dX6_decode_18 : decode cX6_decode 18 = .ok (.getfield 9, 3) := by decide +kernel
theorem dX6_decode_21 : decode cX6_decode 21 = .ok (.invokevirtual 21, 3) := by decide +kernel
theorem dX6_decode_24 : decode cX6_decode 24 = .ok (.invokestatic 29, 3) := by decide +kernel
theorem dX6_decode_27 : decode cX6_decode 27 = .ok (.istore 4, 2) := by decide +kernel
theorem dX6_decode_29 : decode cX6_decode 29 = .ok (.aload_n 1, 1) := by decide +kernel
theorem dX6_decode_30 : decode cX6_decode 30 = .ok (.iload_n 3, 1) := by decide +kernel
theorem dX6_decode_31 : decode cX6_decode 31 = .ok (.aload_n 0, 1) := by decide +kernel
theorem dX6_decode_32 : decode cX6_decode 32 = .ok (.getfield 9, 3) := by decide +kernel
theorem dX6_decode_35 : decode cX6_decode 35 = .ok (.imul, 1) := by decide +kernel
theorem dX6_decode_36 : decode cX6_decode 36 = .ok (.aload_n 0, 1) := by decide +kernel
theorem dX6_decode_37 : decode cX6_decode 37 = .ok (.getfield 9, 3) := by decide +kernel
theorem dX6_decode_40 : decode cX6_decode 40 = .ok (.invokevirtual 35, 3) := by decide +kernel
theorem dX6_decode_43 : decode cX6_decode 43 = .ok (.invokestatic 29, 3) := by decide +kernel
theorem dX6_decode_46 : decode cX6_decode 46 = .ok (.iload 4, 2) := by decide +kernel
theorem dX6_decode_48 : decode cX6_decode 48 = .ok (.isub, 1) := by decide +kernel
theorem dX6_decode_49 : decode cX6_decode 49 = .ok (.istore 5, 2) := by decide +kernel
theorem dX6_decode_51 : decode cX6_decode 51 = .ok (.aload_n 2, 1) := by decide +kernel
theorem dX6_decode_52 : decode cX6_decode 52 = .ok (.iload_n 3, 1) := by decide +kernel
theorem dX6_decode_53 : decode cX6_decode 53 = .ok (.iload 4, 2) := by decide +kernel
theorem dX6_decode_55 : decode cX6_decode 55 = .ok (.iload 5, 2) := by decide +kernel
theorem dX6_decode_57 : decode cX6_decode 57 = .ok (.if_icmp .le 7, 3) := by decide +kernel
theorem dX6_decode_60 : decode cX6_decode 60 = .ok (.iconst 1, 1) := by decide +kernel
theorem dX6_decode_61 : decode cX6_decode 61 = .ok (.goto 15, 3) := by decide +kernel
theorem dX6_decode_64 : decode cX6_decode 64 = .ok (.iload 4, 2) := by decide +kernel
theorem dX6_decode_66 : decode cX6_decode 66 = .ok (.iload 5, 2) := by decide +kernel
theorem dX6_decode_68 : decode cX6_decode 68 = .ok (.if_icmp .ge 7, 3) := by decide +kernel
theorem dX6_decode_71 : decode cX6_decode 71 = .ok (.iconst 0, 1) := by decide +kernel
theorem dX6_decode_72 : decode cX6_decode 72 = .ok (.goto 4, 3) := by decide +kernel
theorem dX6_decode_75 : decode cX6_decode 75 = .ok (.iconst 2, 1) := by decide +kernel
theorem dX6_decode_76 : decode cX6_decode 76 = .ok (.invokevirtual 25, 3) := by decide +kernel
theorem dX6_decode_79 : decode cX6_decode 79 = .ok (.iinc 3 1, 3) := by decide +kernel
theorem dX6_decode_82 : decode cX6_decode 82 = .ok (.goto (-80), 3) := by decide +kernel
theorem dX6_decode_85 : decode cX6_decode 85 = .ok (.return_, 1) := by decide +kernel
set_option maxRecDepth 20000 in
theorem ggX7_turn_X7_get : GoodIn wsX7_turn wsX7_get := goodIn_r _ [5, 6, 7, 12, 13] (by decide +kernel) (by decide +kernel)
set_option maxRecDepth 20000 in
theorem gX7_turn_X7_get : GoodIn wsX7_turn (wsV RX7 28 RX7 yX7_get wsX7_get) := goodIn_app (goodIn_of _ (by decide +kernel)) ggX7_turn_X7_get
set_option maxRecDepth 20000 in
theorem ggX7_turn_X7_put : GoodIn wsX7_turn wsX7_put := goodIn_r _ [11, 6, 7, 12, 13] (by decide +kernel) (by decide +kernel)
set_option maxRecDepth 20000 in
theorem gX7_turn_X7_put : GoodIn wsX7_turn (wsV RX7 32 RX7 yX7_put wsX7_put) := goodIn_app (goodIn_of _ (by decide +kernel)) ggX7_turn_X7_put
set_option maxRecDepth 20000 in
theorem ggX7_turnWhere_X7_get : GoodIn wsX7_turnWhere wsX7_get := goodIn_r _ [6, 1, 7, 16, 17] (by decide +kernel) (by decide +kernel)
set_option maxRecDepth 20000 in
theorem gX7_turnWhere_X7_get : GoodIn wsX7_turnWhere (wsV RX7 28 RX7 yX7_get wsX7_get) := goodIn_app (goodIn_of _ (by decide +kernel)) ggX7_turnWhere_X7_get
set_option maxRecDepth 20000 in
theorem ggX7_turnWhere_X7_turn : GoodIn wsX7_turnWhere wsX7_turn := goodIn_r _ [11, 2, 3, 4, 5, 6, 1, 7, 12, 13, 14, 15, 16, 17] (by decide +kernel) (by decide +kernel)
set_option maxRecDepth 20000 in
theorem gX7_turnWhere_X7_turn : GoodIn wsX7_turnWhere (wsV RX7 36 RX7 yX7_turn wsX7_turn) := goodIn_app (goodIn_of _ (by decide +kernel)) ggX7_turnWhere_X7_turn
set_option maxRecDepth 20000 in
theorem ggX7_ones_X7_get : GoodIn wsX7_ones wsX7_get := goodIn_r _ [6, 1, 7, 8, 9] (by decide +kernel) (by decide +kernel)
set_option maxRecDepth 20000 in
theorem gX7_ones_X7_get : GoodIn wsX7_ones (wsV RX7 28 RX7 yX7_get wsX7_get) := goodIn_app (goodIn_of _ (by decide +kernel)) ggX7_ones_X7_get
set_option maxRecDepth 20000 in
theorem ggX7_numberAt_X7_get : GoodIn wsX7_numberAt wsX7_get := goodIn_r _ [5, 6, 7, 8, 9] (by decide +kernel) (by decide +kernel)
set_option maxRecDepth 20000 in
theorem gX7_numberAt_X7_get : GoodIn wsX7_numberAt (wsV RX7 28 RX7 yX7_get wsX7_get) := goodIn_app (goodIn_of _ (by decide +kernel)) ggX7_numberAt_X7_get
set_option maxRecDepth 20000 in
theorem ggX7_knownAt_X7_get : GoodIn wsX7_knownAt wsX7_get := goodIn_r _ [5, 6, 7, 8, 9] (by decide +kernel) (by decide +kernel)
set_option maxRecDepth 20000 in
theorem gX7_knownAt_X7_get : GoodIn wsX7_knownAt (wsV RX7 28 RX7 yX7_get wsX7_get) := goodIn_app (goodIn_of _ (by decide +kernel)) ggX7_knownAt_X7_get
set_option maxRecDepth 20000 in
theorem ggX7_putNumber_X7_put : GoodIn wsX7_putNumber wsX7_put := goodIn_r _ [5, 6, 7, 8, 9] (by decide +kernel) (by decide +kernel)
set_option maxRecDepth 20000 in
theorem gX7_putNumber_X7_put : GoodIn wsX7_putNumber (wsV RX7 32 RX7 yX7_put wsX7_put) := goodIn_app (goodIn_of _ (by decide +kernel)) ggX7_putNumber_X7_put
set_option maxRecDepth 20000 in
theorem ggX7_copy_X7_size : GoodIn wsX7_copy wsX7_size := goodIn_r _ [6, 1, 27, 28] (by decide +kernel) (by decide +kernel)
set_option maxRecDepth 20000 in
theorem gX7_copy_X7_size : GoodIn wsX7_copy (wsV RX7 40 RX7 yX7_size wsX7_size) := goodIn_app (goodIn_of _ (by decide +kernel)) ggX7_copy_X7_size
set_option maxRecDepth 20000 in
theorem ggX7_copy_X7_resize : GoodIn wsX7_copy wsX7_resize := goodIn_r _ [10, 11, 12, 13, 14, 15, 16, 17, 18, 1, 27, 28] (by decide +kernel) (by decide +kernel)
set_option maxRecDepth 20000 in
theorem gX7_copy_X7_resize : GoodIn wsX7_copy (wsV RX7 43 RX7 yX7_resize wsX7_resize) := goodIn_app (goodIn_of _ (by decide +kernel)) ggX7_copy_X7_resize
set_option maxRecDepth 20000 in
theorem ggX7_copy_X7_get : GoodIn wsX7_copy wsX7_get := goodIn_r _ [22, 1, 11, 27, 28] (by decide +kernel) (by decide +kernel)
set_option maxRecDepth 20000 in
theorem gX7_copy_X7_get : GoodIn wsX7_copy (wsV RX7 28 RX7 yX7_get wsX7_get) := goodIn_app (goodIn_of _ (by decide +kernel)) ggX7_copy_X7_get
set_option maxRecDepth 20000 in
theorem ggX7_copy_X7_put : GoodIn wsX7_copy wsX7_put := goodIn_r _ [26, 1, 11, 27, 28] (by decide +kernel) (by decide +kernel)
set_option maxRecDepth 20000 in
theorem gX7_copy_X7_put : GoodIn wsX7_copy (wsV RX7 32 RX7 yX7_put wsX7_put) := goodIn_app (goodIn_of _ (by decide +kernel)) ggX7_copy_X7_put
set_option maxRecDepth 20000 in
theorem ggX7_unlike_X7_get : GoodIn wsX7_unlike wsX7_get := goodIn_r _ [6, 1, 7, 8, 9] (by decide +kernel) (by decide +kernel)
set_option maxRecDepth 20000 in
theorem gX7_unlike_X7_get : GoodIn wsX7_unlike (wsV RX7 28 RX7 yX7_get wsX7_get) := goodIn_app (goodIn_of _ (by decide +kernel)) ggX7_unlike_X7_get
theorem dX7_init_0 : decode cX7_init 0 = .ok (.aload_n 0, 1) := by decide +kernel
theorem dX7_init_1 : decode cX7_init 1 = .ok (.invokespecial 3, 3) := by decide +kernel
theorem dX7_init_4 : decode cX7_init 4 = .ok (.aload_n 0, 1) := by decide +kernel
theorem dX7_init_5 : decode cX7_init 5 = .ok (.iconst 0, 1) := by decide +kernel
theorem dX7_init_6 : decode cX7_init 6 = .ok (.putfield 9, 3) := by decide +kernel
theorem dX7_init_9 : decode cX7_init 9 = .ok (.aload_n 0, 1) := by decide +kernel
theorem dX7_init_10 : decode cX7_init 10 = .ok (.iconst 0, 1) := by decide +kernel
theorem dX7_init_11 : decode cX7_init 11 = .ok (.iload_n 1, 1) := by decide +kernel
theorem dX7_init_12 : decode cX7_init 12 = .ok (.invokestatic 15, 3) := by decide +kernel
theorem dX7_init_15 : decode cX7_init 15 = .ok (.newarray .int, 2) := by decide +kernel
theorem dX7_init_17 : decode cX7_init 17 = .ok (.putfield 21, 3) := by decide +kernel
theorem dX7_init_20 : decode cX7_init 20 = .ok (.return_, 1) := by decide +kernel
theorem dX7_size_0 : decode cX7_size 0 = .ok (.aload_n 0, 1) := by decide +kernel
theorem dX7_size_1 : decode cX7_size 1 = .ok (.getfield 9, 3) := by decide +kernel
theorem dX7_size_4 : decode cX7_size 4 = .ok (.ireturn, 1) := by decide +kernel
theorem dX7_resize_0 : decode cX7_resize 0 = .ok (.aload_n 0, 1) := by decide +kernel
theorem dX7_resize_1 : decode cX7_resize 1 = .ok (.iconst 0, 1) := by decide +kernel
theorem dX7_resize_2 : decode cX7_resize 2 = .ok (.iload_n 1, 1) := by decide +kernel
theorem dX7_resize_3 : decode cX7_resize 3 = .ok (.aload_n 0, 1) := by decide +kernel
theorem dX7_resize_4 : decode cX7_resize 4 = .ok (.getfield 21, 3) := by decide +kernel
theorem dX7_resize_7 : decode cX7_resize 7 = .ok (.arraylength, 1) := by decide +kernel
theorem dX7_resize_8 : decode cX7_resize 8 = .ok (.invokestatic 25, 3) := by decide +kernel
theorem dX7_resize_11 : decode cX7_resize 11 = .ok (.invokestatic 15, 3) := by decide +kernel
theorem dX7_resize_14 : decode cX7_resize 14 = .ok (.putfield 9, 3) := by decide +kernel
theorem dX7_resize_17 : decode cX7_resize 17 = .ok (.return_, 1) := by decide +kernel
theorem dX7_get_0 : decode cX7_get 0 = .ok (.iload_n 1, 1) := by decide +kernel
theorem dX7_get_1 : decode cX7_get 1 = .ok (.ifCond .lt 29, 3) := by decide +kernel
theorem dX7_get_4 : decode cX7_get 4 = .ok (.iload_n 1, 1) := by decide +kernel
theorem dX7_get_5 : decode cX7_get 5 = .ok (.aload_n 0, 1) := by decide +kernel
theorem dX7_get_6 : decode cX7_get 6 = .ok (.getfield 9, 3) := by decide +kernel
theorem dX7_get_9 : decode cX7_get 9 = .ok (.if_icmp .ge 21, 3) := by decide +kernel
theorem dX7_get_12 : decode cX7_get 12 = .ok (.iload_n 1, 1) := by decide +kernel
theorem dX7_get_13 : decode cX7_get 13 = .ok (.aload_n 0, 1) := by decide +kernel
theorem dX7_get_14 : decode cX7_get 14 = .ok (.getfield 21, 3) := by decide +kernel
theorem dX7_get_17 : decode cX7_get 17 = .ok (.arraylength, 1) := by decide +kernel
theorem dX7_get_18 : decode cX7_get 18 = .ok (.if_icmp .ge 12, 3) := by decide +kernel
theorem dX7_get_21 : decode cX7_get 21 = .ok (.aload_n 0, 1) := by decide +kernel
theorem dX7_get_22 : decode cX7_get 22 = .ok (.getfield 21, 3) := by decide +kernel
theorem dX7_get_25 : decode cX7_get 25 = .ok (.iload_n 1, 1) := by decide +kernel
theorem dX7_get_26 : decode cX7_get 26 = .ok (.iaload, 1) := by decide +kernel
theorem dX7_get_27 : decode cX7_get 27 = .ok (.goto 4, 3) := by decide +kernel
theorem dX7_get_30 : decode cX7_get 30 = .ok (.iconst 0, 1) := by decide +kernel
theorem dX7_get_31 : decode cX7_get 31 = .ok (.ireturn, 1) := by decide +kernel
theorem dX7_put_0 : decode cX7_put 0 = .ok (.iload_n 1, 1) := by decide +kernel
theorem dX7_put_1 : decode cX7_put 1 = .ok (.ifCond .lt 27, 3) := by decide +kernel
theorem dX7_put_4 : decode cX7_put 4 = .ok (.iload_n 1, 1) := by decide +kernel
theorem dX7_put_5 : decode cX7_put 5 = .ok (.aload_n 0, 1) := by decide +kernel
theorem dX7_put_6 : decode cX7_put 6 = .ok (.getfield 9, 3) := by decide +kernel
theorem dX7_put_9 : decode cX7_put 9 = .ok (.if_icmp .ge 19, 3) := by decide +kernel
theorem dX7_put_12 : decode cX7_put 12 = .ok (.iload_n 1, 1) := by decide +kernel
theorem dX7_put_13 : decode cX7_put 13 = .ok (.aload_n 0, 1) := by decide +kernel
theorem dX7_put_14 : decode cX7_put 14 = .ok (.getfield 21, 3) := by decide +kernel
theorem dX7_put_17 : decode cX7_put 17 = .ok (.arraylength, 1) := by decide +kernel
theorem dX7_put_18 : decode cX7_put 18 = .ok (.if_icmp .ge 10, 3) := by decide +kernel
theorem dX7_put_21 : decode cX7_put 21 = .ok (.aload_n 0, 1) := by decide +kernel
theorem dX7_put_22 : decode cX7_put 22 = .ok (.getfield 21, 3) := by decide +kernel
theorem dX7_put_25 : decode cX7_put 25 = .ok (.iload_n 1, 1) := by decide +kernel
theorem dX7_put_26 : decode cX7_put 26 = .ok (.iload_n 2, 1) := by decide +kernel
theorem dX7_put_27 : decode cX7_put 27 = .ok (.iastore, 1) := by decide +kernel
theorem dX7_put_28 : decode cX7_put 28 = .ok (.return_, 1) := by decide +kernel
theorem dX7_turn_0 : decode cX7_turn 0 = .ok (.aload_n 0, 1) := by decide +kernel
theorem dX7_turn_1 : decode cX7_turn 1 = .ok (.iload_n 1, 1) := by decide +kernel
theorem dX7_turn_2 : decode cX7_turn 2 = .ok (.invokevirtual 28, 3) := by decide +kernel
theorem dX7_turn_5 : decode cX7_turn 5 = .ok (.iconst 2, 1) := by decide +kernel
theorem dX7_turn_6 : decode cX7_turn 6 = .ok (.if_icmp .eq 15, 3) := by decide +kernel
theorem dX7_turn_9 : decode cX7_turn 9 = .ok (.aload_n 0, 1) := by decide +kernel
theorem dX7_turn_10 : decode cX7_turn 10 = .ok (.iload_n 1, 1) := by decide +kernel
theorem dX7_turn_11 : decode cX7_turn 11 = .ok (.iconst 1, 1) := by decide +kernel
theorem dX7_turn_12 : decode cX7_turn 12 = .ok (.aload_n 0, 1) := by decide +kernel
theorem dX7_turn_13 : decode cX7_turn 13 = .ok (.iload_n 1, 1) := by decide +kernel
theorem dX7_turn_14 : decode cX7_turn 14 = .ok (.invokevirtual 28, 3) := by decide +kernel
theorem dX7_turn_17 : decode cX7_turn 17 = .ok (.isub, 1) := by decide +kernel
theorem dX7_turn_18 : decode cX7_turn 18 = .ok (.invokevirtual 32, 3) := by decide +kernel
theorem dX7_turn_21 : decode cX7_turn 21 = .ok (.return_, 1) := by decide +kernel
theorem dX7_turnWhere_0 : decode cX7_turnWhere 0 = .ok (.iconst 0, 1) := by decide +kernel
theorem dX7_turnWhere_1 : decode cX7_turnWhere 1 = .ok (.istore_n 2, 1) := by decide +kernel
theorem dX7_turnWhere_2 : decode cX7_turnWhere 2 = .ok (.iload_n 2, 1) := by decide +kernel
theorem dX7_turnWhere_3 : decode cX7_turnWhere 3 = .ok (.aload_n 0, 1) := by decide +kernel
theorem dX7_turnWhere_4 : decode cX7_turnWhere 4 = .ok (.getfield 9, 3) := by decide +kernel
theorem dX7_turnWhere_7 : decode cX7_turnWhere 7 = .ok (.if_icmp .ge 23, 3) := by decide +kernel
theorem dX7_turnWhere_10 : decode cX7_turnWhere 10 = .ok (.aload_n 1, 1) := by decide +kernel
theorem dX7_turnWhere_11 : decode cX7_turnWhere 11 = .ok (.iload_n 2, 1) := by decide +kernel
theorem dX7_turnWhere_12 : decode cX7_turnWhere 12 = .ok (.invokevirtual 28, 3) := by decide +kernel
theorem dX7_turnWhere_15 : decode cX7_turnWhere 15 = .ok (.iconst 1, 1) := by decide +kernel
theorem dX7_turnWhere_16 : decode cX7_turnWhere 16 = .ok (.if_icmp .ne 8, 3) := by decide +kernel
theorem dX7_turnWhere_19 : decode cX7_turnWhere 19 = .ok (.aload_n 0, 1) := by decide +kernel
theorem dX7_turnWhere_20 : decode cX7_turnWhere 20 = .ok (.iload_n 2, 1) := by decide +kernel
theorem dX7_turnWhere_21 : decode cX7_turnWhere 21 = .ok (.invokevirtual 36, 3) := by decide +kernel
theorem dX7_turnWhere_24 : decode cX7_turnWhere 24 = .ok (.iinc 2 1, 3) := by decide +kernel
theorem dX7_turnWhere_27 : decode cX7_turnWhere 27 = .ok (.goto (-25), 3) := by decide +kernel
theorem dX7_turnWhere_30 : decode cX7_turnWhere 30 = .ok (.return_, 1) := by decide +kernel
theorem dX7_ones_0 : decode cX7_ones 0 = .ok (.iconst 0, 1) := by decide +kernel
theorem dX7_ones_1 : decode cX7_ones 1 = .ok (.istore_n 1, 1) := by decide +kernel
theorem dX7_ones_2 : decode cX7_ones 2 = .ok (.iconst 0, 1) := by decide +kernel
theorem dX7_ones_3 : decode cX7_ones 3 = .ok (.istore_n 2, 1) := by decide +kernel
theorem dX7_ones_4 : decode cX7_ones 4 = .ok (.iload_n 2, 1) := by decide +kernel
theorem dX7_ones_5 : decode cX7_ones 5 = .ok (.aload_n 0, 1) := by decide +kernel
theorem dX7_ones_6 : decode cX7_ones 6 = .ok (.getfield 9, 3) := by decide +kernel
theorem dX7_ones_9 : decode cX7_ones 9 = .ok (.if_icmp .ge 21, 3) := by decide +kernel
theorem dX7_ones_12 : decode cX7_ones 12 = .ok (.aload_n 0, 1) := by decide +kernel
theorem dX7_ones_13 : decode cX7_ones 13 = .ok (.iload_n 2, 1) := by decide +kernel
theorem dX7_ones_14 : decode cX7_ones 14 = .ok (.invokevirtual 28, 3) := by decide +kernel
theorem dX7_ones_17 : decode cX7_ones 17 = .ok (.iconst 1, 1) := by decide +kernel
theorem dX7_ones_18 : decode cX7_ones 18 = .ok (.if_icmp .ne 6, 3) := by decide +kernel
theorem dX7_ones_21 : decode cX7_ones 21 = .ok (.iinc 1 1, 3) := by decide +kernel
theorem dX7_ones_24 : decode cX7_ones 24 = .ok (.iinc 2 1, 3) := by decide +kernel
theorem dX7_ones_27 : decode cX7_ones 27 = .ok (.goto (-23), 3) := by decide +kernel
theorem dX7_ones_30 : decode cX7_ones 30 = .ok (.iload_n 1, 1) := by decide +kernel
theorem dX7_ones_31 : decode cX7_ones 31 = .ok (.ireturn, 1) := by decide +kernel
theorem dX7_numberAt_0 : decode cX7_numberAt 0 = .ok (.iconst 0, 1) := by decide +kernel
theorem dX7_numberAt_1 : decode cX7_numberAt 1 = .ok (.istore_n 3, 1) := by decide +kernel
theorem dX7_numberAt_2 : decode cX7_numberAt 2 = .ok (.iconst 0, 1) := by decide +kernel
theorem dX7_numberAt_3 : decode cX7_numberAt 3 = .ok (.istore 4, 2) := by decide +kernel
theorem dX7_numberAt_5 : decode cX7_numberAt 5 = .ok (.iload 4, 2) := by decide +kernel
theorem dX7_numberAt_7 : decode cX7_numberAt 7 = .ok (.iload_n 2, 1) := by decide +kernel
theorem dX7_numberAt_8 : decode cX7_numberAt 8 = .ok (.if_icmp .ge 31, 3) := by decide +kernel
theorem dX7_numberAt_11 : decode cX7_numberAt 11 = .ok (.iload_n 3, 1) := by decide +kernel
theorem dX7_numberAt_12 : decode cX7_numberAt 12 = .ok (.iconst 1, 1) := by decide +kernel
theorem dX7_numberAt_13 : decode cX7_numberAt 13 = .ok (.ishl, 1) := by decide +kernel
theorem dX7_numberAt_14 : decode cX7_numberAt 14 = .ok (.aload_n 0, 1) := by decide +kernel
theorem dX7_numberAt_15 : decode cX7_numberAt 15 = .ok (.iload_n 1, 1) := by decide +kernel
theorem dX7_numberAt_16 : decode cX7_numberAt 16 = .ok (.iload 4, 2) := by decide +kernel
theorem dX7_numberAt_18 : decode cX7_numberAt 18 = .ok (.iadd, 1) := by decide +kernel
theorem dX7_numberAt_19 : decode cX7_numberAt 19 = .ok (.invokevirtual 28, 3) := by decide +kernel
theorem dX7_numberAt_22 : decode cX7_numberAt 22 = .ok (.iconst 1, 1) := by decide +kernel
theorem dX7_numberAt_23 : decode cX7_numberAt 23 = .ok (.if_icmp .ne 7, 3) := by decide +kernel
theorem dX7_numberAt_26 : decode cX7_numberAt 26 = .ok (.iconst 1, 1) := by decide +kernel
theorem dX7_numberAt_27 : decode cX7_numberAt 27 = .ok (.goto 4, 3) := by decide +kernel
theorem dX7_numberAt_30 : decode cX7_numberAt 30 = .ok (.iconst 0, 1) := by decide +kernel
theorem dX7_numberAt_31 : decode cX7_numberAt 31 = .ok (.ior, 1) := by decide +kernel
theorem dX7_numberAt_32 : decode cX7_numberAt 32 = .ok (.istore_n 3, 1) := by decide +kernel
theorem dX7_numberAt_33 : decode cX7_numberAt 33 = .ok (.iinc 4 1, 3) := by decide +kernel
theorem dX7_numberAt_36 : decode cX7_numberAt 36 = .ok (.goto (-31), 3) := by decide +kernel
theorem dX7_numberAt_39 : decode cX7_numberAt 39 = .ok (.iload_n 3, 1) := by decide +kernel
theorem dX7_numberAt_40 : decode cX7_numberAt 40 = .ok (.ireturn, 1) := by decide +kernel
theorem dX7_knownAt_0 : decode cX7_knownAt 0 = .ok (.iconst 0, 1) := by decide +kernel
theorem dX7_knownAt_1 : decode cX7_knownAt 1 = .ok (.istore_n 3, 1) := by decide +kernel
theorem dX7_knownAt_2 : decode cX7_knownAt 2 = .ok (.iconst 0, 1) := by decide +kernel
theorem dX7_knownAt_3 : decode cX7_knownAt 3 = .ok (.istore 4, 2) := by decide +kernel
theorem dX7_knownAt_5 : decode cX7_knownAt 5 = .ok (.iload 4, 2) := by decide +kernel
theorem dX7_knownAt_7 : decode cX7_knownAt 7 = .ok (.iload_n 2, 1) := by decide +kernel
theorem dX7_knownAt_8 : decode cX7_knownAt 8 = .ok (.if_icmp .ge 31, 3) := by decide +kernel
theorem dX7_knownAt_11 : decode cX7_knownAt 11 = .ok (.iload_n 3, 1) := by decide +kernel
theorem dX7_knownAt_12 : decode cX7_knownAt 12 = .ok (.iconst 1, 1) := by decide +kernel
theorem dX7_knownAt_13 : decode cX7_knownAt 13 = .ok (.ishl, 1) := by decide +kernel
theorem dX7_knownAt_14 : decode cX7_knownAt 14 = .ok (.aload_n 0, 1) := by decide +kernel
theorem dX7_knownAt_15 : decode cX7_knownAt 15 = .ok (.iload_n 1, 1) := by decide +kernel
theorem dX7_knownAt_16 : decode cX7_knownAt 16 = .ok (.iload 4, 2) := by decide +kernel
theorem dX7_knownAt_18 : decode cX7_knownAt 18 = .ok (.iadd, 1) := by decide +kernel
theorem dX7_knownAt_19 : decode cX7_knownAt 19 = .ok (.invokevirtual 28, 3) := by decide +kernel
theorem dX7_knownAt_22 : decode cX7_knownAt 22 = .ok (.iconst 2, 1) := by decide +kernel
theorem dX7_knownAt_23 : decode cX7_knownAt 23 = .ok (.if_icmp .ne 7, 3) := by decide +kernel
theorem dX7_knownAt_26 : decode cX7_knownAt 26 = .ok (.iconst 0, 1) := by decide +kernel
theorem dX7_knownAt_27 : decode cX7_knownAt 27 = .ok (.goto 4, 3) := by decide +kernel
theorem dX7_knownAt_30 : decode cX7_knownAt 30 = .ok (.iconst 1, 1) := by decide +kernel
theorem dX7_knownAt_31 : decode cX7_knownAt 31 = .ok (.ior, 1) := by decide +kernel
theorem dX7_knownAt_32 : decode cX7_knownAt 32 = .ok (.istore_n 3, 1) := by decide +kernel
theorem dX7_knownAt_33 : decode cX7_knownAt 33 = .ok (.iinc 4 1, 3) := by decide +kernel
theorem dX7_knownAt_36 : decode cX7_knownAt 36 = .ok (.goto (-31), 3) := by decide +kernel
theorem dX7_knownAt_39 : decode cX7_knownAt 39 = .ok (.iload_n 3, 1) := by decide +kernel
theorem dX7_knownAt_40 : decode cX7_knownAt 40 = .ok (.ireturn, 1) := by decide +kernel
theorem dX7_putNumber_0 : decode cX7_putNumber 0 = .ok (.iconst 0, 1) := by decide +kernel
theorem dX7_putNumber_1 : decode cX7_putNumber 1 = .ok (.istore 4, 2) := by decide +kernel
theorem dX7_putNumber_3 : decode cX7_putNumber 3 = .ok (.iload 4, 2) := by decide +kernel
theorem dX7_putNumber_5 : decode cX7_putNumber 5 = .ok (.iload_n 3, 1) := by decide +kernel
theorem dX7_putNumber_6 : decode cX7_putNumber 6 = .ok (.if_icmp .ge 27, 3) := by decide +kernel
theorem dX7_putNumber_9 : decode cX7_putNumber 9 = .ok (.aload_n 0, 1) := by decide +kernel
theorem dX7_putNumber_10 : decode cX7_putNumber 10 = .ok (.iload_n 1, 1) := by decide +kernel
theorem dX7_putNumber_11 : decode cX7_putNumber 11 = .ok (.iload 4, 2) := by decide +kernel
theorem dX7_putNumber_13 : decode cX7_putNumber 13 = .ok (.iadd, 1) := by decide +kernel
theorem dX7_putNumber_14 : decode cX7_putNumber 14 = .ok (.iload_n 2, 1) := by decide +kernel
theorem dX7_putNumber_15 : decode cX7_putNumber 15 = .ok (.iload_n 3, 1) := by decide +kernel
theorem dX7_putNumber_16 : decode cX7_putNumber 16 = .ok (.iconst 1, 1) := by decide +kernel
theorem dX7_putNumber_17 : decode cX7_putNumber 17 = .ok (.isub, 1) := by decide +kernel
theorem dX7_putNumber_18 : decode cX7_putNumber 18 = .ok (.iload 4, 2) := by decide +kernel
theorem dX7_putNumber_20 : decode cX7_putNumber 20 = .ok (.isub, 1) := by decide +kernel
theorem dX7_putNumber_21 : decode cX7_putNumber 21 = .ok (.iushr, 1) := by decide +kernel
theorem dX7_putNumber_22 : decode cX7_putNumber 22 = .ok (.iconst 1, 1) := by decide +kernel
theorem dX7_putNumber_23 : decode cX7_putNumber 23 = .ok (.iand, 1) := by decide +kernel
theorem dX7_putNumber_24 : decode cX7_putNumber 24 = .ok (.invokevirtual 32, 3) := by decide +kernel
theorem dX7_putNumber_27 : decode cX7_putNumber 27 = .ok (.iinc 4 1, 3) := by decide +kernel
theorem dX7_putNumber_30 : decode cX7_putNumber 30 = .ok (.goto (-27), 3) := by decide +kernel
theorem dX7_putNumber_33 : decode cX7_putNumber 33 = .ok (.return_, 1) := by decide +kernel
theorem dX7_copy_0 : decode cX7_copy 0 = .ok (.aload_n 0, 1) := by decide +kernel
theorem dX7_copy_1 : decode cX7_copy 1 = .ok (.aload_n 1, 1) := by decide +kernel
theorem dX7_copy_2 : decode cX7_copy 2 = .ok (.invokevirtual 40, 3) := by decide +kernel
theorem dX7_copy_5 : decode cX7_copy 5 = .ok (.invokevirtual 43, 3) := by decide +kernel
theorem dX7_copy_8 : decode cX7_copy 8 = .ok (.iconst 0, 1) := by decide +kernel
theorem dX7_copy_9 : decode cX7_copy 9 = .ok (.istore_n 2, 1) := by decide +kernel
theorem dX7_copy_10 : decode cX7_copy 10 = .ok (.iload_n 2, 1) := by decide +kernel
theorem dX7_copy_11 : decode cX7_copy 11 = .ok (.aload_n 0, 1) := by decide +kernel
theorem dX7_copy_12 : decode cX7_copy 12 = .ok (.getfield 9, 3) := by decide +kernel
theorem dX7_copy_15 : decode cX7_copy 15 = .ok (.if_icmp .ge 19, 3) := by decide +kernel
theorem dX7_copy_18 : decode cX7_copy 18 = .ok (.aload_n 0, 1) := by decide +kernel
theorem dX7_copy_19 : decode cX7_copy 19 = .ok (.iload_n 2, 1) := by decide +kernel
theorem dX7_copy_20 : decode cX7_copy 20 = .ok (.aload_n 1, 1) := by decide +kernel
theorem dX7_copy_21 : decode cX7_copy 21 = .ok (.iload_n 2, 1) := by decide +kernel
theorem dX7_copy_22 : decode cX7_copy 22 = .ok (.invokevirtual 28, 3) := by decide +kernel
theorem dX7_copy_25 : decode cX7_copy 25 = .ok (.invokevirtual 32, 3) := by decide +kernel
theorem dX7_copy_28 : decode cX7_copy 28 = .ok (.iinc 2 1, 3) := by decide +kernel
theorem dX7_copy_31 : decode cX7_copy 31 = .ok (.goto (-21), 3) := by decide +kernel
theorem dX7_copy_34 : decode cX7_copy 34 = .ok (.return_, 1) := by decide +kernel
theorem dX7_unlike_0 : decode cX7_unlike 0 = .ok (.iconst 0, 1) := by decide +kernel
theorem dX7_unlike_1 : decode cX7_unlike 1 = .ok (.istore_n 2, 1) := by decide +kernel
theorem dX7_unlike_2 : decode cX7_unlike 2 = .ok (.iconst 0, 1) := by decide +kernel
theorem dX7_unlike_3 : decode cX7_unlike 3 = .ok (.istore_n 3, 1) := by decide +kernel
theorem dX7_unlike_4 : decode cX7_unlike 4 = .ok (.iload_n 3, 1) := by decide +kernel
theorem dX7_unlike_5 : decode cX7_unlike 5 = .ok (.aload_n 0, 1) := by decide +kernel
theorem dX7_unlike_6 : decode cX7_unlike 6 = .ok (.getfield 9, 3) := by decide +kernel
theorem dX7_unlike_9 : decode cX7_unlike 9 = .ok (.if_icmp .ge 25, 3) := by decide +kernel
theorem dX7_unlike_12 : decode cX7_unlike 12 = .ok (.aload_n 0, 1) := by decide +kernel
theorem dX7_unlike_13 : decode cX7_unlike 13 = .ok (.iload_n 3, 1) := by decide +kernel
theorem dX7_unlike_14 : decode cX7_unlike 14 = .ok (.invokevirtual 28, 3) := by decide +kernel
theorem dX7_unlike_17 : decode cX7_unlike 17 = .ok (.aload_n 1, 1) := by decide +kernel
theorem dX7_unlike_18 : decode cX7_unlike 18 = .ok (.iload_n 3, 1) := by decide +kernel
theorem dX7_unlike_19 : decode cX7_unlike 19 = .ok (.invokevirtual 28, 3) := by decide +kernel
theorem dX7_unlike_22 : decode cX7_unlike 22 = .ok (.if_icmp .eq 6, 3) := by decide +kernel
theorem dX7_unlike_25 : decode cX7_unlike 25 = .ok (.iinc 2 1, 3) := by decide +kernel
theorem dX7_unlike_28 : decode cX7_unlike 28 = .ok (.iinc 3 1, 3) := by decide +kernel
theorem dX7_unlike_31 : decode cX7_unlike 31 = .ok (.goto (-27), 3) := by decide +kernel
theorem dX7_unlike_34 : decode cX7_unlike 34 = .ok (.iload_n 2, 1) := by decide +kernel
theorem dX7_unlike_35 : decode cX7_unlike 35 = .ok (.ireturn, 1) := by decide +kernel
theorem dX8_init_0 : decode cX8_init 0 = .ok (.aload_n 0, 1) := by decide +kernel
theorem dX8_init_1 : decode cX8_init 1 = .ok (.invokespecial 1, 3) := by decide +kernel
theorem dX8_init_4 : decode cX8_init 4 = .ok (.return_, 1) := by decide +kernel
theorem dX8_apart_0 : decode cX8_apart 0 = .ok (.iconst 1, 1) := by decide +kernel
theorem dX8_apart_1 : decode cX8_apart 1 = .ok (.ireturn, 1) := by decide +kernel
theorem dX8_damagedIn_0 : decode cX8_damagedIn 0 = .ok (.iconst 0, 1) := by decide +kernel
theorem dX8_damagedIn_1 : decode cX8_damagedIn 1 = .ok (.ireturn, 1) := by decide +kernel
theorem dX8_wordsWith_0 : decode cX8_wordsWith 0 = .ok (.iconst 0, 1) := by decide +kernel
theorem dX8_wordsWith_1 : decode cX8_wordsWith 1 = .ok (.ireturn, 1) := by decide +kernel
