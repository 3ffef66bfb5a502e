set_option maxRecDepth 20000 in
theorem ggX0_init_X8_init : GoodIn wsX0_init wsX8_init := goodIn_r _ [7, 8, 9, 10] (by decide +kernel) (by decide +kernel)
set_option maxRecDepth 20000 in
theorem gX0_init_X8_init_n3 : GoodIn wsX0_init (wsX8_init) := ggX0_init_X8_init
set_option maxRecDepth 20000 in
theorem ggX0_init_X0_chosen : GoodIn wsX0_init wsX0_chosen := goodIn_r _ [14] (by decide +kernel) (by decide +kernel)
set_option maxRecDepth 20000 in
theorem gX0_init_X0_chosen : GoodIn wsX0_init (va_wsS RX0 22 yX0_chosen wsX0_chosen) := goodIn_app (goodIn_of _ (by decide +kernel)) ggX0_init_X0_chosen
set_option maxRecDepth 20000 in
theorem ggX0_sizeOf_X11_blocksOf : GoodIn wsX0_sizeOf wsX11_blocksOf := goodIn_r _ [5] (by decide +kernel) (by decide +kernel)
set_option maxRecDepth 20000 in
theorem gX0_sizeOf_X11_blocksOf_n32 : GoodIn wsX0_sizeOf (wsX11_blocksOf) := ggX0_sizeOf_X11_blocksOf
set_option maxRecDepth 20000 in
theorem ggX0_apart_X0_wordsInAll : GoodIn wsX0_apart wsX0_wordsInAll := goodIn_r _ [11, 2, 12, 3, 4, 5, 6, 23, 24, 25] (by decide +kernel) (by decide +kernel)
set_option maxRecDepth 20000 in
theorem gX0_apart_X0_wordsInAll : GoodIn wsX0_apart (wsV RX0 35 RX0 yX0_wordsInAll wsX0_wordsInAll) := goodIn_app (goodIn_of _ (by decide +kernel)) ggX0_apart_X0_wordsInAll
set_option maxRecDepth 20000 in
theorem ggX0_apart_X11_at : GoodIn wsX0_apart wsX11_at := goodIn_r _ [15] (by decide +kernel) (by decide +kernel)
set_option maxRecDepth 20000 in
theorem gX0_apart_X11_at_n39 : GoodIn wsX0_apart (wsX11_at) := ggX0_apart_X11_at
set_option maxRecDepth 20000 in
theorem ggX0_apart_J6_bitCount_0f7a4 : GoodIn wsX0_apart wsJ6_bitCount_0f7a4 := goodIn_r _ [19, 20, 21, 22] (by decide +kernel) (by decide +kernel)
set_option maxRecDepth 20000 in
theorem gX0_apart_J6_bitCount_0f7a4 : GoodIn wsX0_apart (va_wsS RX0 43 yJ6_bitCount_0f7a4 wsJ6_bitCount_0f7a4) := goodIn_app (goodIn_of _ (by decide +kernel)) ggX0_apart_J6_bitCount_0f7a4
set_option maxRecDepth 20000 in
theorem ggX0_wordsWith_X0_wordsInAll : GoodIn wsX0_wordsWith wsX0_wordsInAll := goodIn_r _ [6, 1, 7, 8, 9, 10, 11, 22, 23, 24] (by decide +kernel) (by decide +kernel)
set_option maxRecDepth 20000 in
theorem gX0_wordsWith_X0_wordsInAll : GoodIn wsX0_wordsWith (wsV RX0 35 RX0 yX0_wordsInAll wsX0_wordsInAll) := goodIn_app (goodIn_of _ (by decide +kernel)) ggX0_wordsWith_X0_wordsInAll
set_option maxRecDepth 20000 in
theorem ggX0_wordsWith_X11_at : GoodIn wsX0_wordsWith wsX11_at := goodIn_r _ [14] (by decide +kernel) (by decide +kernel)
set_option maxRecDepth 20000 in
theorem gX0_wordsWith_X11_at_n39 : GoodIn wsX0_wordsWith (wsX11_at) := ggX0_wordsWith_X11_at
set_option maxRecDepth 20000 in
theorem ggX0_wordsWith_J6_bitCount_0f7a4 : GoodIn wsX0_wordsWith wsJ6_bitCount_0f7a4 := goodIn_r _ [18, 19, 20, 21] (by decide +kernel) (by decide +kernel)
set_option maxRecDepth 20000 in
theorem gX0_wordsWith_J6_bitCount_0f7a4 : GoodIn wsX0_wordsWith (va_wsS RX0 43 yJ6_bitCount_0f7a4 wsJ6_bitCount_0f7a4) := goodIn_app (goodIn_of _ (by decide +kernel)) ggX0_wordsWith_J6_bitCount_0f7a4
set_option maxRecDepth 20000 in
theorem ggX0_code_X7_size : GoodIn wsX0_code wsX7_size := goodIn_r _ [8, 9, 35, 36] (by decide +kernel) (by decide +kernel)
set_option maxRecDepth 20000 in
theorem gX0_code_X7_size : GoodIn wsX0_code (wsV RX0 49 RX7 yX7_size wsX7_size) := goodIn_app (goodIn_of _ (by decide +kernel)) ggX0_code_X7_size
set_option maxRecDepth 20000 in
theorem ggX0_code_X11_blocksOf : GoodIn wsX0_code wsX11_blocksOf := goodIn_r _ [12] (by decide +kernel) (by decide +kernel)
set_option maxRecDepth 20000 in
theorem gX0_code_X11_blocksOf_n32 : GoodIn wsX0_code (wsX11_blocksOf) := ggX0_code_X11_blocksOf
set_option maxRecDepth 20000 in
theorem ggX0_code_X7_numberAt : GoodIn wsX0_code wsX7_numberAt := goodIn_r _ [16, 17, 18, 19, 7, 20, 9, 21, 35, 36] (by decide +kernel) (by decide +kernel)
set_option maxRecDepth 20000 in
theorem gX0_code_X7_numberAt : GoodIn wsX0_code (wsV RX0 54 RX7 yX7_numberAt wsX7_numberAt) := goodIn_app (goodIn_of _ (by decide +kernel)) ggX0_code_X7_numberAt
set_option maxRecDepth 20000 in
theorem ggX0_code_X11_at : GoodIn wsX0_code wsX11_at := goodIn_r _ [23] (by decide +kernel) (by decide +kernel)
set_option maxRecDepth 20000 in
theorem gX0_code_X11_at_n39 : GoodIn wsX0_code (wsX11_at) := ggX0_code_X11_at
set_option maxRecDepth 20000 in
theorem ggX0_code_X7_putNumber : GoodIn wsX0_code wsX7_putNumber := goodIn_r _ [27, 28, 29, 30, 7, 31, 9, 21, 35, 36] (by decide +kernel) (by decide +kernel)
set_option maxRecDepth 20000 in
theorem gX0_code_X7_putNumber : GoodIn wsX0_code (wsV RX0 57 RX7 yX7_putNumber wsX7_putNumber) := goodIn_app (goodIn_of _ (by decide +kernel)) ggX0_code_X7_putNumber
set_option maxRecDepth 20000 in
theorem ggX0_decode_X7_size : GoodIn wsX0_decode wsX7_size := goodIn_r _ [7, 8, 60, 61] (by decide +kernel) (by decide +kernel)
set_option maxRecDepth 20000 in
theorem gX0_decode_X7_size : GoodIn wsX0_decode (wsV RX0 49 RX7 yX7_size wsX7_size) := goodIn_app (goodIn_of _ (by decide +kernel)) ggX0_decode_X7_size
set_option maxRecDepth 20000 in
theorem ggX0_decode_X11_blocksOf : GoodIn wsX0_decode wsX11_blocksOf := goodIn_r _ [11] (by decide +kernel) (by decide +kernel)
set_option maxRecDepth 20000 in
theorem gX0_decode_X11_blocksOf_n32 : GoodIn wsX0_decode (wsX11_blocksOf) := ggX0_decode_X11_blocksOf
set_option maxRecDepth 20000 in
theorem ggX0_decode_X7_numberAt : GoodIn wsX0_decode wsX7_numberAt := goodIn_r _ [15, 16, 17, 18, 6, 19, 8, 20, 60, 61] (by decide +kernel) (by decide +kernel)
set_option maxRecDepth 20000 in
theorem gX0_decode_X7_numberAt : GoodIn wsX0_decode (wsV RX0 54 RX7 yX7_numberAt wsX7_numberAt) := goodIn_app (goodIn_of _ (by decide +kernel)) ggX0_decode_X7_numberAt
set_option maxRecDepth 20000 in
theorem ggX0_decode_X7_knownAt : GoodIn wsX0_decode wsX7_knownAt := goodIn_r _ [24, 16, 17, 18, 6, 19, 8, 20, 60, 61] (by decide +kernel) (by decide +kernel)
set_option maxRecDepth 20000 in
theorem gX0_decode_X7_knownAt : GoodIn wsX0_decode (wsV RX0 61 RX7 yX7_knownAt wsX7_knownAt) := goodIn_app (goodIn_of _ (by decide +kernel)) ggX0_decode_X7_knownAt
set_option maxRecDepth 20000 in
theorem ggX0_decode_X0_nearest : GoodIn wsX0_decode wsX0_nearest := goodIn_r _ [29, 30, 31, 32, 33, 34, 28, 35, 1, 36, 37, 38, 39, 40, 10, 41, 42, 43, 44, 45, 46, 47, 48, 57, 58, 59] (by decide +kernel) (by decide +kernel)
set_option maxRecDepth 20000 in
theorem gX0_decode_X0_nearest : GoodIn wsX0_decode (wsV RX0 64 RX0 yX0_nearest wsX0_nearest) := goodIn_app (goodIn_of _ (by decide +kernel)) ggX0_decode_X0_nearest
set_option maxRecDepth 20000 in
theorem ggX0_decode_X7_putNumber : GoodIn wsX0_decode wsX7_putNumber := goodIn_r _ [52, 53, 54, 55, 6, 56, 8, 20, 60, 61] (by decide +kernel) (by decide +kernel)
set_option maxRecDepth 20000 in
theorem gX0_decode_X7_putNumber : GoodIn wsX0_decode (wsV RX0 57 RX7 yX7_putNumber wsX7_putNumber) := goodIn_app (goodIn_of _ (by decide +kernel)) ggX0_decode_X7_putNumber
set_option maxRecDepth 20000 in
theorem ggX0_nearest_X0_wordsInAll : GoodIn wsX0_nearest wsX0_wordsInAll := goodIn_r _ [7, 2, 8, 9, 10, 11, 12, 23, 24, 25] (by decide +kernel) (by decide +kernel)
set_option maxRecDepth 20000 in
theorem gX0_nearest_X0_wordsInAll : GoodIn wsX0_nearest (wsV RX0 35 RX0 yX0_wordsInAll wsX0_wordsInAll) := goodIn_app (goodIn_of _ (by decide +kernel)) ggX0_nearest_X0_wordsInAll
set_option maxRecDepth 20000 in
theorem ggX0_nearest_X11_at : GoodIn wsX0_nearest wsX11_at := goodIn_r _ [15] (by decide +kernel) (by decide +kernel)
set_option maxRecDepth 20000 in
theorem gX0_nearest_X11_at_n39 : GoodIn wsX0_nearest (wsX11_at) := ggX0_nearest_X11_at
set_option maxRecDepth 20000 in
theorem ggX0_nearest_J6_bitCount_0f7a4 : GoodIn wsX0_nearest wsJ6_bitCount_0f7a4 := goodIn_r _ [19, 20, 21, 22] (by decide +kernel) (by decide +kernel)
set_option maxRecDepth 20000 in
theorem gX0_nearest_J6_bitCount_0f7a4 : GoodIn wsX0_nearest (va_wsS RX0 43 yJ6_bitCount_0f7a4 wsJ6_bitCount_0f7a4) := goodIn_app (goodIn_of _ (by decide +kernel)) ggX0_nearest_J6_bitCount_0f7a4
theorem dX0_init_0 : decode cX0_init 0 = .ok (.aload_n 0, 1) := by decide +kernel
theorem dX0_init_1 : decode cX0_init 1 = .ok (.invokespecial 3, 3) := by decide +kernel
theorem dX0_init_4 : decode cX0_init 4 = .ok (.aload_n 0, 1) := by decide +kernel
theorem dX0_init_5 : decode cX0_init 5 = .ok (.iload_n 1, 1) := by decide +kernel
theorem dX0_init_6 : decode cX0_init 6 = .ok (.putfield 9, 3) := by decide +kernel
theorem dX0_init_9 : decode cX0_init 9 = .ok (.aload_n 0, 1) := by decide +kernel
theorem dX0_init_10 : decode cX0_init 10 = .ok (.iload_n 2, 1) := by decide +kernel
theorem dX0_init_11 : decode cX0_init 11 = .ok (.putfield 15, 3) := by decide +kernel
theorem dX0_init_14 : decode cX0_init 14 = .ok (.aload_n 0, 1) := by decide +kernel
theorem dX0_init_15 : decode cX0_init 15 = .ok (.bipush 16, 2) := by decide +kernel
theorem dX0_init_17 : decode cX0_init 17 = .ok (.newarray .int, 2) := by decide +kernel
theorem dX0_init_19 : decode cX0_init 19 = .ok (.putfield 18, 3) := by decide +kernel
theorem dX0_init_22 : decode cX0_init 22 = .ok (.iconst 0, 1) := by decide +kernel
theorem dX0_init_23 : decode cX0_init 23 = .ok (.istore 7, 2) := by decide +kernel
theorem dX0_init_25 : decode cX0_init 25 = .ok (.iload 7, 2) := by decide +kernel
theorem dX0_init_27 : decode cX0_init 27 = .ok (.aload_n 0, 1) := by decide +kernel
theorem dX0_init_28 : decode cX0_init 28 = .ok (.getfield 18, 3) := by decide +kernel
theorem dX0_init_31 : decode cX0_init 31 = .ok (.arraylength, 1) := by decide +kernel
theorem dX0_init_32 : decode cX0_init 32 = .ok (.if_icmp .ge 58, 3) := by decide +kernel
theorem dX0_init_35 : decode cX0_init 35 = .ok (.aload_n 0, 1) := by decide +kernel
theorem dX0_init_36 : decode cX0_init 36 = .ok (.getfield 18, 3) := by decide +kernel
theorem dX0_init_39 : decode cX0_init 39 = .ok (.iload 7, 2) := by decide +kernel
theorem dX0_init_41 : decode cX0_init 41 = .ok (.iload 7, 2) := by decide +kernel
theorem dX0_init_43 : decode cX0_init 43 = .ok (.iload_n 1, 1) := by decide +kernel
theorem dX0_init_44 : decode cX0_init 44 = .ok (.iconst 1, 1) := by decide +kernel
theorem dX0_init_45 : decode cX0_init 45 = .ok (.isub, 1) := by decide +kernel
theorem dX0_init_46 : decode cX0_init 46 = .ok (.iload_n 3, 1) := by decide +kernel
theorem dX0_init_47 : decode cX0_init 47 = .ok (.invokestatic 22, 3) := by decide +kernel
theorem dX0_init_50 : decode cX0_init 50 = .ok (.iload 7, 2) := by decide +kernel
theorem dX0_init_52 : decode cX0_init 52 = .ok (.iload_n 1, 1) := by decide +kernel
theorem dX0_init_53 : decode cX0_init 53 = .ok (.iconst 2, 1) := by decide +kernel
theorem dX0_init_54 : decode cX0_init 54 = .ok (.isub, 1) := by decide +kernel
theorem dX0_init_55 : decode cX0_init 55 = .ok (.iload 4, 2) := by decide +kernel
theorem dX0_init_57 : decode cX0_init 57 = .ok (.invokestatic 22, 3) := by decide +kernel
theorem dX0_init_60 : decode cX0_init 60 = .ok (.ixor, 1) := by decide +kernel
theorem dX0_init_61 : decode cX0_init 61 = .ok (.iload 7, 2) := by decide +kernel
theorem dX0_init_63 : decode cX0_init 63 = .ok (.iload_n 1, 1) := by decide +kernel
theorem dX0_init_64 : decode cX0_init 64 = .ok (.iconst 3, 1) := by decide +kernel
theorem dX0_init_65 : decode cX0_init 65 = .ok (.isub, 1) := by decide +kernel
theorem dX0_init_66 : decode cX0_init 66 = .ok (.iload 5, 2) := by decide +kernel
theorem dX0_init_68 : decode cX0_init 68 = .ok (.invokestatic 22, 3) := by decide +kernel
theorem dX0_init_71 : decode cX0_init 71 = .ok (.ixor, 1) := by decide +kernel
theorem dX0_init_72 : decode cX0_init 72 = .ok (.iload 7, 2) := by decide +kernel
theorem dX0_init_74 : decode cX0_init 74 = .ok (.iload_n 1, 1) := by decide +kernel
theorem dX0_init_75 : decode cX0_init 75 = .ok (.iconst 4, 1) := by decide +kernel
theorem dX0_init_76 : decode cX0_init 76 = .ok (.isub, 1) := by decide +kernel
theorem dX0_init_77 : decode cX0_init 77 = .ok (.iload 6, 2) := by decide +kernel
theorem dX0_init_79 : decode cX0_init 79 = .ok (.invokestatic 22, 3) := by decide +kernel
theorem dX0_init_82 : decode cX0_init 82 = .ok (.ixor, 1) := by decide +kernel
theorem dX0_init_83 : decode cX0_init 83 = .ok (.iastore, 1) := by decide +kernel
theorem dX0_init_84 : decode cX0_init 84 = .ok (.iinc 7 1, 3) := by decide +kernel
theorem dX0_init_87 : decode cX0_init 87 = .ok (.goto (-62), 3) := by decide +kernel
theorem dX0_init_90 : decode cX0_init 90 = .ok (.return_, 1) := by decide +kernel
theorem dX0_chosen_0 : decode cX0_chosen 0 = .ok (.iload_n 1, 1) := by decide +kernel
theorem dX0_chosen_1 : decode cX0_chosen 1 = .ok (.ifCond .lt 16, 3) := by decide +kernel
theorem dX0_chosen_4 : decode cX0_chosen 4 = .ok (.iload_n 0, 1) := by decide +kernel
theorem dX0_chosen_5 : decode cX0_chosen 5 = .ok (.iload_n 1, 1) := by decide +kernel
theorem dX0_chosen_6 : decode cX0_chosen 6 = .ok (.iushr, 1) := by decide +kernel
theorem dX0_chosen_7 : decode cX0_chosen 7 = .ok (.iconst 1, 1) := by decide +kernel
theorem dX0_chosen_8 : decode cX0_chosen 8 = .ok (.iand, 1) := by decide +kernel
theorem dX0_chosen_9 : decode cX0_chosen 9 = .ok (.iconst 1, 1) := by decide +kernel
theorem dX0_chosen_10 : decode cX0_chosen 10 = .ok (.if_icmp .ne 7, 3) := by decide +kernel
theorem dX0_chosen_13 : decode cX0_chosen 13 = .ok (.iload_n 2, 1) := by decide +kernel
theorem dX0_chosen_14 : decode cX0_chosen 14 = .ok (.goto 4, 3) := by decide +kernel
theorem dX0_chosen_17 : decode cX0_chosen 17 = .ok (.iconst 0, 1) := by decide +kernel
theorem dX0_chosen_18 : decode cX0_chosen 18 = .ok (.ireturn, 1) := by decide +kernel
theorem dX0_wordsInAll_0 : decode cX0_wordsInAll 0 = .ok (.aload_n 0, 1) := by decide +kernel
theorem dX0_wordsInAll_1 : decode cX0_wordsInAll 1 = .ok (.getfield 18, 3) := by decide +kernel
theorem dX0_wordsInAll_4 : decode cX0_wordsInAll 4 = .ok (.arraylength, 1) := by decide +kernel
theorem dX0_wordsInAll_5 : decode cX0_wordsInAll 5 = .ok (.iconst 1, 1) := by decide +kernel
theorem dX0_wordsInAll_6 : decode cX0_wordsInAll 6 = .ok (.aload_n 0, 1) := by decide +kernel
theorem dX0_wordsInAll_7 : decode cX0_wordsInAll 7 = .ok (.getfield 9, 3) := by decide +kernel
theorem dX0_wordsInAll_10 : decode cX0_wordsInAll 10 = .ok (.ishl, 1) := by decide +kernel
theorem dX0_wordsInAll_11 : decode cX0_wordsInAll 11 = .ok (.invokestatic 26, 3) := by decide +kernel
theorem dX0_wordsInAll_14 : decode cX0_wordsInAll 14 = .ok (.ireturn, 1) := by decide +kernel
theorem dX0_kind_0 : decode cX0_kind 0 = .ok (.iconst 1, 1) := by decide +kernel
theorem dX0_kind_1 : decode cX0_kind 1 = .ok (.ireturn, 1) := by decide +kernel
theorem dX0_sizeOf_0 : decode cX0_sizeOf 0 = .ok (.iload_n 1, 1) := by decide +kernel
theorem dX0_sizeOf_1 : decode cX0_sizeOf 1 = .ok (.aload_n 0, 1) := by decide +kernel
theorem dX0_sizeOf_2 : decode cX0_sizeOf 2 = .ok (.getfield 9, 3) := by decide +kernel
theorem dX0_sizeOf_5 : decode cX0_sizeOf 5 = .ok (.invokestatic 32, 3) := by decide +kernel
theorem dX0_sizeOf_8 : decode cX0_sizeOf 8 = .ok (.aload_n 0, 1) := by decide +kernel
theorem dX0_sizeOf_9 : decode cX0_sizeOf 9 = .ok (.getfield 15, 3) := by decide +kernel
theorem dX0_sizeOf_12 : decode cX0_sizeOf 12 = .ok (.imul, 1) := by decide +kernel
theorem dX0_sizeOf_13 : decode cX0_sizeOf 13 = .ok (.ireturn, 1) := by decide +kernel
theorem dX0_apart_0 : decode cX0_apart 0 = .ok (.aload_n 0, 1) := by decide +kernel
theorem dX0_apart_1 : decode cX0_apart 1 = .ok (.getfield 15, 3) := by decide +kernel
theorem dX0_apart_4 : decode cX0_apart 4 = .ok (.istore_n 1, 1) := by decide +kernel
theorem dX0_apart_5 : decode cX0_apart 5 = .ok (.iconst 1, 1) := by decide +kernel
theorem dX0_apart_6 : decode cX0_apart 6 = .ok (.istore_n 2, 1) := by decide +kernel
theorem dX0_apart_7 : decode cX0_apart 7 = .ok (.iload_n 2, 1) := by decide +kernel
theorem dX0_apart_8 : decode cX0_apart 8 = .ok (.aload_n 0, 1) := by decide +kernel
theorem dX0_apart_9 : decode cX0_apart 9 = .ok (.invokevirtual 35, 3) := by decide +kernel
theorem dX0_apart_12 : decode cX0_apart 12 = .ok (.if_icmp .ge 25, 3) := by decide +kernel
theorem dX0_apart_15 : decode cX0_apart 15 = .ok (.iload_n 1, 1) := by decide +kernel
theorem dX0_apart_16 : decode cX0_apart 16 = .ok (.aload_n 0, 1) := by decide +kernel
theorem dX0_apart_17 : decode cX0_apart 17 = .ok (.getfield 18, 3) := by decide +kernel
theorem dX0_apart_20 : decode cX0_apart 20 = .ok (.iload_n 2, 1) := by decide +kernel
theorem dX0_apart_21 : decode cX0_apart 21 = .ok (.invokestatic 39, 3) := by decide +kernel
theorem dX0_apart_24 : decode cX0_apart 24 = .ok (.invokestatic 43, 3) := by decide +kernel
theorem dX0_apart_27 : decode cX0_apart 27 = .ok (.invokestatic 26, 3) := by decide +kernel
theorem dX0_apart_30 : decode cX0_apart 30 = .ok (.istore_n 1, 1) := by decide +kernel
theorem dX0_apart_31 : decode cX0_apart 31 = .ok (.iinc 2 1, 3) := by decide +kernel
theorem dX0_apart_34 : decode cX0_apart 34 = .ok (.goto (-27), 3) := by decide +kernel
theorem dX0_apart_37 : decode cX0_apart 37 = .ok (.iload_n 1, 1) := by decide +kernel
theorem dX0_apart_38 : decode cX0_apart 38 = .ok (.ireturn, 1) := by decide +kernel
theorem dX0_wordsWith_0 : decode cX0_wordsWith 0 = .ok (.iconst 0, 1) := by decide +kernel
theorem dX0_wordsWith_1 : decode cX0_wordsWith 1 = .ok (.istore_n 2, 1) := by decide +kernel
theorem dX0_wordsWith_2 : decode cX0_wordsWith 2 = .ok (.iconst 0, 1) := by decide +kernel
theorem dX0_wordsWith_3 : decode cX0_wordsWith 3 = .ok (.istore_n 3, 1) := by decide +kernel
theorem dX0_wordsWith_4 : decode cX0_wordsWith 4 = .ok (.iload_n 3, 1) := by decide +kernel
theorem dX0_wordsWith_5 : decode cX0_wordsWith 5 = .ok (.aload_n 0, 1) := by decide +kernel
theorem dX0_wordsWith_6 : decode cX0_wordsWith 6 = .ok (.invokevirtual 35, 3) := by decide +kernel
theorem dX0_wordsWith_9 : decode cX0_wordsWith 9 = .ok (.if_icmp .ge 27, 3) := by decide +kernel
theorem dX0_wordsWith_12 : decode cX0_wordsWith 12 = .ok (.aload_n 0, 1) := by decide +kernel
theorem dX0_wordsWith_13 : decode cX0_wordsWith 13 = .ok (.getfield 18, 3) := by decide +kernel
theorem dX0_wordsWith_16 : decode cX0_wordsWith 16 = .ok (.iload_n 3, 1) := by decide +kernel
theorem dX0_wordsWith_17 : decode cX0_wordsWith 17 = .ok (.invokestatic 39, 3) := by decide +kernel
theorem dX0_wordsWith_20 : decode cX0_wordsWith 20 = .ok (.invokestatic 43, 3) := by decide +kernel
theorem dX0_wordsWith_23 : decode cX0_wordsWith 23 = .ok (.iload_n 1, 1) := by decide +kernel
theorem dX0_wordsWith_24 : decode cX0_wordsWith 24 = .ok (.if_icmp .ne 6, 3) := by decide +kernel
theorem dX0_wordsWith_27 : decode cX0_wordsWith 27 = .ok (.iinc 2 1, 3) := by decide +kernel
theorem dX0_wordsWith_30 : decode cX0_wordsWith 30 = .ok (.iinc 3 1, 3) := by decide +kernel
theorem dX0_wordsWith_33 : decode cX0_wordsWith 33 = .ok (.goto (-29), 3) := by decide +kernel
theorem dX0_wordsWith_36 : decode cX0_wordsWith 36 = .ok (.iload_n 2, 1) := by decide +kernel
theorem dX0_wordsWith_37 : decode cX0_wordsWith 37 = .ok (.ireturn, 1) := by decide +kernel
theorem dX0_code_0 : decode cX0_code 0 = .ok (.aload_n 1, 1) := by decide +kernel
theorem dX0_code_1 : decode cX0_code 1 = .ok (.invokevirtual 49, 3) := by decide +kernel
theorem dX0_code_4 : decode cX0_code 4 = .ok (.aload_n 0, 1) := by decide +kernel
theorem dX0_code_5 : decode cX0_code 5 = .ok (.getfield 9, 3) := by decide +kernel
theorem dX0_code_8 : decode cX0_code 8 = .ok (.invokestatic 32, 3) := by decide +kernel
theorem dX0_code_11 : decode cX0_code 11 = .ok (.istore_n 3, 1) := by decide +kernel
theorem dX0_code_12 : decode cX0_code 12 = .ok (.iconst 0, 1) := by decide +kernel
theorem dX0_code_13 : decode cX0_code 13 = .ok (.istore 4, 2) := by decide +kernel
theorem dX0_code_15 : decode cX0_code 15 = .ok (.iload 4, 2) := by decide +kernel
theorem dX0_code_17 : decode cX0_code 17 = .ok (.iload_n 3, 1) := by decide +kernel
theorem dX0_code_18 : decode cX0_code 18 = .ok (.if_icmp .ge 50, 3) := by decide +kernel
theorem dX0_code_21 : decode cX0_code 21 = .ok (.aload_n 1, 1) := by decide +kernel
theorem dX0_code_22 : decode cX0_code 22 = .ok (.iload 4, 2) := by decide +kernel
theorem dX0_code_24 : decode cX0_code 24 = .ok (.aload_n 0, 1) := by decide +kernel
theorem dX0_code_25 : decode cX0_code 25 = .ok (.getfield 9, 3) := by decide +kernel
theorem dX0_code_28 : decode cX0_code 28 = .ok (.imul, 1) := by decide +kernel
theorem dX0_code_29 : decode cX0_code 29 = .ok (.aload_n 0, 1) := by decide +kernel
theorem dX0_code_30 : decode cX0_code 30 = .ok (.getfield 9, 3) := by decide +kernel
theorem dX0_code_33 : decode cX0_code 33 = .ok (.invokevirtual 54, 3) := by decide +kernel
theorem dX0_code_36 : decode cX0_code 36 = .ok (.istore 5, 2) := by decide +kernel
theorem dX0_code_38 : decode cX0_code 38 = .ok (.aload_n 2, 1) := by decide +kernel
theorem dX0_code_39 : decode cX0_code 39 = .ok (.iload 4, 2) := by decide +kernel
theorem dX0_code_41 : decode cX0_code 41 = .ok (.aload_n 0, 1) := by decide +kernel
theorem dX0_code_42 : decode cX0_code 42 = .ok (.getfield 15, 3) := by decide +kernel
theorem dX0_code_45 : decode cX0_code 45 = .ok (.imul, 1) := by decide +kernel
theorem dX0_code_46 : decode cX0_code 46 = .ok (.aload_n 0, 1) := by decide +kernel
theorem dX0_code_47 : decode cX0_code 47 = .ok (.getfield 18, 3) := by decide +kernel
theorem dX0_code_50 : decode cX0_code 50 = .ok (.iload 5, 2) := by decide +kernel
theorem dX0_code_52 : decode cX0_code 52 = .ok (.invokestatic 39, 3) := by decide +kernel
theorem dX0_code_55 : decode cX0_code 55 = .ok (.aload_n 0, 1) := by decide +kernel
theorem dX0_code_56 : decode cX0_code 56 = .ok (.getfield 15, 3) := by decide +kernel
theorem dX0_code_59 : decode cX0_code 59 = .ok (.invokevirtual 57, 3) := by decide +kernel
theorem dX0_code_62 : decode cX0_code 62 = .ok (.iinc 4 1, 3) := by decide +kernel
theorem dX0_code_65 : decode cX0_code 65 = .ok (.goto (-50), 3) := by decide +kernel
theorem dX0_code_68 : decode cX0_code 68 = .ok (.return_, 1) := by decide +kernel
theorem dX0_decode_0 : decode cX0_decode 0 = .ok (.aload_n 2, 1) := by decide +kernel
theorem dX0_decode_1 : decode cX0_decode 1 = .ok (.invokevirtual 49, 3) := by decide +kernel
theorem dX0_decode_4 : decode cX0_decode 4 = .ok (.aload_n 0, 1) := by decide +kernel
theorem dX0_decode_5 : decode cX0_decode 5 = .ok (.getfield 9, 3) := by decide +kernel
theorem dX0_decode_8 : decode cX0_decode 8 = .ok (.invokestatic 32, 3) := by decide +kernel
theorem dX0_decode_11 : decode cX0_decode 11 = .ok (.istore_n 3, 1) := by decide +kernel
theorem dX0_decode_12 : decode cX0_decode 12 = .ok (.iconst 0, 1) := by decide +kernel
theorem dX0_decode_13 : decode cX0_decode 13 = .ok (.istore 4, 2) := by decide +kernel
theorem dX0_decode_15 : decode cX0_decode 15 = .ok (.iload 4, 2) := by decide +kernel
theorem dX0_decode_17 : decode cX0_decode 17 = .ok (.iload_n 3, 1) := by decide +kernel
theorem dX0_decode_18 : decode cX0_decode 18 = .ok (.if_icmp .ge 66, 3) := by decide +kernel
theorem dX0_decode_21 : decode cX0_decode 21 = .ok (.aload_n 1, 1) := by decide +kernel
theorem dX0_decode_22 : decode cX0_decode 22 = .ok (.iload 4, 2) := by decide +kernel
theorem dX0_decode_24 : decode cX0_decode 24 = .ok (.aload_n 0, 1) := by decide +kernel
theorem dX0_decode_25 : decode cX0_decode 25 = .ok (.getfield 15, 3) := by decide +kernel
theorem dX0_decode_28 : decode cX0_decode 28 = .ok (.imul, 1) := by decide +kernel
theorem dX0_decode_29 : decode cX0_decode 29 = .ok (.aload_n 0, 1) := by decide +kernel
theorem dX0_decode_30 : decode cX0_decode 30 = .ok (.getfield 15, 3) := by decide +kernel
theorem dX0_decode_33 : decode cX0_decode 33 = .ok (.invokevirtual 54, 3) := by decide +kernel
theorem dX0_decode_36 : decode cX0_decode 36 = .ok (.istore 5, 2) := by decide +kernel
theorem dX0_decode_38 : decode cX0_decode 38 = .ok (.aload_n 1, 1) := by decide +kernel
theorem dX0_decode_39 : decode cX0_decode 39 = .ok (.iload 4, 2) := by decide +kernel
theorem dX0_decode_41 : decode cX0_decode 41 = .ok (.aload_n 0, 1) := by decide +kernel
theorem dX0_decode_42 : decode cX0_decode 42 = .ok (.getfield 15, 3) := by decide +kernel
theorem dX0_decode_45 : decode cX0_decode 45 = .ok (.imul, 1) := by decide +kernel
theorem dX0_decode_46 : decode cX0_decode 46 = .ok (.aload_n 0, 1) := by decide +kernel
theorem dX0_decode_47 : decode cX0_decode 47 = .ok (.getfield 15, 3) := by decide +kernel
theorem dX0_decode_50 : decode cX0_decode 50 = .ok (.invokevirtual 61, 3) := by decide +kernel
theorem dX0_decode_53 : decode cX0_decode 53 = .ok (.istore 6, 2) := by decide +kernel
theorem dX0_decode_55 : decode cX0_decode 55 = .ok (.aload_n 2, 1) := by decide +kernel
theorem dX0_decode_56 : decode cX0_decode 56 = .ok (.iload 4, 2) := by decide +kernel
theorem dX0_decode_58 : decode cX0_decode 58 = .ok (.aload_n 0, 1) := by decide +kernel
theorem dX0_decode_59 : decode cX0_decode 59 = .ok (.getfield 9, 3) := by decide +kernel
theorem dX0_decode_62 : decode cX0_decode 62 = .ok (.imul, 1) := by decide +kernel
theorem dX0_decode_63 : decode cX0_decode 63 = .ok (.aload_n 0, 1) := by decide +kernel
theorem dX0_decode_64 : decode cX0_decode 64 = .ok (.iload 5, 2) := by decide +kernel
theorem dX0_decode_66 : decode cX0_decode 66 = .ok (.iload 6, 2) := by decide +kernel
theorem dX0_decode_68 : decode cX0_decode 68 = .ok (.invokevirtual 64, 3) := by decide +kernel
theorem dX0_decode_71 : decode cX0_decode 71 = .ok (.aload_n 0, 1) := by decide +kernel
theorem dX0_decode_72 : decode cX0_decode 72 = .ok (.getfield 9, 3) := by decide +kernel
theorem dX0_decode_75 : decode cX0_decode 75 = .ok (.invokevirtual 57, 3) := by decide +kernel
theorem dX0_decode_78 : decode cX0_decode 78 = .ok (.iinc 4 1, 3) := by decide +kernel
theorem dX0_decode_81 : decode cX0_decode 81 = .ok (.goto (-66), 3) := by decide +kernel
theorem dX0_decode_84 : decode cX0_decode 84 = .ok (.return_, 1) := by decide +kernel
theorem dX0_nearest_0 : decode cX0_nearest 0 = .ok (.iconst 0, 1) := by decide +kernel
theorem dX0_nearest_1 : decode cX0_nearest 1 = .ok (.istore_n 3, 1) := by decide +kernel
theorem dX0_nearest_2 : decode cX0_nearest 2 = .ok (.ldc 67, 2) := by decide +kernel
theorem dX0_nearest_4 : decode cX0_nearest 4 = .ok (.istore 4, 2) := by decide +kernel
theorem dX0_nearest_6 : decode cX0_nearest 6 = .ok (.iconst 0, 1) := by decide +kernel
theorem dX0_nearest_7 : decode cX0_nearest 7 = .ok (.istore 5, 2) := by decide +kernel
theorem dX0_nearest_9 : decode cX0_nearest 9 = .ok (.iload 5, 2) := by decide +kernel
theorem dX0_nearest_11 : decode cX0_nearest 11 = .ok (.aload_n 0, 1) := by decide +kernel
theorem dX0_nearest_12 : decode cX0_nearest 12 = .ok (.invokevirtual 35, 3) := by decide +kernel
theorem dX0_nearest_15 : decode cX0_nearest 15 = .ok (.if_icmp .ge 41, 3) := by decide +kernel
theorem dX0_nearest_18 : decode cX0_nearest 18 = .ok (.aload_n 0, 1) := by decide +kernel
theorem dX0_nearest_19 : decode cX0_nearest 19 = .ok (.getfield 18, 3) := by decide +kernel
theorem dX0_nearest_22 : decode cX0_nearest 22 = .ok (.iload 5, 2) := by decide +kernel
theorem dX0_nearest_24 : decode cX0_nearest 24 = .ok (.invokestatic 39, 3) := by decide +kernel
theorem dX0_nearest_27 : decode cX0_nearest 27 = .ok (.iload_n 1, 1) := by decide +kernel
theorem dX0_nearest_28 : decode cX0_nearest 28 = .ok (.ixor, 1) := by decide +kernel
theorem dX0_nearest_29 : decode cX0_nearest 29 = .ok (.iload_n 2, 1) := by decide +kernel
theorem dX0_nearest_30 : decode cX0_nearest 30 = .ok (.iand, 1) := by decide +kernel
theorem dX0_nearest_31 : decode cX0_nearest 31 = .ok (.invokestatic 43, 3) := by decide +kernel
theorem dX0_nearest_34 : decode cX0_nearest 34 = .ok (.istore 6, 2) := by decide +kernel
theorem dX0_nearest_36 : decode cX0_nearest 36 = .ok (.iload 6, 2) := by decide +kernel
theorem dX0_nearest_38 : decode cX0_nearest 38 = .ok (.iload 4, 2) := by decide +kernel
theorem dX0_nearest_40 : decode cX0_nearest 40 = .ok (.if_icmp .ge 10, 3) := by decide +kernel
theorem dX0_nearest_43 : decode cX0_nearest 43 = .ok (.iload 6, 2) := by decide +kernel
theorem dX0_nearest_45 : decode cX0_nearest 45 = .ok (.istore 4, 2) := by decide +kernel
theorem dX0_nearest_47 : decode cX0_nearest 47 = .ok (.iload 5, 2) := by decide +kernel
theorem dX0_nearest_49 : decode cX0_nearest 49 = .ok (.istore_n 3, 1) := by decide +kernel
theorem dX0_nearest_50 : decode cX0_nearest 50 = .ok (.iinc 5 1, 3) := by decide +kernel
theorem dX0_nearest_53 : decode cX0_nearest 53 = .ok (.goto (-44), 3) := by decide +kernel
theorem dX0_nearest_56 : decode cX0_nearest 56 = .ok (.iload_n 3, 1) := by decide +kernel
theorem dX0_nearest_57 : decode cX0_nearest 57 = .ok (.ireturn, 1) := by decide +kernel
set_option maxRecDepth 20000 in
theorem ggX1_sizeAtEnd_X1_stageAt : GoodIn wsX1_sizeAtEnd wsX1_stageAt := goodIn_r _ [6, 1, 7, 46, 47] (by decide +kernel) (by decide +kernel)
set_option maxRecDepth 20000 in
theorem gX1_sizeAtEnd_X1_stageAt : GoodIn wsX1_sizeAtEnd (wsV RX1 21 RX1 yX1_stageAt wsX1_stageAt) := goodIn_app (goodIn_of _ (by decide +kernel)) ggX1_sizeAtEnd_X1_stageAt
set_option maxRecDepth 20000 in
theorem ggX1_sizeAtEnd_X0_sizeOf : GoodIn wsX1_sizeAtEnd wsX0_sizeOf := goodIn_r _ [13, 14, 15, 16, 17, 18, 48, 49, 50] (by decide +kernel) (by decide +kernel)
set_option maxRecDepth 20000 in
theorem gX1_sizeAtEnd_X0_sizeOf_u25X0 : GoodIn wsX1_sizeAtEnd (va_wsU RX1 25 RX0 "SoundingLine$Stage" ⟨"SoundingLine$Stage", "sizeOf", "(I)I"⟩ yX0_sizeOf wsX0_sizeOf) := goodIn_app (goodIn_of _ (by decide +kernel)) ggX1_sizeAtEnd_X0_sizeOf
set_option maxRecDepth 20000 in
theorem ggX1_sizeAtEnd_X2_sizeOf : GoodIn wsX1_sizeAtEnd wsX2_sizeOf := goodIn_r _ [22, 23, 24, 16, 17, 18, 51, 52, 53] (by decide +kernel) (by decide +kernel)
set_option maxRecDepth 20000 in
theorem gX1_sizeAtEnd_X2_sizeOf_u25X2 : GoodIn wsX1_sizeAtEnd (va_wsU RX1 25 RX2 "SoundingLine$Stage" ⟨"SoundingLine$Stage", "sizeOf", "(I)I"⟩ yX2_sizeOf wsX2_sizeOf) := goodIn_app (goodIn_of _ (by decide +kernel)) ggX1_sizeAtEnd_X2_sizeOf
set_option maxRecDepth 20000 in
theorem ggX1_sizeAtEnd_X6_sizeOf : GoodIn wsX1_sizeAtEnd wsX6_sizeOf := goodIn_r _ [28, 29, 54] (by decide +kernel) (by decide +kernel)
set_option maxRecDepth 20000 in
theorem gX1_sizeAtEnd_X6_sizeOf_u25X6 : GoodIn wsX1_sizeAtEnd (va_wsU RX1 25 RX6 "SoundingLine$Stage" ⟨"SoundingLine$Stage", "sizeOf", "(I)I"⟩ yX6_sizeOf wsX6_sizeOf) := goodIn_app (goodIn_of _ (by decide +kernel)) ggX1_sizeAtEnd_X6_sizeOf
set_option maxRecDepth 20000 in
theorem ggX1_sizeAtEnd_X9_sizeOf : GoodIn wsX1_sizeAtEnd wsX9_sizeOf := goodIn_r _ [33, 34, 35, 36, 37, 32, 38, 39, 55, 56, 57, 58] (by decide +kernel) (by decide +kernel)
set_option maxRecDepth 20000 in
theorem gX1_sizeAtEnd_X9_sizeOf_u25X9 : GoodIn wsX1_sizeAtEnd (va_wsU RX1 25 RX9 "SoundingLine$Stage" ⟨"SoundingLine$Stage", "sizeOf", "(I)I"⟩ yX9_sizeOf wsX9_sizeOf) := goodIn_app (goodIn_of _ (by decide +kernel)) ggX1_sizeAtEnd_X9_sizeOf
set_option maxRecDepth 20000 in
theorem ggX1_sizeAtEnd_X10_sizeOf : GoodIn wsX1_sizeAtEnd wsX10_sizeOf := goodIn_r _ [43, 44, 45, 16, 17, 18, 59, 60] (by decide +kernel) (by decide +kernel)
set_option maxRecDepth 20000 in
theorem gX1_sizeAtEnd_X10_sizeOf_u25X10 : GoodIn wsX1_sizeAtEnd (va_wsU RX1 25 RX10 "SoundingLine$Stage" ⟨"SoundingLine$Stage", "sizeOf", "(I)I"⟩ yX10_sizeOf wsX10_sizeOf) := goodIn_app (goodIn_of _ (by decide +kernel)) ggX1_sizeAtEnd_X10_sizeOf
set_option maxRecDepth 20000 in
theorem ggX1_code_X1_stageAt : GoodIn wsX1_code wsX1_stageAt := goodIn_r _ [6, 1, 7, 132, 133] (by decide +kernel) (by decide +kernel)
set_option maxRecDepth 20000 in
theorem gX1_code_X1_stageAt : GoodIn wsX1_code (wsV RX1 21 RX1 yX1_stageAt wsX1_stageAt) := goodIn_app (goodIn_of _ (by decide +kernel)) ggX1_code_X1_stageAt
set_option maxRecDepth 20000 in
theorem ggX1_code_X4_at : GoodIn wsX1_code wsX4_at := goodIn_r _ [12, 13, 14, 134, 135] (by decide +kernel) (by decide +kernel)
set_option maxRecDepth 20000 in
theorem gX1_code_X4_at : GoodIn wsX1_code (wsV RX1 29 RX4 yX4_at wsX4_at) := goodIn_app (goodIn_of _ (by decide +kernel)) ggX1_code_X4_at
set_option maxRecDepth 20000 in
theorem ggX1_code_X7_size : GoodIn wsX1_code wsX7_size := goodIn_r _ [19, 20, 136, 137] (by decide +kernel) (by decide +kernel)
set_option maxRecDepth 20000 in
theorem gX1_code_X7_size : GoodIn wsX1_code (wsV RX1 35 RX7 yX7_size wsX7_size) := goodIn_app (goodIn_of _ (by decide +kernel)) ggX1_code_X7_size
set_option maxRecDepth 20000 in
theorem ggX1_code_X0_sizeOf : GoodIn wsX1_code wsX0_sizeOf := goodIn_r _ [26, 27, 28, 29, 30, 31, 138, 139, 140] (by decide +kernel) (by decide +kernel)
set_option maxRecDepth 20000 in
theorem gX1_code_X0_sizeOf_u25X0 : GoodIn wsX1_code (va_wsU RX1 25 RX0 "SoundingLine$Stage" ⟨"SoundingLine$Stage", "sizeOf", "(I)I"⟩ yX0_sizeOf wsX0_sizeOf) := goodIn_app (goodIn_of _ (by decide +kernel)) ggX1_code_X0_sizeOf
set_option maxRecDepth 20000 in
theorem ggX1_code_X2_sizeOf : GoodIn wsX1_code wsX2_sizeOf := goodIn_r _ [35, 36, 37, 29, 30, 31, 141, 142, 143] (by decide +kernel) (by decide +kernel)
set_option maxRecDepth 20000 in
theorem gX1_code_X2_sizeOf_u25X2 : GoodIn wsX1_code (va_wsU RX1 25 RX2 "SoundingLine$Stage" ⟨"SoundingLine$Stage", "sizeOf", "(I)I"⟩ yX2_sizeOf wsX2_sizeOf) := goodIn_app (goodIn_of _ (by decide +kernel)) ggX1_code_X2_sizeOf
set_option maxRecDepth 20000 in
theorem ggX1_code_X6_sizeOf : GoodIn wsX1_code wsX6_sizeOf := goodIn_r _ [41, 42, 144] (by decide +kernel) (by decide +kernel)
set_option maxRecDepth 20000 in
theorem gX1_code_X6_sizeOf_u25X6 : GoodIn wsX1_code (va_wsU RX1 25 RX6 "SoundingLine$Stage" ⟨"SoundingLine$Stage", "sizeOf", "(I)I"⟩ yX6_sizeOf wsX6_sizeOf) := goodIn_app (goodIn_of _ (by decide +kernel)) ggX1_code_X6_sizeOf
set_option maxRecDepth 20000 in
theorem ggX1_code_X9_sizeOf : GoodIn wsX1_code wsX9_sizeOf := goodIn_r _ [46, 47, 48, 49, 50, 45, 51, 52, 145, 146, 147, 148] (by decide +kernel) (by decide +kernel)
set_option maxRecDepth 20000 in
theorem gX1_code_X9_sizeOf_u25X9 : GoodIn wsX1_code (va_wsU RX1 25 RX9 "SoundingLine$Stage" ⟨"SoundingLine$Stage", "sizeOf", "(I)I"⟩ yX9_sizeOf wsX9_sizeOf) := goodIn_app (goodIn_of _ (by decide +kernel)) ggX1_code_X9_sizeOf
set_option maxRecDepth 20000 in
theorem ggX1_code_X10_sizeOf : GoodIn wsX1_code wsX10_sizeOf := goodIn_r _ [56, 57, 58, 29, 30, 31, 149, 150] (by decide +kernel) (by decide +kernel)
set_option maxRecDepth 20000 in
theorem gX1_code_X10_sizeOf_u25X10 : GoodIn wsX1_code (va_wsU RX1 25 RX10 "SoundingLine$Stage" ⟨"SoundingLine$Stage", "sizeOf", "(I)I"⟩ yX10_sizeOf wsX10_sizeOf) := goodIn_app (goodIn_of _ (by decide +kernel)) ggX1_code_X10_sizeOf
set_option maxRecDepth 20000 in
theorem ggX1_code_X7_resize : GoodIn wsX1_code wsX7_resize := goodIn_r _ [62, 63, 64, 65, 66, 67, 68, 69, 70, 20, 136, 137] (by decide +kernel) (by decide +kernel)
set_option maxRecDepth 20000 in
theorem gX1_code_X7_resize : GoodIn wsX1_code (wsV RX1 41 RX7 yX7_resize wsX7_resize) := goodIn_app (goodIn_of _ (by decide +kernel)) ggX1_code_X7_resize
set_option maxRecDepth 20000 in
theorem ggX1_code_X0_code : GoodIn wsX1_code wsX0_code := goodIn_r _ [75, 27, 28, 76, 77, 16, 17, 18, 19, 20, 29, 30, 31, 78, 79, 80, 81, 82, 83, 84, 85, 63, 86, 87, 88, 89, 90, 91, 92, 93, 94, 95, 138, 139, 140, 136, 137] (by decide +kernel) (by decide +kernel)
set_option maxRecDepth 20000 in
theorem gX1_code_X0_code_u45X0 : GoodIn wsX1_code (va_wsU RX1 45 RX0 "SoundingLine$Stage" ⟨"SoundingLine$Stage", "code", "(LSoundingLine$Row;LSoundingLine$Row;)V"⟩ yX0_code wsX0_code) := goodIn_app (goodIn_of _ (by decide +kernel)) ggX1_code_X0_code
set_option maxRecDepth 20000 in
theorem ggX1_code_X2_code : GoodIn wsX1_code wsX2_code := goodIn_r _ [98, 36, 37, 99, 16, 17, 18, 19, 20, 29, 30, 31, 100, 79, 80, 81, 82, 83, 84, 85, 63, 101, 93, 94, 95, 102, 103, 104, 34, 105, 106, 107, 108, 89, 90, 91, 92, 141, 142, 143, 136, 137] (by decide +kernel) (by decide +kernel)
set_option maxRecDepth 20000 in
theorem gX1_code_X2_code_u45X2 : GoodIn wsX1_code (va_wsU RX1 45 RX2 "SoundingLine$Stage" ⟨"SoundingLine$Stage", "code", "(LSoundingLine$Row;LSoundingLine$Row;)V"⟩ yX2_code wsX2_code) := goodIn_app (goodIn_of _ (by decide +kernel)) ggX1_code_X2_code
set_option maxRecDepth 20000 in
theorem ggX1_code_X6_code : GoodIn wsX1_code wsX6_code := goodIn_r _ [111, 42, 112, 16, 17, 18, 19, 20, 113, 79, 80, 81, 82, 83, 84, 85, 63, 114, 93, 94, 95, 144, 136, 137] (by decide +kernel) (by decide +kernel)
set_option maxRecDepth 20000 in
theorem gX1_code_X6_code_u45X6 : GoodIn wsX1_code (va_wsU RX1 45 RX6 "SoundingLine$Stage" ⟨"SoundingLine$Stage", "code", "(LSoundingLine$Row;LSoundingLine$Row;)V"⟩ yX6_code wsX6_code) := goodIn_app (goodIn_of _ (by decide +kernel)) ggX1_code_X6_code
set_option maxRecDepth 20000 in
theorem ggX1_code_X9_code : GoodIn wsX1_code wsX9_code := goodIn_r _ [117, 52, 47, 118, 119, 16, 17, 18, 19, 20, 48, 49, 50, 45, 51, 120, 79, 80, 81, 82, 83, 84, 85, 63, 86, 30, 87, 121, 89, 90, 91, 92, 93, 94, 95, 145, 146, 147, 148, 136, 137] (by decide +kernel) (by decide +kernel)
set_option maxRecDepth 20000 in
theorem gX1_code_X9_code_u45X9 : GoodIn wsX1_code (va_wsU RX1 45 RX9 "SoundingLine$Stage" ⟨"SoundingLine$Stage", "code", "(LSoundingLine$Row;LSoundingLine$Row;)V"⟩ yX9_code wsX9_code) := goodIn_app (goodIn_of _ (by decide +kernel)) ggX1_code_X9_code
set_option maxRecDepth 20000 in
theorem ggX1_code_X10_code : GoodIn wsX1_code wsX10_code := goodIn_r _ [124, 125, 16, 17, 18, 19, 20, 126, 127, 128, 55, 129, 57, 58, 130, 79, 80, 81, 82, 83, 84, 85, 63, 131, 93, 94, 95, 136, 137, 149, 150] (by decide +kernel) (by decide +kernel)
set_option maxRecDepth 20000 in
theorem gX1_code_X10_code_u45X10 : GoodIn wsX1_code (va_wsU RX1 45 RX10 "SoundingLine$Stage" ⟨"SoundingLine$Stage", "code", "(LSoundingLine$Row;LSoundingLine$Row;)V"⟩ yX10_code wsX10_code) := goodIn_app (goodIn_of _ (by decide +kernel)) ggX1_code_X10_code
set_option maxRecDepth 20000 in
theorem ggX1_decode_X1_stageAt : GoodIn wsX1_decode wsX1_stageAt := goodIn_r _ [6, 1, 7, 176, 177] (by decide +kernel) (by decide +kernel)
set_option maxRecDepth 20000 in
theorem gX1_decode_X1_stageAt : GoodIn wsX1_decode (wsV RX1 21 RX1 yX1_stageAt wsX1_stageAt) := goodIn_app (goodIn_of _ (by decide +kernel)) ggX1_decode_X1_stageAt
set_option maxRecDepth 20000 in
theorem ggX1_decode_X4_at : GoodIn wsX1_decode wsX4_at := goodIn_r _ [12, 13, 14, 178, 179] (by decide +kernel) (by decide +kernel)
set_option maxRecDepth 20000 in
theorem gX1_decode_X4_at : GoodIn wsX1_decode (wsV RX1 29 RX4 yX4_at wsX4_at) := goodIn_app (goodIn_of _ (by decide +kernel)) ggX1_decode_X4_at
set_option maxRecDepth 20000 in
theorem ggX1_decode_X7_size : GoodIn wsX1_decode wsX7_size := goodIn_r _ [19, 20, 180, 181] (by decide +kernel) (by decide +kernel)
set_option maxRecDepth 20000 in
theorem gX1_decode_X7_size : GoodIn wsX1_decode (wsV RX1 35 RX7 yX7_size wsX7_size) := goodIn_app (goodIn_of _ (by decide +kernel)) ggX1_decode_X7_size
set_option maxRecDepth 20000 in
theorem ggX1_decode_X7_resize : GoodIn wsX1_decode wsX7_resize := goodIn_r _ [24, 25, 26, 27, 28, 29, 30, 31, 32, 20, 180, 181] (by decide +kernel) (by decide +kernel)
set_option maxRecDepth 20000 in
theorem gX1_decode_X7_resize : GoodIn wsX1_decode (wsV RX1 41 RX7 yX7_resize wsX7_resize) := goodIn_app (goodIn_of _ (by decide +kernel)) ggX1_decode_X7_resize
set_option maxRecDepth 20000 in
theorem ggX1_decode_X0_decode : GoodIn wsX1_decode wsX0_decode := goodIn_r _ [38, 39, 40, 41, 16, 17, 18, 19, 20, 42, 43, 44, 45, 46, 47, 48, 49, 50, 51, 52, 25, 53, 54, 55, 56, 57, 58, 59, 37, 60, 61, 62, 63, 64, 65, 66, 67, 27, 28, 29, 68, 69, 70, 71, 72, 73, 74, 75, 76, 77, 78, 79, 80, 81, 82, 83, 84, 182, 183, 184, 180, 181] (by decide +kernel) (by decide +kernel)
set_option maxRecDepth 20000 in
theorem gX1_decode_X0_decode_u49X0 : GoodIn wsX1_decode (va_wsU RX1 49 RX0 "SoundingLine$Stage" ⟨"SoundingLine$Stage", "decode", "(LSoundingLine$Row;LSoundingLine$Row;)V"⟩ yX0_decode wsX0_decode) := goodIn_app (goodIn_of _ (by decide +kernel)) ggX1_decode_X0_decode
set_option maxRecDepth 20000 in
theorem ggX1_decode_X2_decode : GoodIn wsX1_decode wsX2_decode := goodIn_r _ [88, 89, 90, 91, 16, 17, 18, 19, 20, 42, 43, 44, 92, 50, 51, 52, 25, 93, 82, 83, 84, 185, 186, 187, 180, 181] (by decide +kernel) (by decide +kernel)
set_option maxRecDepth 20000 in
theorem gX1_decode_X2_decode_u49X2 : GoodIn wsX1_decode (va_wsU RX1 49 RX2 "SoundingLine$Stage" ⟨"SoundingLine$Stage", "decode", "(LSoundingLine$Row;LSoundingLine$Row;)V"⟩ yX2_decode wsX2_decode) := goodIn_app (goodIn_of _ (by decide +kernel)) ggX1_decode_X2_decode
set_option maxRecDepth 20000 in
theorem ggX1_decode_X6_decode : GoodIn wsX1_decode wsX6_decode := goodIn_r _ [97, 98, 99, 16, 17, 18, 19, 20, 100, 46, 47, 48, 49, 50, 51, 52, 25, 101, 71, 72, 73, 74, 75, 76, 102, 54, 55, 56, 103, 82, 83, 84, 188, 180, 181] (by decide +kernel) (by decide +kernel)
set_option maxRecDepth 20000 in
theorem gX1_decode_X6_decode_u49X6 : GoodIn wsX1_decode (va_wsU RX1 49 RX6 "SoundingLine$Stage" ⟨"SoundingLine$Stage", "decode", "(LSoundingLine$Row;LSoundingLine$Row;)V"⟩ yX6_decode wsX6_decode) := goodIn_app (goodIn_of _ (by decide +kernel)) ggX1_decode_X6_decode
set_option maxRecDepth 20000 in
theorem ggX1_decode_X9_decode : GoodIn wsX1_decode wsX9_decode := goodIn_r _ [107, 108, 109, 110, 111, 16, 17, 18, 19, 20, 112, 113, 114, 106, 115, 116, 117, 118, 119, 120, 121, 122, 123, 46, 47, 48, 49, 50, 51, 52, 25, 124, 54, 55, 56, 125, 126, 127, 128, 129, 27, 28, 29, 130, 131, 132, 133, 134, 135, 136, 137, 138, 139, 140, 141, 142, 143, 144, 145, 146, 68, 43, 69, 147, 71, 72, 73, 74, 75, 76, 148, 149, 150, 151, 152, 153, 154, 155, 156, 157, 158, 82, 83, 84, 159, 160, 161, 162, 189, 190, 191, 192, 180, 181, 193, 194, 195] (by decide +kernel) (by decide +kernel)
set_option maxRecDepth 20000 in
theorem gX1_decode_X9_decode_u49X9 : GoodIn wsX1_decode (va_wsU RX1 49 RX9 "SoundingLine$Stage" ⟨"SoundingLine$Stage", "decode", "(LSoundingLine$Row;LSoundingLine$Row;)V"⟩ yX9_decode wsX9_decode) := goodIn_app (goodIn_of _ (by decide +kernel)) ggX1_decode_X9_decode
set_option maxRecDepth 20000 in
theorem ggX1_decode_X10_decode : GoodIn wsX1_decode wsX10_decode := goodIn_r _ [166, 167, 16, 17, 18, 19, 20, 168, 169, 170, 165, 171, 172, 173, 174, 50, 51, 52, 25, 175, 82, 83, 84, 180, 181, 196, 197] (by decide +kernel) (by decide +kernel)
set_option maxRecDepth 20000 in
theorem gX1_decode_X10_decode_u49X10 : GoodIn wsX1_decode (va_wsU RX1 49 RX10 "SoundingLine$Stage" ⟨"SoundingLine$Stage", "decode", "(LSoundingLine$Row;LSoundingLine$Row;)V"⟩ yX10_decode wsX10_decode) := goodIn_app (goodIn_of _ (by decide +kernel)) ggX1_decode_X10_decode
theorem dX1_init_0 : decode cX1_init 0 = .ok (.aload_n 0, 1) := by decide +kernel
theorem dX1_init_1 : decode cX1_init 1 = .ok (.invokespecial 3, 3) := by decide +kernel
theorem dX1_init_4 : decode cX1_init 4 = .ok (.aload_n 0, 1) := by decide +kernel
theorem dX1_init_5 : decode cX1_init 5 = .ok (.iconst 4, 1) := by decide +kernel
theorem dX1_init_6 : decode cX1_init 6 = .ok (.anewarray 9, 3) := by decide +kernel
theorem dX1_init_9 : decode cX1_init 9 = .ok (.putfield 11, 3) := by decide +kernel
theorem dX1_init_12 : decode cX1_init 12 = .ok (.aload_n 0, 1) := by decide +kernel
theorem dX1_init_13 : decode cX1_init 13 = .ok (.iconst 0, 1) := by decide +kernel
theorem dX1_init_14 : decode cX1_init 14 = .ok (.putfield 17, 3) := by decide +kernel
theorem dX1_init_17 : decode cX1_init 17 = .ok (.return_, 1) := by decide +kernel
theorem dX1_count_0 : decode cX1_count 0 = .ok (.aload_n 0, 1) := by decide +kernel
theorem dX1_count_1 : decode cX1_count 1 = .ok (.getfield 17, 3) := by decide +kernel
theorem dX1_count_4 : decode cX1_count 4 = .ok (.ireturn, 1) := by decide +kernel
theorem dX1_stageAt_0 : decode cX1_stageAt 0 = .ok (.iload_n 1, 1) := by decide +kernel
theorem dX1_stageAt_1 : decode cX1_stageAt 1 = .ok (.ifCond .lt 20, 3) := by decide +kernel
theorem dX1_stageAt_4 : decode cX1_stageAt 4 = .ok (.iload_n 1, 1) := by decide +kernel
theorem dX1_stageAt_5 : decode cX1_stageAt 5 = .ok (.aload_n 0, 1) := by decide +kernel
theorem dX1_stageAt_6 : decode cX1_stageAt 6 = .ok (.getfield 17, 3) := by decide +kernel
theorem dX1_stageAt_9 : decode cX1_stageAt 9 = .ok (.if_icmp .ge 12, 3) := by decide +kernel
theorem dX1_stageAt_12 : decode cX1_stageAt 12 = .ok (.iload_n 1, 1) := by decide +kernel
theorem dX1_stageAt_13 : decode cX1_stageAt 13 = .ok (.aload_n 0, 1) := by decide +kernel
theorem dX1_stageAt_14 : decode cX1_stageAt 14 = .ok (.getfield 11, 3) := by decide +kernel
theorem dX1_stageAt_17 : decode cX1_stageAt 17 = .ok (.arraylength, 1) := by decide +kernel
theorem dX1_stageAt_18 : decode cX1_stageAt 18 = .ok (.if_icmp .lt 7, 3) := by decide +kernel
theorem dX1_stageAt_21 : decode cX1_stageAt 21 = .ok (.aconst_null, 1) := by decide +kernel
theorem dX1_stageAt_22 : decode cX1_stageAt 22 = .ok (.goto 9, 3) := by decide +kernel
theorem dX1_stageAt_25 : decode cX1_stageAt 25 = .ok (.aload_n 0, 1) := by decide +kernel
theorem dX1_stageAt_26 : decode cX1_stageAt 26 = .ok (.getfield 11, 3) := by decide +kernel
theorem dX1_stageAt_29 : decode cX1_stageAt 29 = .ok (.iload_n 1, 1) := by decide +kernel
theorem dX1_stageAt_30 : decode cX1_stageAt 30 = .ok (.aaload, 1) := by decide +kernel
theorem dX1_stageAt_31 : decode cX1_stageAt 31 = .ok (.areturn, 1) := by decide +kernel
theorem dX1_append_0 : decode cX1_append 0 = .ok (.aload_n 0, 1) := by decide +kernel
theorem dX1_append_1 : decode cX1_append 1 = .ok (.getfield 17, 3) := by decide +kernel
theorem dX1_append_4 : decode cX1_append 4 = .ok (.ifCond .lt 35, 3) := by decide +kernel
theorem dX1_append_7 : decode cX1_append 7 = .ok (.aload_n 0, 1) := by decide +kernel
theorem dX1_append_8 : decode cX1_append 8 = .ok (.getfield 17, 3) := by decide +kernel
theorem dX1_append_11 : decode cX1_append 11 = .ok (.aload_n 0, 1) := by decide +kernel
theorem dX1_append_12 : decode cX1_append 12 = .ok (.getfield 11, 3) := by decide +kernel
theorem dX1_append_15 : decode cX1_append 15 = .ok (.arraylength, 1) := by decide +kernel
theorem dX1_append_16 : decode cX1_append 16 = .ok (.if_icmp .ge 23, 3) := by decide +kernel
theorem dX1_append_19 : decode cX1_append 19 = .ok (.aload_n 0, 1) := by decide +kernel
theorem dX1_append_20 : decode cX1_append 20 = .ok (.getfield 11, 3) := by decide +kernel
theorem dX1_append_23 : decode cX1_append 23 = .ok (.aload_n 0, 1) := by decide +kernel
theorem dX1_append_24 : decode cX1_append 24 = .ok (.getfield 17, 3) := by decide +kernel
theorem dX1_append_27 : decode cX1_append 27 = .ok (.aload_n 1, 1) := by decide +kernel
theorem dX1_append_28 : decode cX1_append 28 = .ok (.aastore, 1) := by decide +kernel
theorem dX1_append_29 : decode cX1_append 29 = .ok (.aload_n 0, 1) := by decide +kernel
theorem dX1_append_30 : decode cX1_append 30 = .ok (.dup, 1) := by decide +kernel
theorem dX1_append_31 : decode cX1_append 31 = .ok (.getfield 17, 3) := by decide +kernel
theorem dX1_append_34 : decode cX1_append 34 = .ok (.iconst 1, 1) := by decide +kernel
theorem dX1_append_35 : decode cX1_append 35 = .ok (.iadd, 1) := by decide +kernel
theorem dX1_append_36 : decode cX1_append 36 = .ok (.putfield 17, 3) := by decide +kernel
theorem dX1_append_39 : decode cX1_append 39 = .ok (.return_, 1) := by decide +kernel
theorem dX1_removeLast_0 : decode cX1_removeLast 0 = .ok (.aload_n 0, 1) := by decide +kernel
theorem dX1_removeLast_1 : decode cX1_removeLast 1 = .ok (.getfield 17, 3) := by decide +kernel
theorem dX1_removeLast_4 : decode cX1_removeLast 4 = .ok (.ifCond .le 35, 3) := by decide +kernel
theorem dX1_removeLast_7 : decode cX1_removeLast 7 = .ok (.aload_n 0, 1) := by decide +kernel
theorem dX1_removeLast_8 : decode cX1_removeLast 8 = .ok (.getfield 17, 3) := by decide +kernel
theorem dX1_removeLast_11 : decode cX1_removeLast 11 = .ok (.aload_n 0, 1) := by decide +kernel
theorem dX1_removeLast_12 : decode cX1_removeLast 12 = .ok (.getfield 11, 3) := by decide +kernel
theorem dX1_removeLast_15 : decode cX1_removeLast 15 = .ok (.arraylength, 1) := by decide +kernel
theorem dX1_removeLast_16 : decode cX1_removeLast 16 = .ok (.if_icmp .gt 23, 3) := by decide +kernel
theorem dX1_removeLast_19 : decode cX1_removeLast 19 = .ok (.aload_n 0, 1) := by decide +kernel
theorem dX1_removeLast_20 : decode cX1_removeLast 20 = .ok (.dup, 1) := by decide +kernel
theorem dX1_removeLast_21 : decode cX1_removeLast 21 = .ok (.getfield 17, 3) := by decide +kernel
theorem dX1_removeLast_24 : decode cX1_removeLast 24 = .ok (.iconst 1, 1) := by decide +kernel
theorem dX1_removeLast_25 : decode cX1_removeLast 25 = .ok (.isub, 1) := by decide +kernel
theorem dX1_removeLast_26 : decode cX1_removeLast 26 = .ok (.putfield 17, 3) := by decide +kernel
theorem dX1_removeLast_29 : decode cX1_removeLast 29 = .ok (.aload_n 0, 1) := by decide +kernel
theorem dX1_removeLast_30 : decode cX1_removeLast 30 = .ok (.getfield 11, 3) := by decide +kernel
theorem dX1_removeLast_33 : decode cX1_removeLast 33 = .ok (.aload_n 0, 1) := by decide +kernel
theorem dX1_removeLast_34 : decode cX1_removeLast 34 = .ok (.getfield 17, 3) := by decide +kernel
theorem dX1_removeLast_37 : decode cX1_removeLast 37 = .ok (.aconst_null, 1) := by decide +kernel
theorem dX1_removeLast_38 : decode cX1_removeLast 38 = .ok (.aastore, 1) := by decide +kernel
theorem dX1_removeLast_39 : decode cX1_removeLast 39 = .ok (.return_, 1) := by decide +kernel
theorem dX1_sizeAtEnd_0 : decode cX1_sizeAtEnd 0 = .ok (.iload_n 1, 1) := by decide +kernel
theorem dX1_sizeAtEnd_1 : decode cX1_sizeAtEnd 1 = .ok (.istore_n 2, 1) := by decide +kernel
theorem dX1_sizeAtEnd_2 : decode cX1_sizeAtEnd 2 = .ok (.iconst 0, 1) := by decide +kernel
theorem dX1_sizeAtEnd_3 : decode cX1_sizeAtEnd 3 = .ok (.istore_n 3, 1) := by decide +kernel
theorem dX1_sizeAtEnd_4 : decode cX1_sizeAtEnd 4 = .ok (.iload_n 3, 1) := by decide +kernel
theorem dX1_sizeAtEnd_5 : decode cX1_sizeAtEnd 5 = .ok (.aload_n 0, 1) := by decide +kernel
theorem dX1_sizeAtEnd_6 : decode cX1_sizeAtEnd 6 = .ok (.getfield 17, 3) := by decide +kernel
theorem dX1_sizeAtEnd_9 : decode cX1_sizeAtEnd 9 = .ok (.if_icmp .ge 28, 3) := by decide +kernel
theorem dX1_sizeAtEnd_12 : decode cX1_sizeAtEnd 12 = .ok (.aload_n 0, 1) := by decide +kernel
theorem dX1_sizeAtEnd_13 : decode cX1_sizeAtEnd 13 = .ok (.iload_n 3, 1) := by decide +kernel
theorem dX1_sizeAtEnd_14 : decode cX1_sizeAtEnd 14 = .ok (.invokevirtual 21, 3) := by decide +kernel
theorem dX1_sizeAtEnd_17 : decode cX1_sizeAtEnd 17 = .ok (.astore 4, 2) := by decide +kernel
theorem dX1_sizeAtEnd_19 : decode cX1_sizeAtEnd 19 = .ok (.aload 4, 2) := by decide +kernel
theorem dX1_sizeAtEnd_21 : decode cX1_sizeAtEnd 21 = .ok (.ifnull 10, 3) := by decide +kernel
theorem dX1_sizeAtEnd_24 : decode cX1_sizeAtEnd 24 = .ok (.aload 4, 2) := by decide +kernel
theorem dX1_sizeAtEnd_26 : decode cX1_sizeAtEnd 26 = .ok (.iload_n 2, 1) := by decide +kernel
theorem dX1_sizeAtEnd_27 : decode cX1_sizeAtEnd 27 = .ok (.invokevirtual 25, 3) := by decide +kernel
theorem dX1_sizeAtEnd_30 : decode cX1_sizeAtEnd 30 = .ok (.istore_n 2, 1) := by decide +kernel
theorem dX1_sizeAtEnd_31 : decode cX1_sizeAtEnd 31 = .ok (.iinc 3 1, 3) := by decide +kernel
theorem dX1_sizeAtEnd_34 : decode cX1_sizeAtEnd 34 = .ok (.goto (-30), 3) := by decide +kernel
theorem dX1_sizeAtEnd_37 : decode cX1_sizeAtEnd 37 = .ok (.iload_n 2, 1) := by decide +kernel
theorem dX1_sizeAtEnd_38 : decode cX1_sizeAtEnd 38 = .ok (.ireturn, 1) := by decide +kernel
theorem dX1_code_0 : decode cX1_code 0 = .ok (.iconst 0, 1) := by decide +kernel
theorem dX1_code_1 : decode cX1_code 1 = .ok (.istore_n 2, 1) := by decide +kernel
theorem dX1_code_2 : decode cX1_code 2 = .ok (.iload_n 2, 1) := by decide +kernel
theorem dX1_code_3 : decode cX1_code 3 = .ok (.aload_n 0, 1) := by decide +kernel
theorem dX1_code_4 : decode cX1_code 4 = .ok (.getfield 17, 3) := by decide +kernel
theorem dX1_code_7 : decode cX1_code 7 = .ok (.if_icmp .ge 57, 3) := by decide +kernel
theorem dX1_code_10 : decode cX1_code 10 = .ok (.aload_n 0, 1) := by decide +kernel
theorem dX1_code_11 : decode cX1_code 11 = .ok (.iload_n 2, 1) := by decide +kernel
theorem dX1_code_12 : decode cX1_code 12 = .ok (.invokevirtual 21, 3) := by decide +kernel
theorem dX1_code_15 : decode cX1_code 15 = .ok (.astore_n 3, 1) := by decide +kernel
theorem dX1_code_16 : decode cX1_code 16 = .ok (.aload_n 3, 1) := by decide +kernel
theorem dX1_code_17 : decode cX1_code 17 = .ok (.ifnull 41, 3) := by decide +kernel
theorem dX1_code_20 : decode cX1_code 20 = .ok (.aload_n 1, 1) := by decide +kernel
theorem dX1_code_21 : decode cX1_code 21 = .ok (.iload_n 2, 1) := by decide +kernel
theorem dX1_code_22 : decode cX1_code 22 = .ok (.invokevirtual 29, 3) := by decide +kernel
theorem dX1_code_25 : decode cX1_code 25 = .ok (.astore 4, 2) := by decide +kernel
theorem dX1_code_27 : decode cX1_code 27 = .ok (.aload_n 1, 1) := by decide +kernel
theorem dX1_code_28 : decode cX1_code 28 = .ok (.iload_n 2, 1) := by decide +kernel
theorem dX1_code_29 : decode cX1_code 29 = .ok (.iconst 1, 1) := by decide +kernel
theorem dX1_code_30 : decode cX1_code 30 = .ok (.iadd, 1) := by decide +kernel
theorem dX1_code_31 : decode cX1_code 31 = .ok (.invokevirtual 29, 3) := by decide +kernel
theorem dX1_code_34 : decode cX1_code 34 = .ok (.astore 5, 2) := by decide +kernel
theorem dX1_code_36 : decode cX1_code 36 = .ok (.aload 5, 2) := by decide +kernel
theorem dX1_code_38 : decode cX1_code 38 = .ok (.aload_n 3, 1) := by decide +kernel
theorem dX1_code_39 : decode cX1_code 39 = .ok (.aload 4, 2) := by decide +kernel
theorem dX1_code_41 : decode cX1_code 41 = .ok (.invokevirtual 35, 3) := by decide +kernel
theorem dX1_code_44 : decode cX1_code 44 = .ok (.invokevirtual 25, 3) := by decide +kernel
theorem dX1_code_47 : decode cX1_code 47 = .ok (.invokevirtual 41, 3) := by decide +kernel
theorem dX1_code_50 : decode cX1_code 50 = .ok (.aload_n 3, 1) := by decide +kernel
theorem dX1_code_51 : decode cX1_code 51 = .ok (.aload 4, 2) := by decide +kernel
theorem dX1_code_53 : decode cX1_code 53 = .ok (.aload 5, 2) := by decide +kernel
theorem dX1_code_55 : decode cX1_code 55 = .ok (.invokevirtual 45, 3) := by decide +kernel
theorem dX1_code_58 : decode cX1_code 58 = .ok (.iinc 2 1, 3) := by decide +kernel
theorem dX1_code_61 : decode cX1_code 61 = .ok (.goto (-59), 3) := by decide +kernel
theorem dX1_code_64 : decode cX1_code 64 = .ok (.return_, 1) := by decide +kernel
theorem dX1_decode_0 : decode cX1_decode 0 = .ok (.aload_n 0, 1) := by decide +kernel
theorem dX1_decode_1 : decode cX1_decode 1 = .ok (.getfield 17, 3) := by decide +kernel
theorem dX1_decode_4 : decode cX1_decode 4 = .ok (.iconst 1, 1) := by decide +kernel
theorem dX1_decode_5 : decode cX1_decode 5 = .ok (.isub, 1) := by decide +kernel
theorem dX1_decode_6 : decode cX1_decode 6 = .ok (.istore_n 3, 1) := by decide +kernel
theorem dX1_decode_7 : decode cX1_decode 7 = .ok (.iload_n 3, 1) := by decide +kernel
theorem dX1_decode_8 : decode cX1_decode 8 = .ok (.ifCond .lt 55, 3) := by decide +kernel
theorem dX1_decode_11 : decode cX1_decode 11 = .ok (.aload_n 0, 1) := by decide +kernel
theorem dX1_decode_12 : decode cX1_decode 12 = .ok (.iload_n 3, 1) := by decide +kernel
theorem dX1_decode_13 : decode cX1_decode 13 = .ok (.invokevirtual 21, 3) := by decide +kernel
theorem dX1_decode_16 : decode cX1_decode 16 = .ok (.astore 4, 2) := by decide +kernel
theorem dX1_decode_18 : decode cX1_decode 18 = .ok (.aload 4, 2) := by decide +kernel
theorem dX1_decode_20 : decode cX1_decode 20 = .ok (.ifnull 37, 3) := by decide +kernel
theorem dX1_decode_23 : decode cX1_decode 23 = .ok (.aload_n 1, 1) := by decide +kernel
theorem dX1_decode_24 : decode cX1_decode 24 = .ok (.iload_n 3, 1) := by decide +kernel
theorem dX1_decode_25 : decode cX1_decode 25 = .ok (.invokevirtual 29, 3) := by decide +kernel
theorem dX1_decode_28 : decode cX1_decode 28 = .ok (.astore 5, 2) := by decide +kernel
theorem dX1_decode_30 : decode cX1_decode 30 = .ok (.aload 5, 2) := by decide +kernel
theorem dX1_decode_32 : decode cX1_decode 32 = .ok (.aload_n 2, 1) := by decide +kernel
theorem dX1_decode_33 : decode cX1_decode 33 = .ok (.iload_n 3, 1) := by decide +kernel
theorem dX1_decode_34 : decode cX1_decode 34 = .ok (.invokevirtual 29, 3) := by decide +kernel
theorem dX1_decode_37 : decode cX1_decode 37 = .ok (.invokevirtual 35, 3) := by decide +kernel
theorem dX1_decode_40 : decode cX1_decode 40 = .ok (.invokevirtual 41, 3) := by decide +kernel
theorem dX1_decode_43 : decode cX1_decode 43 = .ok (.aload 4, 2) := by decide +kernel
theorem dX1_decode_45 : decode cX1_decode 45 = .ok (.aload_n 1, 1) := by decide +kernel
theorem dX1_decode_46 : decode cX1_decode 46 = .ok (.iload_n 3, 1) := by decide +kernel
theorem dX1_decode_47 : decode cX1_decode 47 = .ok (.iconst 1, 1) := by decide +kernel
theorem dX1_decode_48 : decode cX1_decode 48 = .ok (.iadd, 1) := by decide +kernel
theorem dX1_decode_49 : decode cX1_decode 49 = .ok (.invokevirtual 29, 3) := by decide +kernel
theorem dX1_decode_52 : decode cX1_decode 52 = .ok (.aload 5, 2) := by decide +kernel
theorem dX1_decode_54 : decode cX1_decode 54 = .ok (.invokevirtual 49, 3) := by decide +kernel
theorem dX1_decode_57 : decode cX1_decode 57 = .ok (.iinc 3 (-1), 3) := by decide +kernel
theorem dX1_decode_60 : decode cX1_decode 60 = .ok (.goto (-53), 3) := by decide +kernel
theorem dX1_decode_63 : decode cX1_decode 63 = .ok (.return_, 1) := by decide +kernel
set_option maxRecDepth 20000 in
theorem ggX2_init_X8_init : GoodIn wsX2_init wsX8_init := goodIn_r _ [6, 7, 8, 9] (by decide +kernel) (by decide +kernel)
set_option maxRecDepth 20000 in
theorem gX2_init_X8_init_n3 : GoodIn wsX2_init (wsX8_init) := ggX2_init_X8_init
set_option maxRecDepth 20000 in
theorem ggX2_init_X2_degreeOf : GoodIn wsX2_init wsX2_degreeOf := goodIn_r _ [13] (by decide +kernel) (by decide +kernel)
set_option maxRecDepth 20000 in
theorem gX2_init_X2_degreeOf : GoodIn wsX2_init (va_wsS RX2 18 yX2_degreeOf wsX2_degreeOf) := goodIn_app (goodIn_of _ (by decide +kernel)) ggX2_init_X2_degreeOf
set_option maxRecDepth 20000 in
theorem ggX2_sizeOf_X11_blocksOf : GoodIn wsX2_sizeOf wsX11_blocksOf := goodIn_r _ [5] (by decide +kernel) (by decide +kernel)
set_option maxRecDepth 20000 in
theorem gX2_sizeOf_X11_blocksOf_n25 : GoodIn wsX2_sizeOf (wsX11_blocksOf) := ggX2_sizeOf_X11_blocksOf
set_option maxRecDepth 20000 in
theorem ggX2_restOf_X7_get : GoodIn wsX2_restOf wsX7_get := goodIn_r _ [8, 9, 10, 14, 15] (by decide +kernel) (by decide +kernel)
set_option maxRecDepth 20000 in
theorem gX2_restOf_X7_get : GoodIn wsX2_restOf (wsV RX2 29 RX7 yX7_get wsX7_get) := goodIn_app (goodIn_of _ (by decide +kernel)) ggX2_restOf_X7_get
set_option maxRecDepth 20000 in
theorem ggX2_code_X7_size : GoodIn wsX2_code wsX7_size := goodIn_r _ [7, 8, 40, 41] (by decide +kernel) (by decide +kernel)
set_option maxRecDepth 20000 in
theorem gX2_code_X7_size : GoodIn wsX2_code (wsV RX2 34 RX7 yX7_size wsX7_size) := goodIn_app (goodIn_of _ (by decide +kernel)) ggX2_code_X7_size
set_option maxRecDepth 20000 in
theorem ggX2_code_X11_blocksOf : GoodIn wsX2_code wsX11_blocksOf := goodIn_r _ [11] (by decide +kernel) (by decide +kernel)
set_option maxRecDepth 20000 in
theorem gX2_code_X11_blocksOf_n25 : GoodIn wsX2_code (wsX11_blocksOf) := ggX2_code_X11_blocksOf
set_option maxRecDepth 20000 in
theorem ggX2_code_X7_numberAt : GoodIn wsX2_code wsX7_numberAt := goodIn_r _ [15, 16, 17, 18, 6, 19, 8, 20, 40, 41] (by decide +kernel) (by decide +kernel)
set_option maxRecDepth 20000 in
theorem gX2_code_X7_numberAt : GoodIn wsX2_code (wsV RX2 38 RX7 yX7_numberAt wsX7_numberAt) := goodIn_app (goodIn_of _ (by decide +kernel)) ggX2_code_X7_numberAt
set_option maxRecDepth 20000 in
theorem ggX2_code_X7_put : GoodIn wsX2_code wsX7_put := goodIn_r _ [24, 8, 20, 40, 41] (by decide +kernel) (by decide +kernel)
set_option maxRecDepth 20000 in
theorem gX2_code_X7_put : GoodIn wsX2_code (wsV RX2 41 RX7 yX7_put wsX7_put) := goodIn_app (goodIn_of _ (by decide +kernel)) ggX2_code_X7_put
set_option maxRecDepth 20000 in
theorem ggX2_code_X2_restOf : GoodIn wsX2_code wsX2_restOf := goodIn_r _ [29, 2, 1, 30, 31, 17, 18, 6, 19, 8, 20, 37, 38, 39, 40, 41] (by decide +kernel) (by decide +kernel)
set_option maxRecDepth 20000 in
theorem gX2_code_X2_restOf : GoodIn wsX2_code (wsV RX2 45 RX2 yX2_restOf wsX2_restOf) := goodIn_app (goodIn_of _ (by decide +kernel)) ggX2_code_X2_restOf
set_option maxRecDepth 20000 in
theorem ggX2_code_X7_putNumber : GoodIn wsX2_code wsX7_putNumber := goodIn_r _ [35, 36, 22, 23, 6, 24, 8, 20, 40, 41] (by decide +kernel) (by decide +kernel)
set_option maxRecDepth 20000 in
theorem gX2_code_X7_putNumber : GoodIn wsX2_code (wsV RX2 49 RX7 yX7_putNumber wsX7_putNumber) := goodIn_app (goodIn_of _ (by decide +kernel)) ggX2_code_X7_putNumber
set_option maxRecDepth 20000 in
theorem ggX2_decode_X7_size : GoodIn wsX2_decode wsX7_size := goodIn_r _ [7, 8, 24, 25] (by decide +kernel) (by decide +kernel)
set_option maxRecDepth 20000 in
theorem gX2_decode_X7_size : GoodIn wsX2_decode (wsV RX2 34 RX7 yX7_size wsX7_size) := goodIn_app (goodIn_of _ (by decide +kernel)) ggX2_decode_X7_size
set_option maxRecDepth 20000 in
theorem ggX2_decode_X11_blocksOf : GoodIn wsX2_decode wsX11_blocksOf := goodIn_r _ [11] (by decide +kernel) (by decide +kernel)
set_option maxRecDepth 20000 in
theorem gX2_decode_X11_blocksOf_n25 : GoodIn wsX2_decode (wsX11_blocksOf) := ggX2_decode_X11_blocksOf
set_option maxRecDepth 20000 in
theorem ggX2_decode_X7_get : GoodIn wsX2_decode wsX7_get := goodIn_r _ [15, 8, 16, 24, 25] (by decide +kernel) (by decide +kernel)
set_option maxRecDepth 20000 in
theorem gX2_decode_X7_get : GoodIn wsX2_decode (wsV RX2 29 RX7 yX7_get wsX7_get) := goodIn_app (goodIn_of _ (by decide +kernel)) ggX2_decode_X7_get
set_option maxRecDepth 20000 in
theorem ggX2_decode_X7_put : GoodIn wsX2_decode wsX7_put := goodIn_r _ [20, 8, 16, 24, 25] (by decide +kernel) (by decide +kernel)
set_option maxRecDepth 20000 in
theorem gX2_decode_X7_put : GoodIn wsX2_decode (wsV RX2 41 RX7 yX7_put wsX7_put) := goodIn_app (goodIn_of _ (by decide +kernel)) ggX2_decode_X7_put
set_option maxRecDepth 20000 in
theorem ggX2_damagedIn_X7_size : GoodIn wsX2_damagedIn wsX7_size := goodIn_r _ [7, 8, 35, 36] (by decide +kernel) (by decide +kernel)
set_option maxRecDepth 20000 in
theorem gX2_damagedIn_X7_size : GoodIn wsX2_damagedIn (wsV RX2 34 RX7 yX7_size wsX7_size) := goodIn_app (goodIn_of _ (by decide +kernel)) ggX2_damagedIn_X7_size
set_option maxRecDepth 20000 in
theorem ggX2_damagedIn_X11_blocksOf : GoodIn wsX2_damagedIn wsX11_blocksOf := goodIn_r _ [11] (by decide +kernel) (by decide +kernel)
set_option maxRecDepth 20000 in
theorem gX2_damagedIn_X11_blocksOf_n25 : GoodIn wsX2_damagedIn (wsX11_blocksOf) := ggX2_damagedIn_X11_blocksOf
set_option maxRecDepth 20000 in
theorem ggX2_damagedIn_X2_isDamaged : GoodIn wsX2_damagedIn wsX2_isDamaged := goodIn_r _ [16, 1, 2, 17, 18, 19, 6, 20, 8, 21, 22, 23, 24, 15, 25, 26, 27, 28, 29, 30, 31, 32, 33, 34, 35, 36] (by decide +kernel) (by decide +kernel)
set_option maxRecDepth 20000 in
theorem gX2_damagedIn_X2_isDamaged : GoodIn wsX2_damagedIn (wsV RX2 53 RX2 yX2_isDamaged wsX2_isDamaged) := goodIn_app (goodIn_of _ (by decide +kernel)) ggX2_damagedIn_X2_isDamaged
set_option maxRecDepth 20000 in
theorem ggX2_isDamaged_X7_get : GoodIn wsX2_isDamaged wsX7_get := goodIn_r _ [7, 8, 9, 24, 25] (by decide +kernel) (by decide +kernel)
set_option maxRecDepth 20000 in
theorem gX2_isDamaged_X7_get : GoodIn wsX2_isDamaged (wsV RX2 29 RX7 yX7_get wsX7_get) := goodIn_app (goodIn_of _ (by decide +kernel)) ggX2_isDamaged_X7_get
set_option maxRecDepth 20000 in
theorem ggX2_isDamaged_X2_restOf : GoodIn wsX2_isDamaged wsX2_restOf := goodIn_r _ [14, 2, 1, 15, 3, 4, 5, 6, 7, 8, 9, 21, 22, 23, 24, 25] (by decide +kernel) (by decide +kernel)
set_option maxRecDepth 20000 in
theorem gX2_isDamaged_X2_restOf : GoodIn wsX2_isDamaged (wsV RX2 45 RX2 yX2_restOf wsX2_restOf) := goodIn_app (goodIn_of _ (by decide +kernel)) ggX2_isDamaged_X2_restOf
set_option maxRecDepth 20000 in
theorem ggX2_isDamaged_X7_numberAt : GoodIn wsX2_isDamaged wsX7_numberAt := goodIn_r _ [19, 20, 4, 5, 6, 7, 8, 9, 24, 25] (by decide +kernel) (by decide +kernel)
set_option maxRecDepth 20000 in
theorem gX2_isDamaged_X7_numberAt : GoodIn wsX2_isDamaged (wsV RX2 38 RX7 yX7_numberAt wsX7_numberAt) := goodIn_app (goodIn_of _ (by decide +kernel)) ggX2_isDamaged_X7_numberAt
theorem dX2_init_0 : decode cX2_init 0 = .ok (.aload_n 0, 1) := by decide +kernel
theorem dX2_init_1 : decode cX2_init 1 = .ok (.invokespecial 3, 3) := by decide +kernel
theorem dX2_init_4 : decode cX2_init 4 = .ok (.aload_n 0, 1) := by decide +kernel
theorem dX2_init_5 : decode cX2_init 5 = .ok (.iload_n 1, 1) := by decide +kernel
theorem dX2_init_6 : decode cX2_init 6 = .ok (.putfield 9, 3) := by decide +kernel
theorem dX2_init_9 : decode cX2_init 9 = .ok (.aload_n 0, 1) := by decide +kernel
theorem dX2_init_10 : decode cX2_init 10 = .ok (.iload_n 2, 1) := by decide +kernel
theorem dX2_init_11 : decode cX2_init 11 = .ok (.putfield 15, 3) := by decide +kernel
theorem dX2_init_14 : decode cX2_init 14 = .ok (.aload_n 0, 1) := by decide +kernel
theorem dX2_init_15 : decode cX2_init 15 = .ok (.iload_n 1, 1) := by decide +kernel
theorem dX2_init_16 : decode cX2_init 16 = .ok (.invokestatic 18, 3) := by decide +kernel
theorem dX2_init_19 : decode cX2_init 19 = .ok (.putfield 22, 3) := by decide +kernel
theorem dX2_init_22 : decode cX2_init 22 = .ok (.return_, 1) := by decide +kernel
theorem dX2_degreeOf_0 : decode cX2_degreeOf 0 = .ok (.iconst 0, 1) := by decide +kernel
theorem dX2_degreeOf_1 : decode cX2_degreeOf 1 = .ok (.istore_n 1, 1) := by decide +kernel
theorem dX2_degreeOf_2 : decode cX2_degreeOf 2 = .ok (.iconst 1, 1) := by decide +kernel
theorem dX2_degreeOf_3 : decode cX2_degreeOf 3 = .ok (.istore_n 2, 1) := by decide +kernel
theorem dX2_degreeOf_4 : decode cX2_degreeOf 4 = .ok (.iload_n 2, 1) := by decide +kernel
theorem dX2_degreeOf_5 : decode cX2_degreeOf 5 = .ok (.bipush 8, 2) := by decide +kernel
theorem dX2_degreeOf_7 : decode cX2_degreeOf 7 = .ok (.if_icmp .gt 17, 3) := by decide +kernel
theorem dX2_degreeOf_10 : decode cX2_degreeOf 10 = .ok (.iload_n 0, 1) := by decide +kernel
theorem dX2_degreeOf_11 : decode cX2_degreeOf 11 = .ok (.iload_n 2, 1) := by decide +kernel
theorem dX2_degreeOf_12 : decode cX2_degreeOf 12 = .ok (.iushr, 1) := by decide +kernel
theorem dX2_degreeOf_13 : decode cX2_degreeOf 13 = .ok (.ifCond .eq 5, 3) := by decide +kernel
theorem dX2_degreeOf_16 : decode cX2_degreeOf 16 = .ok (.iload_n 2, 1) := by decide +kernel
theorem dX2_degreeOf_17 : decode cX2_degreeOf 17 = .ok (.istore_n 1, 1) := by decide +kernel
theorem dX2_degreeOf_18 : decode cX2_degreeOf 18 = .ok (.iinc 2 1, 3) := by decide +kernel
theorem dX2_degreeOf_21 : decode cX2_degreeOf 21 = .ok (.goto (-17), 3) := by decide +kernel
theorem dX2_degreeOf_24 : decode cX2_degreeOf 24 = .ok (.iload_n 1, 1) := by decide +kernel
theorem dX2_degreeOf_25 : decode cX2_degreeOf 25 = .ok (.ireturn, 1) := by decide +kernel
theorem dX2_kind_0 : decode cX2_kind 0 = .ok (.iconst 2, 1) := by decide +kernel
theorem dX2_kind_1 : decode cX2_kind 1 = .ok (.ireturn, 1) := by decide +kernel
theorem dX2_sizeOf_0 : decode cX2_sizeOf 0 = .ok (.iload_n 1, 1) := by decide +kernel
theorem dX2_sizeOf_1 : decode cX2_sizeOf 1 = .ok (.aload_n 0, 1) := by decide +kernel
theorem dX2_sizeOf_2 : decode cX2_sizeOf 2 = .ok (.getfield 15, 3) := by decide +kernel
theorem dX2_sizeOf_5 : decode cX2_sizeOf 5 = .ok (.invokestatic 25, 3) := by decide +kernel
theorem dX2_sizeOf_8 : decode cX2_sizeOf 8 = .ok (.aload_n 0, 1) := by decide +kernel
theorem dX2_sizeOf_9 : decode cX2_sizeOf 9 = .ok (.getfield 15, 3) := by decide +kernel
theorem dX2_sizeOf_12 : decode cX2_sizeOf 12 = .ok (.aload_n 0, 1) := by decide +kernel
theorem dX2_sizeOf_13 : decode cX2_sizeOf 13 = .ok (.getfield 22, 3) := by decide +kernel
theorem dX2_sizeOf_16 : decode cX2_sizeOf 16 = .ok (.iadd, 1) := by decide +kernel
theorem dX2_sizeOf_17 : decode cX2_sizeOf 17 = .ok (.imul, 1) := by decide +kernel
theorem dX2_sizeOf_18 : decode cX2_sizeOf 18 = .ok (.ireturn, 1) := by decide +kernel
theorem dX2_restOf_0 : decode cX2_restOf 0 = .ok (.iconst 1, 1) := by decide +kernel
theorem dX2_restOf_1 : decode cX2_restOf 1 = .ok (.aload_n 0, 1) := by decide +kernel
theorem dX2_restOf_2 : decode cX2_restOf 2 = .ok (.getfield 22, 3) := by decide +kernel
theorem dX2_restOf_5 : decode cX2_restOf 5 = .ok (.ishl, 1) := by decide +kernel
theorem dX2_restOf_6 : decode cX2_restOf 6 = .ok (.istore_n 3, 1) := by decide +kernel
theorem dX2_restOf_7 : decode cX2_restOf 7 = .ok (.iconst 0, 1) := by decide +kernel
theorem dX2_restOf_8 : decode cX2_restOf 8 = .ok (.istore 4, 2) := by decide +kernel
theorem dX2_restOf_10 : decode cX2_restOf 10 = .ok (.iconst 0, 1) := by decide +kernel
theorem dX2_restOf_11 : decode cX2_restOf 11 = .ok (.istore 5, 2) := by decide +kernel
theorem dX2_restOf_13 : decode cX2_restOf 13 = .ok (.iload 5, 2) := by decide +kernel
theorem dX2_restOf_15 : decode cX2_restOf 15 = .ok (.aload_n 0, 1) := by decide +kernel
theorem dX2_restOf_16 : decode cX2_restOf 16 = .ok (.getfield 15, 3) := by decide +kernel
theorem dX2_restOf_19 : decode cX2_restOf 19 = .ok (.aload_n 0, 1) := by decide +kernel
theorem dX2_restOf_20 : decode cX2_restOf 20 = .ok (.getfield 22, 3) := by decide +kernel
theorem dX2_restOf_23 : decode cX2_restOf 23 = .ok (.iadd, 1) := by decide +kernel
theorem dX2_restOf_24 : decode cX2_restOf 24 = .ok (.if_icmp .ge 58, 3) := by decide +kernel
theorem dX2_restOf_27 : decode cX2_restOf 27 = .ok (.iload 4, 2) := by decide +kernel
theorem dX2_restOf_29 : decode cX2_restOf 29 = .ok (.iconst 1, 1) := by decide +kernel
theorem dX2_restOf_30 : decode cX2_restOf 30 = .ok (.ishl, 1) := by decide +kernel
theorem dX2_restOf_31 : decode cX2_restOf 31 = .ok (.iload 5, 2) := by decide +kernel
theorem dX2_restOf_33 : decode cX2_restOf 33 = .ok (.aload_n 0, 1) := by decide +kernel
theorem dX2_restOf_34 : decode cX2_restOf 34 = .ok (.getfield 15, 3) := by decide +kernel
theorem dX2_restOf_37 : decode cX2_restOf 37 = .ok (.if_icmp .ge 19, 3) := by decide +kernel
theorem dX2_restOf_40 : decode cX2_restOf 40 = .ok (.aload_n 1, 1) := by decide +kernel
theorem dX2_restOf_41 : decode cX2_restOf 41 = .ok (.iload_n 2, 1) := by decide +kernel
theorem dX2_restOf_42 : decode cX2_restOf 42 = .ok (.iload 5, 2) := by decide +kernel
theorem dX2_restOf_44 : decode cX2_restOf 44 = .ok (.iadd, 1) := by decide +kernel
theorem dX2_restOf_45 : decode cX2_restOf 45 = .ok (.invokevirtual 29, 3) := by decide +kernel
theorem dX2_restOf_48 : decode cX2_restOf 48 = .ok (.iconst 1, 1) := by decide +kernel
theorem dX2_restOf_49 : decode cX2_restOf 49 = .ok (.if_icmp .ne 7, 3) := by decide +kernel
theorem dX2_restOf_52 : decode cX2_restOf 52 = .ok (.iconst 1, 1) := by decide +kernel
theorem dX2_restOf_53 : decode cX2_restOf 53 = .ok (.goto 4, 3) := by decide +kernel
theorem dX2_restOf_56 : decode cX2_restOf 56 = .ok (.iconst 0, 1) := by decide +kernel
theorem dX2_restOf_57 : decode cX2_restOf 57 = .ok (.ior, 1) := by decide +kernel
theorem dX2_restOf_58 : decode cX2_restOf 58 = .ok (.istore 4, 2) := by decide +kernel
theorem dX2_restOf_60 : decode cX2_restOf 60 = .ok (.iload 4, 2) := by decide +kernel
theorem dX2_restOf_62 : decode cX2_restOf 62 = .ok (.iload_n 3, 1) := by decide +kernel
theorem dX2_restOf_63 : decode cX2_restOf 63 = .ok (.iand, 1) := by decide +kernel
theorem dX2_restOf_64 : decode cX2_restOf 64 = .ok (.ifCond .eq 12, 3) := by decide +kernel
theorem dX2_restOf_67 : decode cX2_restOf 67 = .ok (.iload 4, 2) := by decide +kernel
theorem dX2_restOf_69 : decode cX2_restOf 69 = .ok (.aload_n 0, 1) := by decide +kernel
theorem dX2_restOf_70 : decode cX2_restOf 70 = .ok (.getfield 9, 3) := by decide +kernel
theorem dX2_restOf_73 : decode cX2_restOf 73 = .ok (.ixor, 1) := by decide +kernel
theorem dX2_restOf_74 : decode cX2_restOf 74 = .ok (.istore 4, 2) := by decide +kernel
theorem dX2_restOf_76 : decode cX2_restOf 76 = .ok (.iinc 5 1, 3) := by decide +kernel
theorem dX2_restOf_79 : decode cX2_restOf 79 = .ok (.goto (-66), 3) := by decide +kernel
theorem dX2_restOf_82 : decode cX2_restOf 82 = .ok (.iload 4, 2) := by decide +kernel
theorem dX2_restOf_84 : decode cX2_restOf 84 = .ok (.ireturn, 1) := by decide +kernel
theorem dX2_code_0 : decode cX2_code 0 = .ok (.aload_n 1, 1) := by decide +kernel
theorem dX2_code_1 : decode cX2_code 1 = .ok (.invokevirtual 34, 3) := by decide +kernel
theorem dX2_code_4 : decode cX2_code 4 = .ok (.aload_n 0, 1) := by decide +kernel
theorem dX2_code_5 : decode cX2_code 5 = .ok (.getfield 15, 3) := by decide +kernel
theorem dX2_code_8 : decode cX2_code 8 = .ok (.invokestatic 25, 3) := by decide +kernel
theorem dX2_code_11 : decode cX2_code 11 = .ok (.istore_n 3, 1) := by decide +kernel
theorem dX2_code_12 : decode cX2_code 12 = .ok (.aload_n 0, 1) := by decide +kernel
theorem dX2_code_13 : decode cX2_code 13 = .ok (.getfield 15, 3) := by decide +kernel
theorem dX2_code_16 : decode cX2_code 16 = .ok (.aload_n 0, 1) := by decide +kernel
theorem dX2_code_17 : decode cX2_code 17 = .ok (.getfield 22, 3) := by decide +kernel
theorem dX2_code_20 : decode cX2_code 20 = .ok (.iadd, 1) := by decide +kernel
theorem dX2_code_21 : decode cX2_code 21 = .ok (.istore 4, 2) := by decide +kernel
theorem dX2_code_23 : decode cX2_code 23 = .ok (.iconst 0, 1) := by decide +kernel
theorem dX2_code_24 : decode cX2_code 24 = .ok (.istore 5, 2) := by decide +kernel
theorem dX2_code_26 : decode cX2_code 26 = .ok (.iload 5, 2) := by decide +kernel
theorem dX2_code_28 : decode cX2_code 28 = .ok (.iload_n 3, 1) := by decide +kernel
theorem dX2_code_29 : decode cX2_code 29 = .ok (.if_icmp .ge 84, 3) := by decide +kernel
theorem dX2_code_32 : decode cX2_code 32 = .ok (.iconst 0, 1) := by decide +kernel
theorem dX2_code_33 : decode cX2_code 33 = .ok (.istore 6, 2) := by decide +kernel
theorem dX2_code_35 : decode cX2_code 35 = .ok (.iload 6, 2) := by decide +kernel
theorem dX2_code_37 : decode cX2_code 37 = .ok (.aload_n 0, 1) := by decide +kernel
theorem dX2_code_38 : decode cX2_code 38 = .ok (.getfield 15, 3) := by decide +kernel
theorem dX2_code_41 : decode cX2_code 41 = .ok (.if_icmp .ge 36, 3) := by decide +kernel
theorem dX2_code_44 : decode cX2_code 44 = .ok (.aload_n 2, 1) := by decide +kernel
theorem dX2_code_45 : decode cX2_code 45 = .ok (.iload 5, 2) := by decide +kernel
theorem dX2_code_47 : decode cX2_code 47 = .ok (.iload 4, 2) := by decide +kernel
theorem dX2_code_49 : decode cX2_code 49 = .ok (.imul, 1) := by decide +kernel
theorem dX2_code_50 : decode cX2_code 50 = .ok (.iload 6, 2) := by decide +kernel
theorem dX2_code_52 : decode cX2_code 52 = .ok (.iadd, 1) := by decide +kernel
theorem dX2_code_53 : decode cX2_code 53 = .ok (.aload_n 1, 1) := by decide +kernel
theorem dX2_code_54 : decode cX2_code 54 = .ok (.iload 5, 2) := by decide +kernel
theorem dX2_code_56 : decode cX2_code 56 = .ok (.aload_n 0, 1) := by decide +kernel
theorem dX2_code_57 : decode cX2_code 57 = .ok (.getfield 15, 3) := by decide +kernel
theorem dX2_code_60 : decode cX2_code 60 = .ok (.imul, 1) := by decide +kernel
theorem dX2_code_61 : decode cX2_code 61 = .ok (.iload 6, 2) := by decide +kernel
theorem dX2_code_63 : decode cX2_code 63 = .ok (.iadd, 1) := by decide +kernel
theorem dX2_code_64 : decode cX2_code 64 = .ok (.iconst 1, 1) := by decide +kernel
theorem dX2_code_65 : decode cX2_code 65 = .ok (.invokevirtual 38, 3) := by decide +kernel
theorem dX2_code_68 : decode cX2_code 68 = .ok (.invokevirtual 41, 3) := by decide +kernel
theorem dX2_code_71 : decode cX2_code 71 = .ok (.iinc 6 1, 3) := by decide +kernel
theorem dX2_code_74 : decode cX2_code 74 = .ok (.goto (-39), 3) := by decide +kernel
theorem dX2_code_77 : decode cX2_code 77 = .ok (.aload_n 2, 1) := by decide +kernel
theorem dX2_code_78 : decode cX2_code 78 = .ok (.iload 5, 2) := by decide +kernel
theorem dX2_code_80 : decode cX2_code 80 = .ok (.iload 4, 2) := by decide +kernel
theorem dX2_code_82 : decode cX2_code 82 = .ok (.imul, 1) := by decide +kernel
theorem dX2_code_83 : decode cX2_code 83 = .ok (.aload_n 0, 1) := by decide +kernel
theorem dX2_code_84 : decode cX2_code 84 = .ok (.getfield 15, 3) := by decide +kernel
theorem dX2_code_87 : decode cX2_code 87 = .ok (.iadd, 1) := by decide +kernel
theorem dX2_code_88 : decode cX2_code 88 = .ok (.aload_n 0, 1) := by decide +kernel
theorem dX2_code_89 : decode cX2_code 89 = .ok (.aload_n 1, 1) := by decide +kernel
theorem dX2_code_90 : decode cX2_code 90 = .ok (.iload 5, 2) := by decide +kernel
theorem dX2_code_92 : decode cX2_code 92 = .ok (.aload_n 0, 1) := by decide +kernel
theorem dX2_code_93 : decode cX2_code 93 = .ok (.getfield 15, 3) := by decide +kernel
theorem dX2_code_96 : decode cX2_code 96 = .ok (.imul, 1) := by decide +kernel
theorem dX2_code_97 : decode cX2_code 97 = .ok (.invokevirtual 45, 3) := by decide +kernel
theorem dX2_code_100 : decode cX2_code 100 = .ok (.aload_n 0, 1) := by decide +kernel
theorem dX2_code_101 : decode cX2_code 101 = .ok (.getfield 22, 3) := by decide +kernel
theorem dX2_code_104 : decode cX2_code 104 = .ok (.invokevirtual 49, 3) := by decide +kernel
theorem dX2_code_107 : decode cX2_code 107 = .ok (.iinc 5 1, 3) := by decide +kernel
theorem dX2_code_110 : decode cX2_code 110 = .ok (.goto (-84), 3) := by decide +kernel
theorem dX2_code_113 : decode cX2_code 113 = .ok (.return_, 1) := by decide +kernel
theorem dX2_decode_0 : decode cX2_decode 0 = .ok (.aload_n 2, 1) := by decide +kernel
theorem dX2_decode_1 : decode cX2_decode 1 = .ok (.invokevirtual 34, 3) := by decide +kernel
theorem dX2_decode_4 : decode cX2_decode 4 = .ok (.aload_n 0, 1) := by decide +kernel
theorem dX2_decode_5 : decode cX2_decode 5 = .ok (.getfield 15, 3) := by decide +kernel
theorem dX2_decode_8 : decode cX2_decode 8 = .ok (.invokestatic 25, 3) := by decide +kernel
theorem dX2_decode_11 : decode cX2_decode 11 = .ok (.istore_n 3, 1) := by decide +kernel
theorem dX2_decode_12 : decode cX2_decode 12 = .ok (.iconst 0, 1) := by decide +kernel
theorem dX2_decode_13 : decode cX2_decode 13 = .ok (.istore 4, 2) := by decide +kernel
theorem dX2_decode_15 : decode cX2_decode 15 = .ok (.iload 4, 2) := by decide +kernel
theorem dX2_decode_17 : decode cX2_decode 17 = .ok (.iload_n 3, 1) := by decide +kernel
theorem dX2_decode_18 : decode cX2_decode 18 = .ok (.if_icmp .ge 60, 3) := by decide +kernel
theorem dX2_decode_21 : decode cX2_decode 21 = .ok (.iconst 0, 1) := by decide +kernel
theorem dX2_decode_22 : decode cX2_decode 22 = .ok (.istore 5, 2) := by decide +kernel
theorem dX2_decode_24 : decode cX2_decode 24 = .ok (.iload 5, 2) := by decide +kernel
theorem dX2_decode_26 : decode cX2_decode 26 = .ok (.aload_n 0, 1) := by decide +kernel
theorem dX2_decode_27 : decode cX2_decode 27 = .ok (.getfield 15, 3) := by decide +kernel
theorem dX2_decode_30 : decode cX2_decode 30 = .ok (.if_icmp .ge 42, 3) := by decide +kernel
theorem dX2_decode_33 : decode cX2_decode 33 = .ok (.aload_n 2, 1) := by decide +kernel
theorem dX2_decode_34 : decode cX2_decode 34 = .ok (.iload 4, 2) := by decide +kernel
theorem dX2_decode_36 : decode cX2_decode 36 = .ok (.aload_n 0, 1) := by decide +kernel
theorem dX2_decode_37 : decode cX2_decode 37 = .ok (.getfield 15, 3) := by decide +kernel
theorem dX2_decode_40 : decode cX2_decode 40 = .ok (.imul, 1) := by decide +kernel
theorem dX2_decode_41 : decode cX2_decode 41 = .ok (.iload 5, 2) := by decide +kernel
theorem dX2_decode_43 : decode cX2_decode 43 = .ok (.iadd, 1) := by decide +kernel
theorem dX2_decode_44 : decode cX2_decode 44 = .ok (.aload_n 1, 1) := by decide +kernel
theorem dX2_decode_45 : decode cX2_decode 45 = .ok (.iload 4, 2) := by decide +kernel
theorem dX2_decode_47 : decode cX2_decode 47 = .ok (.aload_n 0, 1) := by decide +kernel
theorem dX2_decode_48 : decode cX2_decode 48 = .ok (.getfield 15, 3) := by decide +kernel
theorem dX2_decode_51 : decode cX2_decode 51 = .ok (.aload_n 0, 1) := by decide +kernel
theorem dX2_decode_52 : decode cX2_decode 52 = .ok (.getfield 22, 3) := by decide +kernel
theorem dX2_decode_55 : decode cX2_decode 55 = .ok (.iadd, 1) := by decide +kernel
theorem dX2_decode_56 : decode cX2_decode 56 = .ok (.imul, 1) := by decide +kernel
theorem dX2_decode_57 : decode cX2_decode 57 = .ok (.iload 5, 2) := by decide +kernel
theorem dX2_decode_59 : decode cX2_decode 59 = .ok (.iadd, 1) := by decide +kernel
theorem dX2_decode_60 : decode cX2_decode 60 = .ok (.invokevirtual 29, 3) := by decide +kernel
theorem dX2_decode_63 : decode cX2_decode 63 = .ok (.invokevirtual 41, 3) := by decide +kernel
theorem dX2_decode_66 : decode cX2_decode 66 = .ok (.iinc 5 1, 3) := by decide +kernel
theorem dX2_decode_69 : decode cX2_decode 69 = .ok (.goto (-45), 3) := by decide +kernel
theorem dX2_decode_72 : decode cX2_decode 72 = .ok (.iinc 4 1, 3) := by decide +kernel
theorem dX2_decode_75 : decode cX2_decode 75 = .ok (.goto (-60), 3) := by decide +kernel
theorem dX2_decode_78 : decode cX2_decode 78 = .ok (.return_, 1) := by decide +kernel
theorem dX2_damagedIn_0 : decode cX2_damagedIn 0 = .ok (.aload_n 1, 1) := by decide +kernel
theorem dX2_damagedIn_1 : decode cX2_damagedIn 1 = .ok (.invokevirtual 34, 3) := by decide +kernel
theorem dX2_damagedIn_4 : decode cX2_damagedIn 4 = .ok (.aload_n 0, 1) := by decide +kernel
theorem dX2_damagedIn_5 : decode cX2_damagedIn 5 = .ok (.getfield 15, 3) := by decide +kernel
theorem dX2_damagedIn_8 : decode cX2_damagedIn 8 = .ok (.aload_n 0, 1) := by decide +kernel
theorem dX2_damagedIn_9 : decode cX2_damagedIn 9 = .ok (.getfield 22, 3) := by decide +kernel
theorem dX2_damagedIn_12 : decode cX2_damagedIn 12 = .ok (.iadd, 1) := by decide +kernel
theorem dX2_damagedIn_13 : decode cX2_damagedIn 13 = .ok (.invokestatic 25, 3) := by decide +kernel
theorem dX2_damagedIn_16 : decode cX2_damagedIn 16 = .ok (.istore_n 2, 1) := by decide +kernel
theorem dX2_damagedIn_17 : decode cX2_damagedIn 17 = .ok (.iconst 0, 1) := by decide +kernel
theorem dX2_damagedIn_18 : decode cX2_damagedIn 18 = .ok (.istore_n 3, 1) := by decide +kernel
theorem dX2_damagedIn_19 : decode cX2_damagedIn 19 = .ok (.iconst 0, 1) := by decide +kernel
theorem dX2_damagedIn_20 : decode cX2_damagedIn 20 = .ok (.istore 4, 2) := by decide +kernel
theorem dX2_damagedIn_22 : decode cX2_damagedIn 22 = .ok (.iload 4, 2) := by decide +kernel
theorem dX2_damagedIn_24 : decode cX2_damagedIn 24 = .ok (.iload_n 2, 1) := by decide +kernel
theorem dX2_damagedIn_25 : decode cX2_damagedIn 25 = .ok (.if_icmp .ge 32, 3) := by decide +kernel
theorem dX2_damagedIn_28 : decode cX2_damagedIn 28 = .ok (.aload_n 0, 1) := by decide +kernel
theorem dX2_damagedIn_29 : decode cX2_damagedIn 29 = .ok (.aload_n 1, 1) := by decide +kernel
theorem dX2_damagedIn_30 : decode cX2_damagedIn 30 = .ok (.iload 4, 2) := by decide +kernel
theorem dX2_damagedIn_32 : decode cX2_damagedIn 32 = .ok (.aload_n 0, 1) := by decide +kernel
theorem dX2_damagedIn_33 : decode cX2_damagedIn 33 = .ok (.getfield 15, 3) := by decide +kernel
theorem dX2_damagedIn_36 : decode cX2_damagedIn 36 = .ok (.aload_n 0, 1) := by decide +kernel
theorem dX2_damagedIn_37 : decode cX2_damagedIn 37 = .ok (.getfield 22, 3) := by decide +kernel
theorem dX2_damagedIn_40 : decode cX2_damagedIn 40 = .ok (.iadd, 1) := by decide +kernel
theorem dX2_damagedIn_41 : decode cX2_damagedIn 41 = .ok (.imul, 1) := by decide +kernel
theorem dX2_damagedIn_42 : decode cX2_damagedIn 42 = .ok (.invokevirtual 53, 3) := by decide +kernel
theorem dX2_damagedIn_45 : decode cX2_damagedIn 45 = .ok (.ifCond .eq 6, 3) := by decide +kernel
theorem dX2_damagedIn_48 : decode cX2_damagedIn 48 = .ok (.iinc 3 1, 3) := by decide +kernel
theorem dX2_damagedIn_51 : decode cX2_damagedIn 51 = .ok (.iinc 4 1, 3) := by decide +kernel
theorem dX2_damagedIn_54 : decode cX2_damagedIn 54 = .ok (.goto (-32), 3) := by decide +kernel
theorem dX2_damagedIn_57 : decode cX2_damagedIn 57 = .ok (.iload_n 3, 1) := by decide +kernel
theorem dX2_damagedIn_58 : decode cX2_damagedIn 58 = .ok (.ireturn, 1) := by decide +kernel
theorem dX2_isDamaged_0 : decode cX2_isDamaged 0 = .ok (.iconst 0, 1) := by decide +kernel
theorem dX2_isDamaged_1 : decode cX2_isDamaged 1 = .ok (.istore_n 3, 1) := by decide +kernel
theorem dX2_isDamaged_2 : decode cX2_isDamaged 2 = .ok (.iload_n 3, 1) := by decide +kernel
theorem dX2_isDamaged_3 : decode cX2_isDamaged 3 = .ok (.aload_n 0, 1) := by decide +kernel
theorem dX2_isDamaged_4 : decode cX2_isDamaged 4 = .ok (.getfield 15, 3) := by decide +kernel
theorem dX2_isDamaged_7 : decode cX2_isDamaged 7 = .ok (.aload_n 0, 1) := by decide +kernel
theorem dX2_isDamaged_8 : decode cX2_isDamaged 8 = .ok (.getfield 22, 3) := by decide +kernel
theorem dX2_isDamaged_11 : decode cX2_isDamaged 11 = .ok (.iadd, 1) := by decide +kernel
theorem dX2_isDamaged_12 : decode cX2_isDamaged 12 = .ok (.if_icmp .ge 22, 3) := by decide +kernel
theorem dX2_isDamaged_15 : decode cX2_isDamaged 15 = .ok (.aload_n 1, 1) := by decide +kernel
theorem dX2_isDamaged_16 : decode cX2_isDamaged 16 = .ok (.iload_n 2, 1) := by decide +kernel
theorem dX2_isDamaged_17 : decode cX2_isDamaged 17 = .ok (.iload_n 3, 1) := by decide +kernel
theorem dX2_isDamaged_18 : decode cX2_isDamaged 18 = .ok (.iadd, 1) := by decide +kernel
theorem dX2_isDamaged_19 : decode cX2_isDamaged 19 = .ok (.invokevirtual 29, 3) := by decide +kernel
theorem dX2_isDamaged_22 : decode cX2_isDamaged 22 = .ok (.iconst 2, 1) := by decide +kernel
theorem dX2_isDamaged_23 : decode cX2_isDamaged 23 = .ok (.if_icmp .ne 5, 3) := by decide +kernel
theorem dX2_isDamaged_26 : decode cX2_isDamaged 26 = .ok (.iconst 1, 1) := by decide +kernel
theorem dX2_isDamaged_27 : decode cX2_isDamaged 27 = .ok (.ireturn, 1) := by decide +kernel
theorem dX2_isDamaged_28 : decode cX2_isDamaged 28 = .ok (.iinc 3 1, 3) := by decide +kernel
theorem dX2_isDamaged_31 : decode cX2_isDamaged 31 = .ok (.goto (-29), 3) := by decide +kernel
theorem dX2_isDamaged_34 : decode cX2_isDamaged 34 = .ok (.aload_n 0, 1) := by decide +kernel
theorem dX2_isDamaged_35 : decode cX2_isDamaged 35 = .ok (.aload_n 1, 1) := by decide +kernel
theorem dX2_isDamaged_36 : decode cX2_isDamaged 36 = .ok (.iload_n 2, 1) := by decide +kernel
theorem dX2_isDamaged_37 : decode cX2_isDamaged 37 = .ok (.invokevirtual 45, 3) := by decide +kernel
theorem dX2_isDamaged_40 : decode cX2_isDamaged 40 = .ok (.aload_n 1, 1) := by decide +kernel
theorem dX2_isDamaged_41 : decode cX2_isDamaged 41 = .ok (.iload_n 2, 1) := by decide +kernel
theorem dX2_isDamaged_42 : decode cX2_isDamaged 42 = .ok (.aload_n 0, 1) := by decide +kernel
theorem dX2_isDamaged_43 : decode cX2_isDamaged 43 = .ok (.getfield 15, 3) := by decide +kernel
theorem dX2_isDamaged_46 : decode cX2_isDamaged 46 = .ok (.iadd, 1) := by decide +kernel
theorem dX2_isDamaged_47 : decode cX2_isDamaged 47 = .ok (.aload_n 0, 1) := by decide +kernel
theorem dX2_isDamaged_48 : decode cX2_isDamaged 48 = .ok (.getfield 22, 3) := by decide +kernel
theorem dX2_isDamaged_51 : decode cX2_isDamaged 51 = .ok (.invokevirtual 38, 3) := by decide +kernel
theorem dX2_isDamaged_54 : decode cX2_isDamaged 54 = .ok (.if_icmp .eq 7, 3) := by decide +kernel
theorem dX2_isDamaged_57 : decode cX2_isDamaged 57 = .ok (.iconst 1, 1) := by decide +kernel
theorem dX2_isDamaged_58 : decode cX2_isDamaged 58 = .ok (.goto 4, 3) := by decide +kernel
theorem dX2_isDamaged_61 : decode cX2_isDamaged 61 = .ok (.iconst 0, 1) := by decide +kernel
theorem dX2_isDamaged_62 : decode cX2_isDamaged 62 = .ok (.ireturn, 1) := by decide +kernel
set_option maxRecDepth 20000 in
theorem ggX9_init_X8_init : GoodIn wsX9_init wsX8_init := goodIn_r _ [8, 9, 10, 11] (by decide +kernel) (by decide +kernel)
set_option maxRecDepth 20000 in
theorem gX9_init_X8_init_n3 : GoodIn wsX9_init (wsX8_init) := ggX9_init_X8_init
set_option maxRecDepth 20000 in
theorem ggX9_init_X9_parity : GoodIn wsX9_init wsX9_parity := goodIn_r _ [15, 16, 17, 18, 19, 20, 21, 22] (by decide +kernel) (by decide +kernel)
set_option maxRecDepth 20000 in
theorem gX9_init_X9_parity : GoodIn wsX9_init (va_wsS RX9 26 yX9_parity wsX9_parity) := goodIn_app (goodIn_of _ (by decide +kernel)) ggX9_init_X9_parity
set_option maxRecDepth 20000 in
theorem ggX9_parity_J6_bitCount_0f7a4 : GoodIn wsX9_parity wsJ6_bitCount_0f7a4 := goodIn_r _ [4, 5, 6, 7] (by decide +kernel) (by decide +kernel)
set_option maxRecDepth 20000 in
theorem gX9_parity_J6_bitCount_0f7a4 : GoodIn wsX9_parity (va_wsS RX9 30 yJ6_bitCount_0f7a4 wsJ6_bitCount_0f7a4) := goodIn_app (goodIn_of _ (by decide +kernel)) ggX9_parity_J6_bitCount_0f7a4
set_option maxRecDepth 20000 in
theorem ggX9_sizeOf_X9_stepsFor : GoodIn wsX9_sizeOf wsX9_stepsFor := goodIn_r _ [6, 7, 8, 9, 10, 11] (by decide +kernel) (by decide +kernel)
set_option maxRecDepth 20000 in
theorem gX9_sizeOf_X9_stepsFor : GoodIn wsX9_sizeOf (wsV RX9 35 RX9 yX9_stepsFor wsX9_stepsFor) := goodIn_app (goodIn_of _ (by decide +kernel)) ggX9_sizeOf_X9_stepsFor
set_option maxRecDepth 20000 in
theorem ggX9_code_X7_size : GoodIn wsX9_code wsX7_size := goodIn_r _ [8, 9, 39, 40] (by decide +kernel) (by decide +kernel)
set_option maxRecDepth 20000 in
theorem gX9_code_X7_size : GoodIn wsX9_code (wsV RX9 38 RX7 yX7_size wsX7_size) := goodIn_app (goodIn_of _ (by decide +kernel)) ggX9_code_X7_size
set_option maxRecDepth 20000 in
theorem ggX9_code_X9_stepsFor : GoodIn wsX9_code wsX9_stepsFor := goodIn_r _ [14, 1, 35, 36, 37, 38] (by decide +kernel) (by decide +kernel)
set_option maxRecDepth 20000 in
theorem gX9_code_X9_stepsFor : GoodIn wsX9_code (wsV RX9 35 RX9 yX9_stepsFor wsX9_stepsFor) := goodIn_app (goodIn_of _ (by decide +kernel)) ggX9_code_X9_stepsFor
set_option maxRecDepth 20000 in
theorem ggX9_code_X7_numberAt : GoodIn wsX9_code wsX7_numberAt := goodIn_r _ [18, 19, 20, 21, 7, 22, 9, 23, 39, 40] (by decide +kernel) (by decide +kernel)
set_option maxRecDepth 20000 in
theorem gX9_code_X7_numberAt : GoodIn wsX9_code (wsV RX9 44 RX7 yX7_numberAt wsX7_numberAt) := goodIn_app (goodIn_of _ (by decide +kernel)) ggX9_code_X7_numberAt
set_option maxRecDepth 20000 in
theorem ggX9_code_X11_at : GoodIn wsX9_code wsX11_at := goodIn_r _ [26] (by decide +kernel) (by decide +kernel)
set_option maxRecDepth 20000 in
theorem gX9_code_X11_at_n48 : GoodIn wsX9_code (wsX11_at) := ggX9_code_X11_at
set_option maxRecDepth 20000 in
theorem ggX9_code_X7_putNumber : GoodIn wsX9_code wsX7_putNumber := goodIn_r _ [30, 31, 32, 33, 7, 34, 9, 23, 39, 40] (by decide +kernel) (by decide +kernel)
set_option maxRecDepth 20000 in
theorem gX9_code_X7_putNumber : GoodIn wsX9_code (wsV RX9 52 RX7 yX7_putNumber wsX7_putNumber) := goodIn_app (goodIn_of _ (by decide +kernel)) ggX9_code_X7_putNumber
set_option maxRecDepth 20000 in
theorem ggX9_decode_X7_size : GoodIn wsX9_decode wsX7_size := goodIn_r _ [8, 9, 92, 93] (by decide +kernel) (by decide +kernel)
set_option maxRecDepth 20000 in
theorem gX9_decode_X7_size : GoodIn wsX9_decode (wsV RX9 38 RX7 yX7_size wsX7_size) := goodIn_app (goodIn_of _ (by decide +kernel)) ggX9_decode_X7_size
set_option maxRecDepth 20000 in
theorem ggX9_decode_X9_stepsFor : GoodIn wsX9_decode wsX9_stepsFor := goodIn_r _ [14, 3, 88, 89, 90, 91] (by decide +kernel) (by decide +kernel)
set_option maxRecDepth 20000 in
theorem gX9_decode_X9_stepsFor : GoodIn wsX9_decode (wsV RX9 35 RX9 yX9_stepsFor wsX9_stepsFor) := goodIn_app (goodIn_of _ (by decide +kernel)) ggX9_decode_X9_stepsFor
set_option maxRecDepth 20000 in
theorem ggX9_decode_X3_startAt : GoodIn wsX9_decode wsX3_startAt := goodIn_r _ [19, 20, 21, 94, 95, 96] (by decide +kernel) (by decide +kernel)
set_option maxRecDepth 20000 in
theorem gX9_decode_X3_startAt : GoodIn wsX9_decode (wsV RX9 56 RX3 yX3_startAt wsX3_startAt) := goodIn_app (goodIn_of _ (by decide +kernel)) ggX9_decode_X3_startAt
set_option maxRecDepth 20000 in
theorem ggX9_decode_X7_numberAt : GoodIn wsX9_decode wsX7_numberAt := goodIn_r _ [25, 26, 27, 28, 7, 29, 9, 30, 92, 93] (by decide +kernel) (by decide +kernel)
set_option maxRecDepth 20000 in
theorem gX9_decode_X7_numberAt : GoodIn wsX9_decode (wsV RX9 44 RX7 yX7_numberAt wsX7_numberAt) := goodIn_app (goodIn_of _ (by decide +kernel)) ggX9_decode_X7_numberAt
set_option maxRecDepth 20000 in
theorem ggX9_decode_X7_knownAt : GoodIn wsX9_decode wsX7_knownAt := goodIn_r _ [34, 26, 27, 28, 7, 29, 9, 30, 92, 93] (by decide +kernel) (by decide +kernel)
set_option maxRecDepth 20000 in
theorem gX9_decode_X7_knownAt : GoodIn wsX9_decode (wsV RX9 62 RX7 yX7_knownAt wsX7_knownAt) := goodIn_app (goodIn_of _ (by decide +kernel)) ggX9_decode_X7_knownAt
set_option maxRecDepth 20000 in
theorem ggX9_decode_X9_advance : GoodIn wsX9_decode wsX9_advance := goodIn_r _ [38, 3, 1, 39, 40, 41, 42, 43, 44, 45, 13, 46, 47, 48, 49, 50, 51, 52, 53, 18, 54, 20, 21, 55, 56, 57, 58, 59, 60, 61, 62, 63, 64, 65, 66, 67, 68, 69, 70, 71, 72, 73, 74, 75, 76, 77, 78, 79, 88, 89, 90, 91, 94, 95, 96] (by decide +kernel) (by decide +kernel)
set_option maxRecDepth 20000 in
theorem gX9_decode_X9_advance : GoodIn wsX9_decode (wsV RX9 65 RX9 yX9_advance wsX9_advance) := goodIn_app (goodIn_of _ (by decide +kernel)) ggX9_decode_X9_advance
set_option maxRecDepth 20000 in
theorem ggX9_decode_X7_put : GoodIn wsX9_decode wsX7_put := goodIn_r _ [83, 9, 30, 92, 93] (by decide +kernel) (by decide +kernel)
set_option maxRecDepth 20000 in
theorem gX9_decode_X7_put : GoodIn wsX9_decode (wsV RX9 68 RX7 yX7_put wsX7_put) := goodIn_app (goodIn_of _ (by decide +kernel)) ggX9_decode_X7_put
set_option maxRecDepth 20000 in
theorem ggX9_decode_X9_aheadOf : GoodIn wsX9_decode wsX9_aheadOf := goodIn_r _ [50, 43, 44, 45, 13, 46, 3, 88, 89, 90, 91] (by decide +kernel) (by decide +kernel)
set_option maxRecDepth 20000 in
theorem gX9_decode_X9_aheadOf : GoodIn wsX9_decode (wsV RX9 71 RX9 yX9_aheadOf wsX9_aheadOf) := goodIn_app (goodIn_of _ (by decide +kernel)) ggX9_decode_X9_aheadOf
set_option maxRecDepth 20000 in
theorem ggX9_decode_X3_cameFromGreater : GoodIn wsX9_decode wsX3_cameFromGreater := goodIn_r _ [87, 79, 60, 61, 62, 94, 95, 96] (by decide +kernel) (by decide +kernel)
set_option maxRecDepth 20000 in
theorem gX9_decode_X3_cameFromGreater : GoodIn wsX9_decode (wsV RX9 74 RX3 yX3_cameFromGreater wsX3_cameFromGreater) := goodIn_app (goodIn_of _ (by decide +kernel)) ggX9_decode_X3_cameFromGreater
set_option maxRecDepth 20000 in
theorem ggX9_aheadOf_X9_states : GoodIn wsX9_aheadOf wsX9_states := goodIn_r _ [5, 6, 7, 8, 9, 10] (by decide +kernel) (by decide +kernel)
set_option maxRecDepth 20000 in
theorem gX9_aheadOf_X9_states : GoodIn wsX9_aheadOf (wsV RX9 77 RX9 yX9_states wsX9_states) := goodIn_app (goodIn_of _ (by decide +kernel)) ggX9_aheadOf_X9_states
set_option maxRecDepth 20000 in
theorem ggX9_advance_X9_states : GoodIn wsX9_advance wsX9_states := goodIn_r _ [11, 1, 48, 49, 50, 51] (by decide +kernel) (by decide +kernel)
set_option maxRecDepth 20000 in
theorem gX9_advance_X9_states : GoodIn wsX9_advance (wsV RX9 77 RX9 yX9_states wsX9_states) := goodIn_app (goodIn_of _ (by decide +kernel)) ggX9_advance_X9_states
set_option maxRecDepth 20000 in
theorem ggX9_advance_X9_aheadOf : GoodIn wsX9_advance wsX9_aheadOf := goodIn_r _ [15, 7, 8, 9, 10, 11, 1, 48, 49, 50, 51] (by decide +kernel) (by decide +kernel)
set_option maxRecDepth 20000 in
theorem gX9_advance_X9_aheadOf : GoodIn wsX9_advance (wsV RX9 71 RX9 yX9_aheadOf wsX9_aheadOf) := goodIn_app (goodIn_of _ (by decide +kernel)) ggX9_advance_X9_aheadOf
set_option maxRecDepth 20000 in
theorem ggX9_advance_X3_farnessOf : GoodIn wsX9_advance wsX3_farnessOf := goodIn_r _ [20, 21, 22, 52, 53, 54] (by decide +kernel) (by decide +kernel)
set_option maxRecDepth 20000 in
theorem gX9_advance_X3_farnessOf : GoodIn wsX9_advance (wsV RX9 80 RX3 yX3_farnessOf wsX3_farnessOf) := goodIn_app (goodIn_of _ (by decide +kernel)) ggX9_advance_X3_farnessOf
set_option maxRecDepth 20000 in
theorem ggX9_advance_X9_farnessOf : GoodIn wsX9_advance wsX9_farnessOf := goodIn_r _ [26, 27, 28, 29, 30, 31, 32, 33, 34, 35, 36, 37, 48, 49, 50, 51] (by decide +kernel) (by decide +kernel)
set_option maxRecDepth 20000 in
theorem gX9_advance_X9_farnessOf : GoodIn wsX9_advance (wsV RX9 83 RX9 yX9_farnessOf wsX9_farnessOf) := goodIn_app (goodIn_of _ (by decide +kernel)) ggX9_advance_X9_farnessOf
set_option maxRecDepth 20000 in
theorem ggX9_advance_X3_keepNext : GoodIn wsX9_advance wsX3_keepNext := goodIn_r _ [41, 42, 52, 53, 54] (by decide +kernel) (by decide +kernel)
set_option maxRecDepth 20000 in
theorem gX9_advance_X3_keepNext : GoodIn wsX9_advance (wsV RX9 91 RX3 yX3_keepNext wsX3_keepNext) := goodIn_app (goodIn_of _ (by decide +kernel)) ggX9_advance_X3_keepNext
set_option maxRecDepth 20000 in
theorem ggX9_advance_X3_endStep : GoodIn wsX9_advance wsX3_endStep := goodIn_r _ [46, 47, 21, 42, 52, 53, 54] (by decide +kernel) (by decide +kernel)
set_option maxRecDepth 20000 in
theorem gX9_advance_X3_endStep : GoodIn wsX9_advance (wsV RX9 94 RX3 yX3_endStep wsX3_endStep) := goodIn_app (goodIn_of _ (by decide +kernel)) ggX9_advance_X3_endStep
set_option maxRecDepth 20000 in
theorem ggX9_farnessOf_X11_at : GoodIn wsX9_farnessOf wsX11_at := goodIn_r _ [4] (by decide +kernel) (by decide +kernel)
set_option maxRecDepth 20000 in
theorem gX9_farnessOf_X11_at_n48 : GoodIn wsX9_farnessOf (wsX11_at) := ggX9_farnessOf_X11_at
set_option maxRecDepth 20000 in
theorem ggX9_farnessOf_J6_bitCount_0f7a4 : GoodIn wsX9_farnessOf wsJ6_bitCount_0f7a4 := goodIn_r _ [8, 9, 10, 11] (by decide +kernel) (by decide +kernel)
set_option maxRecDepth 20000 in
theorem gX9_farnessOf_J6_bitCount_0f7a4 : GoodIn wsX9_farnessOf (va_wsS RX9 30 yJ6_bitCount_0f7a4 wsJ6_bitCount_0f7a4) := goodIn_app (goodIn_of _ (by decide +kernel)) ggX9_farnessOf_J6_bitCount_0f7a4
set_option maxRecDepth 20000 in
theorem ggX9_apart_X9_states : GoodIn wsX9_apart wsX9_states := goodIn_r _ [12, 13, 62, 63, 64, 65] (by decide +kernel) (by decide +kernel)
set_option maxRecDepth 20000 in
theorem gX9_apart_X9_states : GoodIn wsX9_apart (wsV RX9 77 RX9 yX9_states wsX9_states) := goodIn_app (goodIn_of _ (by decide +kernel)) ggX9_apart_X9_states
set_option maxRecDepth 20000 in
theorem ggX9_apart_X9_farnessOf : GoodIn wsX9_apart wsX9_farnessOf := goodIn_r _ [17, 18, 19, 20, 21, 22, 23, 24, 25, 26, 27, 28, 62, 63, 64, 65] (by decide +kernel) (by decide +kernel)
set_option maxRecDepth 20000 in
theorem gX9_apart_X9_farnessOf : GoodIn wsX9_apart (wsV RX9 83 RX9 yX9_farnessOf wsX9_farnessOf) := goodIn_app (goodIn_of _ (by decide +kernel)) ggX9_apart_X9_farnessOf
set_option maxRecDepth 20000 in
theorem ggX9_apart_X3_startAt : GoodIn wsX9_apart wsX3_startAt := goodIn_r _ [33, 34, 35, 66, 67, 68] (by decide +kernel) (by decide +kernel)
set_option maxRecDepth 20000 in
theorem gX9_apart_X3_startAt : GoodIn wsX9_apart (wsV RX9 56 RX3 yX3_startAt wsX3_startAt) := goodIn_app (goodIn_of _ (by decide +kernel)) ggX9_apart_X3_startAt
set_option maxRecDepth 20000 in
theorem ggX9_apart_X9_advance : GoodIn wsX9_apart wsX9_advance := goodIn_r _ [39, 13, 2, 4, 5, 6, 7, 8, 9, 10, 11, 12, 40, 41, 42, 43, 44, 45, 46, 32, 47, 34, 35, 14, 15, 16, 17, 18, 19, 20, 21, 22, 23, 24, 25, 26, 27, 28, 48, 49, 50, 51, 52, 53, 54, 55, 56, 57, 62, 63, 64, 65, 66, 67, 68] (by decide +kernel) (by decide +kernel)
set_option maxRecDepth 20000 in
theorem gX9_apart_X9_advance : GoodIn wsX9_apart (wsV RX9 65 RX9 yX9_advance wsX9_advance) := goodIn_app (goodIn_of _ (by decide +kernel)) ggX9_apart_X9_advance
set_option maxRecDepth 20000 in
theorem ggX9_apart_X3_farnessOf : GoodIn wsX9_apart wsX3_farnessOf := goodIn_r _ [47, 34, 35, 66, 67, 68] (by decide +kernel) (by decide +kernel)
set_option maxRecDepth 20000 in
theorem gX9_apart_X3_farnessOf : GoodIn wsX9_apart (wsV RX9 80 RX3 yX3_farnessOf wsX3_farnessOf) := goodIn_app (goodIn_of _ (by decide +kernel)) ggX9_apart_X3_farnessOf
set_option maxRecDepth 20000 in
theorem ggX9_apart_X3_forget : GoodIn wsX9_apart wsX3_forget := goodIn_r _ [61, 34, 35, 66, 67, 68] (by decide +kernel) (by decide +kernel)
set_option maxRecDepth 20000 in
theorem gX9_apart_X3_forget : GoodIn wsX9_apart (wsV RX9 98 RX3 yX3_forget wsX3_forget) := goodIn_app (goodIn_of _ (by decide +kernel)) ggX9_apart_X3_forget
theorem dX9_init_0 : decode cX9_init 0 = .ok (.aload_n 0, 1) := by decide +kernel
theorem dX9_init_1 : decode cX9_init 1 = .ok (.invokespecial 3, 3) := by decide +kernel
theorem dX9_init_4 : decode cX9_init 4 = .ok (.aload_n 0, 1) := by decide +kernel
theorem dX9_init_5 : decode cX9_init 5 = .ok (.iload_n 1, 1) := by decide +kernel
theorem dX9_init_6 : decode cX9_init 6 = .ok (.putfield 9, 3) := by decide +kernel
theorem dX9_init_9 : decode cX9_init 9 = .ok (.aload_n 0, 1) := by decide +kernel
theorem dX9_init_10 : decode cX9_init 10 = .ok (.aload 5, 2) := by decide +kernel
theorem dX9_init_12 : decode cX9_init 12 = .ok (.putfield 15, 3) := by decide +kernel
theorem dX9_init_15 : decode cX9_init 15 = .ok (.aload_n 0, 1) := by decide +kernel
theorem dX9_init_16 : decode cX9_init 16 = .ok (.iload 4, 2) := by decide +kernel
theorem dX9_init_18 : decode cX9_init 18 = .ok (.ifCond .ne 7, 3) := by decide +kernel
theorem dX9_init_21 : decode cX9_init 21 = .ok (.iconst 2, 1) := by decide +kernel
theorem dX9_init_22 : decode cX9_init 22 = .ok (.goto 4, 3) := by decide +kernel
theorem dX9_init_25 : decode cX9_init 25 = .ok (.iconst 3, 1) := by decide +kernel
theorem dX9_init_26 : decode cX9_init 26 = .ok (.putfield 19, 3) := by decide +kernel
theorem dX9_init_29 : decode cX9_init 29 = .ok (.aload_n 0, 1) := by decide +kernel
theorem dX9_init_30 : decode cX9_init 30 = .ok (.bipush 32, 2) := by decide +kernel
theorem dX9_init_32 : decode cX9_init 32 = .ok (.newarray .int, 2) := by decide +kernel
theorem dX9_init_34 : decode cX9_init 34 = .ok (.putfield 22, 3) := by decide +kernel
theorem dX9_init_37 : decode cX9_init 37 = .ok (.iconst 0, 1) := by decide +kernel
theorem dX9_init_38 : decode cX9_init 38 = .ok (.istore 6, 2) := by decide +kernel
theorem dX9_init_40 : decode cX9_init 40 = .ok (.iload 6, 2) := by decide +kernel
theorem dX9_init_42 : decode cX9_init 42 = .ok (.aload_n 0, 1) := by decide +kernel
theorem dX9_init_43 : decode cX9_init 43 = .ok (.getfield 22, 3) := by decide +kernel
theorem dX9_init_46 : decode cX9_init 46 = .ok (.arraylength, 1) := by decide +kernel
theorem dX9_init_47 : decode cX9_init 47 = .ok (.if_icmp .ge 58, 3) := by decide +kernel
theorem dX9_init_50 : decode cX9_init 50 = .ok (.iload 6, 2) := by decide +kernel
theorem dX9_init_52 : decode cX9_init 52 = .ok (.iload_n 2, 1) := by decide +kernel
theorem dX9_init_53 : decode cX9_init 53 = .ok (.iand, 1) := by decide +kernel
theorem dX9_init_54 : decode cX9_init 54 = .ok (.invokestatic 26, 3) := by decide +kernel
theorem dX9_init_57 : decode cX9_init 57 = .ok (.iconst 1, 1) := by decide +kernel
theorem dX9_init_58 : decode cX9_init 58 = .ok (.ishl, 1) := by decide +kernel
theorem dX9_init_59 : decode cX9_init 59 = .ok (.iload 6, 2) := by decide +kernel
theorem dX9_init_61 : decode cX9_init 61 = .ok (.iload_n 3, 1) := by decide +kernel
theorem dX9_init_62 : decode cX9_init 62 = .ok (.iand, 1) := by decide +kernel
theorem dX9_init_63 : decode cX9_init 63 = .ok (.invokestatic 26, 3) := by decide +kernel
theorem dX9_init_66 : decode cX9_init 66 = .ok (.ior, 1) := by decide +kernel
theorem dX9_init_67 : decode cX9_init 67 = .ok (.istore 7, 2) := by decide +kernel
theorem dX9_init_69 : decode cX9_init 69 = .ok (.aload_n 0, 1) := by decide +kernel
theorem dX9_init_70 : decode cX9_init 70 = .ok (.getfield 22, 3) := by decide +kernel
theorem dX9_init_73 : decode cX9_init 73 = .ok (.iload 6, 2) := by decide +kernel
theorem dX9_init_75 : decode cX9_init 75 = .ok (.iload 4, 2) := by decide +kernel
theorem dX9_init_77 : decode cX9_init 77 = .ok (.ifCond .ne 8, 3) := by decide +kernel
theorem dX9_init_80 : decode cX9_init 80 = .ok (.iload 7, 2) := by decide +kernel
theorem dX9_init_82 : decode cX9_init 82 = .ok (.goto 16, 3) := by decide +kernel
theorem dX9_init_85 : decode cX9_init 85 = .ok (.iload 7, 2) := by decide +kernel
theorem dX9_init_87 : decode cX9_init 87 = .ok (.iconst 1, 1) := by decide +kernel
theorem dX9_init_88 : decode cX9_init 88 = .ok (.ishl, 1) := by decide +kernel
theorem dX9_init_89 : decode cX9_init 89 = .ok (.iload 6, 2) := by decide +kernel
theorem dX9_init_91 : decode cX9_init 91 = .ok (.iload 4, 2) := by decide +kernel
theorem dX9_init_93 : decode cX9_init 93 = .ok (.iand, 1) := by decide +kernel
theorem dX9_init_94 : decode cX9_init 94 = .ok (.invokestatic 26, 3) := by decide +kernel
theorem dX9_init_97 : decode cX9_init 97 = .ok (.ior, 1) := by decide +kernel
theorem dX9_init_98 : decode cX9_init 98 = .ok (.iastore, 1) := by decide +kernel
theorem dX9_init_99 : decode cX9_init 99 = .ok (.iinc 6 1, 3) := by decide +kernel
theorem dX9_init_102 : decode cX9_init 102 = .ok (.goto (-62), 3) := by decide +kernel
theorem dX9_init_105 : decode cX9_init 105 = .ok (.return_, 1) := by decide +kernel
theorem dX9_parity_0 : decode cX9_parity 0 = .ok (.iload_n 0, 1) := by decide +kernel
theorem dX9_parity_1 : decode cX9_parity 1 = .ok (.invokestatic 30, 3) := by decide +kernel
theorem dX9_parity_4 : decode cX9_parity 4 = .ok (.iconst 1, 1) := by decide +kernel
theorem dX9_parity_5 : decode cX9_parity 5 = .ok (.iand, 1) := by decide +kernel
theorem dX9_parity_6 : decode cX9_parity 6 = .ok (.ireturn, 1) := by decide +kernel
theorem dX9_states_0 : decode cX9_states 0 = .ok (.iconst 1, 1) := by decide +kernel
theorem dX9_states_1 : decode cX9_states 1 = .ok (.aload_n 0, 1) := by decide +kernel
theorem dX9_states_2 : decode cX9_states 2 = .ok (.getfield 9, 3) := by decide +kernel
theorem dX9_states_5 : decode cX9_states 5 = .ok (.ishl, 1) := by decide +kernel
theorem dX9_states_6 : decode cX9_states 6 = .ok (.ireturn, 1) := by decide +kernel
theorem dX9_stepsFor_0 : decode cX9_stepsFor 0 = .ok (.iload_n 1, 1) := by decide +kernel
theorem dX9_stepsFor_1 : decode cX9_stepsFor 1 = .ok (.ifCond .gt 7, 3) := by decide +kernel
theorem dX9_stepsFor_4 : decode cX9_stepsFor 4 = .ok (.iconst 0, 1) := by decide +kernel
theorem dX9_stepsFor_5 : decode cX9_stepsFor 5 = .ok (.goto 9, 3) := by decide +kernel
theorem dX9_stepsFor_8 : decode cX9_stepsFor 8 = .ok (.iload_n 1, 1) := by decide +kernel
theorem dX9_stepsFor_9 : decode cX9_stepsFor 9 = .ok (.aload_n 0, 1) := by decide +kernel
theorem dX9_stepsFor_10 : decode cX9_stepsFor 10 = .ok (.getfield 9, 3) := by decide +kernel
theorem dX9_stepsFor_13 : decode cX9_stepsFor 13 = .ok (.iadd, 1) := by decide +kernel
theorem dX9_stepsFor_14 : decode cX9_stepsFor 14 = .ok (.ireturn, 1) := by decide +kernel
theorem dX9_kind_0 : decode cX9_kind 0 = .ok (.iconst 3, 1) := by decide +kernel
theorem dX9_kind_1 : decode cX9_kind 1 = .ok (.ireturn, 1) := by decide +kernel
theorem dX9_sizeOf_0 : decode cX9_sizeOf 0 = .ok (.aload_n 0, 1) := by decide +kernel
theorem dX9_sizeOf_1 : decode cX9_sizeOf 1 = .ok (.iload_n 1, 1) := by decide +kernel
theorem dX9_sizeOf_2 : decode cX9_sizeOf 2 = .ok (.invokevirtual 35, 3) := by decide +kernel
theorem dX9_sizeOf_5 : decode cX9_sizeOf 5 = .ok (.aload_n 0, 1) := by decide +kernel
theorem dX9_sizeOf_6 : decode cX9_sizeOf 6 = .ok (.getfield 19, 3) := by decide +kernel
theorem dX9_sizeOf_9 : decode cX9_sizeOf 9 = .ok (.imul, 1) := by decide +kernel
theorem dX9_sizeOf_10 : decode cX9_sizeOf 10 = .ok (.ireturn, 1) := by decide +kernel
theorem dX9_code_0 : decode cX9_code 0 = .ok (.aload_n 0, 1) := by decide +kernel
theorem dX9_code_1 : decode cX9_code 1 = .ok (.aload_n 1, 1) := by decide +kernel
theorem dX9_code_2 : decode cX9_code 2 = .ok (.invokevirtual 38, 3) := by decide +kernel
theorem dX9_code_5 : decode cX9_code 5 = .ok (.invokevirtual 35, 3) := by decide +kernel
theorem dX9_code_8 : decode cX9_code 8 = .ok (.istore_n 3, 1) := by decide +kernel
theorem dX9_code_9 : decode cX9_code 9 = .ok (.iconst 0, 1) := by decide +kernel
theorem dX9_code_10 : decode cX9_code 10 = .ok (.istore 4, 2) := by decide +kernel
theorem dX9_code_12 : decode cX9_code 12 = .ok (.iconst 0, 1) := by decide +kernel
theorem dX9_code_13 : decode cX9_code 13 = .ok (.istore 5, 2) := by decide +kernel
theorem dX9_code_15 : decode cX9_code 15 = .ok (.iload 5, 2) := by decide +kernel
theorem dX9_code_17 : decode cX9_code 17 = .ok (.iload_n 3, 1) := by decide +kernel
theorem dX9_code_18 : decode cX9_code 18 = .ok (.if_icmp .ge 56, 3) := by decide +kernel
theorem dX9_code_21 : decode cX9_code 21 = .ok (.aload_n 1, 1) := by decide +kernel
theorem dX9_code_22 : decode cX9_code 22 = .ok (.iload 5, 2) := by decide +kernel
theorem dX9_code_24 : decode cX9_code 24 = .ok (.iconst 1, 1) := by decide +kernel
theorem dX9_code_25 : decode cX9_code 25 = .ok (.invokevirtual 44, 3) := by decide +kernel
theorem dX9_code_28 : decode cX9_code 28 = .ok (.aload_n 0, 1) := by decide +kernel
theorem dX9_code_29 : decode cX9_code 29 = .ok (.getfield 9, 3) := by decide +kernel
theorem dX9_code_32 : decode cX9_code 32 = .ok (.ishl, 1) := by decide +kernel
theorem dX9_code_33 : decode cX9_code 33 = .ok (.iload 4, 2) := by decide +kernel
theorem dX9_code_35 : decode cX9_code 35 = .ok (.ior, 1) := by decide +kernel
theorem dX9_code_36 : decode cX9_code 36 = .ok (.istore 6, 2) := by decide +kernel
theorem dX9_code_38 : decode cX9_code 38 = .ok (.aload_n 2, 1) := by decide +kernel
theorem dX9_code_39 : decode cX9_code 39 = .ok (.iload 5, 2) := by decide +kernel
theorem dX9_code_41 : decode cX9_code 41 = .ok (.aload_n 0, 1) := by decide +kernel
theorem dX9_code_42 : decode cX9_code 42 = .ok (.getfield 19, 3) := by decide +kernel
theorem dX9_code_45 : decode cX9_code 45 = .ok (.imul, 1) := by decide +kernel
theorem dX9_code_46 : decode cX9_code 46 = .ok (.aload_n 0, 1) := by decide +kernel
theorem dX9_code_47 : decode cX9_code 47 = .ok (.getfield 22, 3) := by decide +kernel
theorem dX9_code_50 : decode cX9_code 50 = .ok (.iload 6, 2) := by decide +kernel
theorem dX9_code_52 : decode cX9_code 52 = .ok (.invokestatic 48, 3) := by decide +kernel
theorem dX9_code_55 : decode cX9_code 55 = .ok (.aload_n 0, 1) := by decide +kernel
theorem dX9_code_56 : decode cX9_code 56 = .ok (.getfield 19, 3) := by decide +kernel
theorem dX9_code_59 : decode cX9_code 59 = .ok (.invokevirtual 52, 3) := by decide +kernel
theorem dX9_code_62 : decode cX9_code 62 = .ok (.iload 6, 2) := by decide +kernel
theorem dX9_code_64 : decode cX9_code 64 = .ok (.iconst 1, 1) := by decide +kernel
theorem dX9_code_65 : decode cX9_code 65 = .ok (.iushr, 1) := by decide +kernel
theorem dX9_code_66 : decode cX9_code 66 = .ok (.istore 4, 2) := by decide +kernel
theorem dX9_code_68 : decode cX9_code 68 = .ok (.iinc 5 1, 3) := by decide +kernel
theorem dX9_code_71 : decode cX9_code 71 = .ok (.goto (-56), 3) := by decide +kernel
theorem dX9_code_74 : decode cX9_code 74 = .ok (.return_, 1) := by decide +kernel
theorem dX9_decode_0 : decode cX9_decode 0 = .ok (.aload_n 0, 1) := by decide +kernel
theorem dX9_decode_1 : decode cX9_decode 1 = .ok (.aload_n 2, 1) := by decide +kernel
theorem dX9_decode_2 : decode cX9_decode 2 = .ok (.invokevirtual 38, 3) := by decide +kernel
theorem dX9_decode_5 : decode cX9_decode 5 = .ok (.invokevirtual 35, 3) := by decide +kernel
theorem dX9_decode_8 : decode cX9_decode 8 = .ok (.istore_n 3, 1) := by decide +kernel
theorem dX9_decode_9 : decode cX9_decode 9 = .ok (.aload_n 0, 1) := by decide +kernel
theorem dX9_decode_10 : decode cX9_decode 10 = .ok (.getfield 15, 3) := by decide +kernel
theorem dX9_decode_13 : decode cX9_decode 13 = .ok (.iconst 0, 1) := by decide +kernel
theorem dX9_decode_14 : decode cX9_decode 14 = .ok (.iconst 0, 1) := by decide +kernel
theorem dX9_decode_15 : decode cX9_decode 15 = .ok (.invokevirtual 56, 3) := by decide +kernel
theorem dX9_decode_18 : decode cX9_decode 18 = .ok (.iconst 0, 1) := by decide +kernel
theorem dX9_decode_19 : decode cX9_decode 19 = .ok (.istore 4, 2) := by decide +kernel
theorem dX9_decode_21 : decode cX9_decode 21 = .ok (.iload 4, 2) := by decide +kernel
theorem dX9_decode_23 : decode cX9_decode 23 = .ok (.iload_n 3, 1) := by decide +kernel
theorem dX9_decode_24 : decode cX9_decode 24 = .ok (.if_icmp .ge 53, 3) := by decide +kernel
theorem dX9_decode_27 : decode cX9_decode 27 = .ok (.aload_n 1, 1) := by decide +kernel
theorem dX9_decode_28 : decode cX9_decode 28 = .ok (.iload 4, 2) := by decide +kernel
theorem dX9_decode_30 : decode cX9_decode 30 = .ok (.aload_n 0, 1) := by decide +kernel
theorem dX9_decode_31 : decode cX9_decode 31 = .ok (.getfield 19, 3) := by decide +kernel
theorem dX9_decode_34 : decode cX9_decode 34 = .ok (.imul, 1) := by decide +kernel
theorem dX9_decode_35 : decode cX9_decode 35 = .ok (.aload_n 0, 1) := by decide +kernel
theorem dX9_decode_36 : decode cX9_decode 36 = .ok (.getfield 19, 3) := by decide +kernel
theorem dX9_decode_39 : decode cX9_decode 39 = .ok (.invokevirtual 44, 3) := by decide +kernel
theorem dX9_decode_42 : decode cX9_decode 42 = .ok (.istore 5, 2) := by decide +kernel
theorem dX9_decode_44 : decode cX9_decode 44 = .ok (.aload_n 1, 1) := by decide +kernel
theorem dX9_decode_45 : decode cX9_decode 45 = .ok (.iload 4, 2) := by decide +kernel
theorem dX9_decode_47 : decode cX9_decode 47 = .ok (.aload_n 0, 1) := by decide +kernel
theorem dX9_decode_48 : decode cX9_decode 48 = .ok (.getfield 19, 3) := by decide +kernel
theorem dX9_decode_51 : decode cX9_decode 51 = .ok (.imul, 1) := by decide +kernel
theorem dX9_decode_52 : decode cX9_decode 52 = .ok (.aload_n 0, 1) := by decide +kernel
theorem dX9_decode_53 : decode cX9_decode 53 = .ok (.getfield 19, 3) := by decide +kernel
theorem dX9_decode_56 : decode cX9_decode 56 = .ok (.invokevirtual 62, 3) := by decide +kernel
theorem dX9_decode_59 : decode cX9_decode 59 = .ok (.istore 6, 2) := by decide +kernel
theorem dX9_decode_61 : decode cX9_decode 61 = .ok (.aload_n 0, 1) := by decide +kernel
theorem dX9_decode_62 : decode cX9_decode 62 = .ok (.iload 4, 2) := by decide +kernel
theorem dX9_decode_64 : decode cX9_decode 64 = .ok (.iload 5, 2) := by decide +kernel
theorem dX9_decode_66 : decode cX9_decode 66 = .ok (.iload 6, 2) := by decide +kernel
theorem dX9_decode_68 : decode cX9_decode 68 = .ok (.invokevirtual 65, 3) := by decide +kernel
theorem dX9_decode_71 : decode cX9_decode 71 = .ok (.iinc 4 1, 3) := by decide +kernel
theorem dX9_decode_74 : decode cX9_decode 74 = .ok (.goto (-53), 3) := by decide +kernel
theorem dX9_decode_77 : decode cX9_decode 77 = .ok (.iconst 0, 1) := by decide +kernel
theorem dX9_decode_78 : decode cX9_decode 78 = .ok (.istore 4, 2) := by decide +kernel
theorem dX9_decode_80 : decode cX9_decode 80 = .ok (.iload_n 3, 1) := by decide +kernel
theorem dX9_decode_81 : decode cX9_decode 81 = .ok (.iconst 1, 1) := by decide +kernel
theorem dX9_decode_82 : decode cX9_decode 82 = .ok (.isub, 1) := by decide +kernel
theorem dX9_decode_83 : decode cX9_decode 83 = .ok (.istore 5, 2) := by decide +kernel
theorem dX9_decode_85 : decode cX9_decode 85 = .ok (.iload 5, 2) := by decide +kernel
theorem dX9_decode_87 : decode cX9_decode 87 = .ok (.ifCond .lt 44, 3) := by decide +kernel
theorem dX9_decode_90 : decode cX9_decode 90 = .ok (.aload_n 2, 1) := by decide +kernel
theorem dX9_decode_91 : decode cX9_decode 91 = .ok (.iload 5, 2) := by decide +kernel
theorem dX9_decode_93 : decode cX9_decode 93 = .ok (.iload 4, 2) := by decide +kernel
theorem dX9_decode_95 : decode cX9_decode 95 = .ok (.aload_n 0, 1) := by decide +kernel
theorem dX9_decode_96 : decode cX9_decode 96 = .ok (.getfield 9, 3) := by decide +kernel
theorem dX9_decode_99 : decode cX9_decode 99 = .ok (.iconst 1, 1) := by decide +kernel
theorem dX9_decode_100 : decode cX9_decode 100 = .ok (.isub, 1) := by decide +kernel
theorem dX9_decode_101 : decode cX9_decode 101 = .ok (.iushr, 1) := by decide +kernel
theorem dX9_decode_102 : decode cX9_decode 102 = .ok (.invokevirtual 68, 3) := by decide +kernel
theorem dX9_decode_105 : decode cX9_decode 105 = .ok (.aload_n 0, 1) := by decide +kernel
theorem dX9_decode_106 : decode cX9_decode 106 = .ok (.iload 4, 2) := by decide +kernel
theorem dX9_decode_108 : decode cX9_decode 108 = .ok (.invokevirtual 71, 3) := by decide +kernel
theorem dX9_decode_111 : decode cX9_decode 111 = .ok (.aload_n 0, 1) := by decide +kernel
theorem dX9_decode_112 : decode cX9_decode 112 = .ok (.getfield 15, 3) := by decide +kernel
theorem dX9_decode_115 : decode cX9_decode 115 = .ok (.iload 5, 2) := by decide +kernel
theorem dX9_decode_117 : decode cX9_decode 117 = .ok (.iload 4, 2) := by decide +kernel
theorem dX9_decode_119 : decode cX9_decode 119 = .ok (.invokevirtual 74, 3) := by decide +kernel
theorem dX9_decode_122 : decode cX9_decode 122 = .ok (.iadd, 1) := by decide +kernel
theorem dX9_decode_123 : decode cX9_decode 123 = .ok (.istore 4, 2) := by decide +kernel
theorem dX9_decode_125 : decode cX9_decode 125 = .ok (.iinc 5 (-1), 3) := by decide +kernel
theorem dX9_decode_128 : decode cX9_decode 128 = .ok (.goto (-43), 3) := by decide +kernel
theorem dX9_decode_131 : decode cX9_decode 131 = .ok (.return_, 1) := by decide +kernel
theorem dX9_aheadOf_0 : decode cX9_aheadOf 0 = .ok (.iload_n 1, 1) := by decide +kernel
theorem dX9_aheadOf_1 : decode cX9_aheadOf 1 = .ok (.iconst 1, 1) := by decide +kernel
theorem dX9_aheadOf_2 : decode cX9_aheadOf 2 = .ok (.ishl, 1) := by decide +kernel
theorem dX9_aheadOf_3 : decode cX9_aheadOf 3 = .ok (.aload_n 0, 1) := by decide +kernel
theorem dX9_aheadOf_4 : decode cX9_aheadOf 4 = .ok (.invokevirtual 77, 3) := by decide +kernel
theorem dX9_aheadOf_7 : decode cX9_aheadOf 7 = .ok (.iconst 1, 1) := by decide +kernel
theorem dX9_aheadOf_8 : decode cX9_aheadOf 8 = .ok (.isub, 1) := by decide +kernel
theorem dX9_aheadOf_9 : decode cX9_aheadOf 9 = .ok (.iand, 1) := by decide +kernel
theorem dX9_aheadOf_10 : decode cX9_aheadOf 10 = .ok (.ireturn, 1) := by decide +kernel
theorem dX9_advance_0 : decode cX9_advance 0 = .ok (.iconst 0, 1) := by decide +kernel
theorem dX9_advance_1 : decode cX9_advance 1 = .ok (.istore 4, 2) := by decide +kernel
theorem dX9_advance_3 : decode cX9_advance 3 = .ok (.iconst 0, 1) := by decide +kernel
theorem dX9_advance_4 : decode cX9_advance 4 = .ok (.istore 5, 2) := by decide +kernel
theorem dX9_advance_6 : decode cX9_advance 6 = .ok (.iload 5, 2) := by decide +kernel
theorem dX9_advance_8 : decode cX9_advance 8 = .ok (.aload_n 0, 1) := by decide +kernel
theorem dX9_advance_9 : decode cX9_advance 9 = .ok (.invokevirtual 77, 3) := by decide +kernel
theorem dX9_advance_12 : decode cX9_advance 12 = .ok (.if_icmp .ge 112, 3) := by decide +kernel
theorem dX9_advance_15 : decode cX9_advance 15 = .ok (.aload_n 0, 1) := by decide +kernel
theorem dX9_advance_16 : decode cX9_advance 16 = .ok (.iload 5, 2) := by decide +kernel
theorem dX9_advance_18 : decode cX9_advance 18 = .ok (.invokevirtual 71, 3) := by decide +kernel
theorem dX9_advance_21 : decode cX9_advance 21 = .ok (.istore 6, 2) := by decide +kernel
theorem dX9_advance_23 : decode cX9_advance 23 = .ok (.iload 5, 2) := by decide +kernel
theorem dX9_advance_25 : decode cX9_advance 25 = .ok (.aload_n 0, 1) := by decide +kernel
theorem dX9_advance_26 : decode cX9_advance 26 = .ok (.getfield 9, 3) := by decide +kernel
theorem dX9_advance_29 : decode cX9_advance 29 = .ok (.iconst 1, 1) := by decide +kernel
theorem dX9_advance_30 : decode cX9_advance 30 = .ok (.isub, 1) := by decide +kernel
theorem dX9_advance_31 : decode cX9_advance 31 = .ok (.iushr, 1) := by decide +kernel
theorem dX9_advance_32 : decode cX9_advance 32 = .ok (.aload_n 0, 1) := by decide +kernel
theorem dX9_advance_33 : decode cX9_advance 33 = .ok (.getfield 9, 3) := by decide +kernel
theorem dX9_advance_36 : decode cX9_advance 36 = .ok (.ishl, 1) := by decide +kernel
theorem dX9_advance_37 : decode cX9_advance 37 = .ok (.iload 6, 2) := by decide +kernel
theorem dX9_advance_39 : decode cX9_advance 39 = .ok (.ior, 1) := by decide +kernel
theorem dX9_advance_40 : decode cX9_advance 40 = .ok (.istore 7, 2) := by decide +kernel
theorem dX9_advance_42 : decode cX9_advance 42 = .ok (.aload_n 0, 1) := by decide +kernel
theorem dX9_advance_43 : decode cX9_advance 43 = .ok (.getfield 15, 3) := by decide +kernel
theorem dX9_advance_46 : decode cX9_advance 46 = .ok (.iload 6, 2) := by decide +kernel
theorem dX9_advance_48 : decode cX9_advance 48 = .ok (.invokevirtual 80, 3) := by decide +kernel
theorem dX9_advance_51 : decode cX9_advance 51 = .ok (.aload_n 0, 1) := by decide +kernel
theorem dX9_advance_52 : decode cX9_advance 52 = .ok (.iload 7, 2) := by decide +kernel
theorem dX9_advance_54 : decode cX9_advance 54 = .ok (.iload_n 2, 1) := by decide +kernel
theorem dX9_advance_55 : decode cX9_advance 55 = .ok (.iload_n 3, 1) := by decide +kernel
theorem dX9_advance_56 : decode cX9_advance 56 = .ok (.invokevirtual 83, 3) := by decide +kernel
theorem dX9_advance_59 : decode cX9_advance 59 = .ok (.iadd, 1) := by decide +kernel
theorem dX9_advance_60 : decode cX9_advance 60 = .ok (.istore 8, 2) := by decide +kernel
theorem dX9_advance_62 : decode cX9_advance 62 = .ok (.aload_n 0, 1) := by decide +kernel
theorem dX9_advance_63 : decode cX9_advance 63 = .ok (.getfield 15, 3) := by decide +kernel
theorem dX9_advance_66 : decode cX9_advance 66 = .ok (.iload 6, 2) := by decide +kernel
theorem dX9_advance_68 : decode cX9_advance 68 = .ok (.iconst 1, 1) := by decide +kernel
theorem dX9_advance_69 : decode cX9_advance 69 = .ok (.iadd, 1) := by decide +kernel
theorem dX9_advance_70 : decode cX9_advance 70 = .ok (.invokevirtual 80, 3) := by decide +kernel
theorem dX9_advance_73 : decode cX9_advance 73 = .ok (.aload_n 0, 1) := by decide +kernel
theorem dX9_advance_74 : decode cX9_advance 74 = .ok (.iload 7, 2) := by decide +kernel
theorem dX9_advance_76 : decode cX9_advance 76 = .ok (.iconst 1, 1) := by decide +kernel
theorem dX9_advance_77 : decode cX9_advance 77 = .ok (.iadd, 1) := by decide +kernel
theorem dX9_advance_78 : decode cX9_advance 78 = .ok (.iload_n 2, 1) := by decide +kernel
theorem dX9_advance_79 : decode cX9_advance 79 = .ok (.iload_n 3, 1) := by decide +kernel
theorem dX9_advance_80 : decode cX9_advance 80 = .ok (.invokevirtual 83, 3) := by decide +kernel
theorem dX9_advance_83 : decode cX9_advance 83 = .ok (.iadd, 1) := by decide +kernel
theorem dX9_advance_84 : decode cX9_advance 84 = .ok (.istore 9, 2) := by decide +kernel
theorem dX9_advance_86 : decode cX9_advance 86 = .ok (.iload 9, 2) := by decide +kernel
theorem dX9_advance_88 : decode cX9_advance 88 = .ok (.iload 8, 2) := by decide +kernel
theorem dX9_advance_90 : decode cX9_advance 90 = .ok (.if_icmp .ge 12, 3) := by decide +kernel
theorem dX9_advance_93 : decode cX9_advance 93 = .ok (.iload 4, 2) := by decide +kernel
theorem dX9_advance_95 : decode cX9_advance 95 = .ok (.iconst 1, 1) := by decide +kernel
theorem dX9_advance_96 : decode cX9_advance 96 = .ok (.iload 5, 2) := by decide +kernel
theorem dX9_advance_98 : decode cX9_advance 98 = .ok (.ishl, 1) := by decide +kernel
theorem dX9_advance_99 : decode cX9_advance 99 = .ok (.ior, 1) := by decide +kernel
theorem dX9_advance_100 : decode cX9_advance 100 = .ok (.istore 4, 2) := by decide +kernel
theorem dX9_advance_102 : decode cX9_advance 102 = .ok (.aload_n 0, 1) := by decide +kernel
theorem dX9_advance_103 : decode cX9_advance 103 = .ok (.getfield 15, 3) := by decide +kernel
theorem dX9_advance_106 : decode cX9_advance 106 = .ok (.iload 5, 2) := by decide +kernel
theorem dX9_advance_108 : decode cX9_advance 108 = .ok (.iload 8, 2) := by decide +kernel
theorem dX9_advance_110 : decode cX9_advance 110 = .ok (.iload 9, 2) := by decide +kernel
theorem dX9_advance_112 : decode cX9_advance 112 = .ok (.invokestatic 86, 3) := by decide +kernel
theorem dX9_advance_115 : decode cX9_advance 115 = .ok (.invokevirtual 91, 3) := by decide +kernel
theorem dX9_advance_118 : decode cX9_advance 118 = .ok (.iinc 5 1, 3) := by decide +kernel
theorem dX9_advance_121 : decode cX9_advance 121 = .ok (.goto (-115), 3) := by decide +kernel
theorem dX9_advance_124 : decode cX9_advance 124 = .ok (.aload_n 0, 1) := by decide +kernel
theorem dX9_advance_125 : decode cX9_advance 125 = .ok (.getfield 15, 3) := by decide +kernel
theorem dX9_advance_128 : decode cX9_advance 128 = .ok (.iload_n 1, 1) := by decide +kernel
theorem dX9_advance_129 : decode cX9_advance 129 = .ok (.aload_n 0, 1) := by decide +kernel
theorem dX9_advance_130 : decode cX9_advance 130 = .ok (.invokevirtual 77, 3) := by decide +kernel
theorem dX9_advance_133 : decode cX9_advance 133 = .ok (.iload 4, 2) := by decide +kernel
theorem dX9_advance_135 : decode cX9_advance 135 = .ok (.invokevirtual 94, 3) := by decide +kernel
theorem dX9_advance_138 : decode cX9_advance 138 = .ok (.return_, 1) := by decide +kernel
theorem dX9_farnessOf_0 : decode cX9_farnessOf 0 = .ok (.aload_n 0, 1) := by decide +kernel
theorem dX9_farnessOf_1 : decode cX9_farnessOf 1 = .ok (.getfield 22, 3) := by decide +kernel
theorem dX9_farnessOf_4 : decode cX9_farnessOf 4 = .ok (.iload_n 1, 1) := by decide +kernel
theorem dX9_farnessOf_5 : decode cX9_farnessOf 5 = .ok (.invokestatic 48, 3) := by decide +kernel
theorem dX9_farnessOf_8 : decode cX9_farnessOf 8 = .ok (.iload_n 2, 1) := by decide +kernel
theorem dX9_farnessOf_9 : decode cX9_farnessOf 9 = .ok (.ixor, 1) := by decide +kernel
theorem dX9_farnessOf_10 : decode cX9_farnessOf 10 = .ok (.iload_n 3, 1) := by decide +kernel
theorem dX9_farnessOf_11 : decode cX9_farnessOf 11 = .ok (.iand, 1) := by decide +kernel
theorem dX9_farnessOf_12 : decode cX9_farnessOf 12 = .ok (.invokestatic 30, 3) := by decide +kernel
theorem dX9_farnessOf_15 : decode cX9_farnessOf 15 = .ok (.ireturn, 1) := by decide +kernel
theorem dX9_apart_0 : decode cX9_apart 0 = .ok (.iconst 1, 1) := by decide +kernel
theorem dX9_apart_1 : decode cX9_apart 1 = .ok (.aload_n 0, 1) := by decide +kernel
theorem dX9_apart_2 : decode cX9_apart 2 = .ok (.getfield 19, 3) := by decide +kernel
theorem dX9_apart_5 : decode cX9_apart 5 = .ok (.ishl, 1) := by decide +kernel
theorem dX9_apart_6 : decode cX9_apart 6 = .ok (.iconst 1, 1) := by decide +kernel
theorem dX9_apart_7 : decode cX9_apart 7 = .ok (.isub, 1) := by decide +kernel
theorem dX9_apart_8 : decode cX9_apart 8 = .ok (.istore_n 1, 1) := by decide +kernel
theorem dX9_apart_9 : decode cX9_apart 9 = .ok (.aload_n 0, 1) := by decide +kernel
theorem dX9_apart_10 : decode cX9_apart 10 = .ok (.getfield 15, 3) := by decide +kernel
theorem dX9_apart_13 : decode cX9_apart 13 = .ok (.aload_n 0, 1) := by decide +kernel
theorem dX9_apart_14 : decode cX9_apart 14 = .ok (.invokevirtual 77, 3) := by decide +kernel
theorem dX9_apart_17 : decode cX9_apart 17 = .ok (.iconst 2, 1) := by decide +kernel
theorem dX9_apart_18 : decode cX9_apart 18 = .ok (.idiv, 1) := by decide +kernel
theorem dX9_apart_19 : decode cX9_apart 19 = .ok (.aload_n 0, 1) := by decide +kernel
theorem dX9_apart_20 : decode cX9_apart 20 = .ok (.aload_n 0, 1) := by decide +kernel
theorem dX9_apart_21 : decode cX9_apart 21 = .ok (.invokevirtual 77, 3) := by decide +kernel
theorem dX9_apart_24 : decode cX9_apart 24 = .ok (.iconst 0, 1) := by decide +kernel
theorem dX9_apart_25 : decode cX9_apart 25 = .ok (.iload_n 1, 1) := by decide +kernel
theorem dX9_apart_26 : decode cX9_apart 26 = .ok (.invokevirtual 83, 3) := by decide +kernel
theorem dX9_apart_29 : decode cX9_apart 29 = .ok (.invokevirtual 56, 3) := by decide +kernel
theorem dX9_apart_32 : decode cX9_apart 32 = .ok (.ldc 97, 2) := by decide +kernel
theorem dX9_apart_34 : decode cX9_apart 34 = .ok (.istore_n 2, 1) := by decide +kernel
theorem dX9_apart_35 : decode cX9_apart 35 = .ok (.iconst 2, 1) := by decide +kernel
theorem dX9_apart_36 : decode cX9_apart 36 = .ok (.istore_n 3, 1) := by decide +kernel
theorem dX9_apart_37 : decode cX9_apart 37 = .ok (.iload_n 3, 1) := by decide +kernel
theorem dX9_apart_38 : decode cX9_apart 38 = .ok (.bipush 20, 2) := by decide +kernel
theorem dX9_apart_40 : decode cX9_apart 40 = .ok (.if_icmp .gt 37, 3) := by decide +kernel
theorem dX9_apart_43 : decode cX9_apart 43 = .ok (.aload_n 0, 1) := by decide +kernel
theorem dX9_apart_44 : decode cX9_apart 44 = .ok (.iconst 0, 1) := by decide +kernel
theorem dX9_apart_45 : decode cX9_apart 45 = .ok (.iconst 0, 1) := by decide +kernel
theorem dX9_apart_46 : decode cX9_apart 46 = .ok (.iload_n 1, 1) := by decide +kernel
theorem dX9_apart_47 : decode cX9_apart 47 = .ok (.invokevirtual 65, 3) := by decide +kernel
theorem dX9_apart_50 : decode cX9_apart 50 = .ok (.iload_n 2, 1) := by decide +kernel
theorem dX9_apart_51 : decode cX9_apart 51 = .ok (.aload_n 0, 1) := by decide +kernel
theorem dX9_apart_52 : decode cX9_apart 52 = .ok (.getfield 15, 3) := by decide +kernel
theorem dX9_apart_55 : decode cX9_apart 55 = .ok (.iconst 0, 1) := by decide +kernel
theorem dX9_apart_56 : decode cX9_apart 56 = .ok (.invokevirtual 80, 3) := by decide +kernel
theorem dX9_apart_59 : decode cX9_apart 59 = .ok (.invokestatic 86, 3) := by decide +kernel
theorem dX9_apart_62 : decode cX9_apart 62 = .ok (.istore_n 2, 1) := by decide +kernel
theorem dX9_apart_63 : decode cX9_apart 63 = .ok (.aload_n 0, 1) := by decide +kernel
theorem dX9_apart_64 : decode cX9_apart 64 = .ok (.getfield 15, 3) := by decide +kernel
theorem dX9_apart_67 : decode cX9_apart 67 = .ok (.iconst 0, 1) := by decide +kernel
theorem dX9_apart_68 : decode cX9_apart 68 = .ok (.invokevirtual 98, 3) := by decide +kernel
theorem dX9_apart_71 : decode cX9_apart 71 = .ok (.iinc 3 1, 3) := by decide +kernel
theorem dX9_apart_74 : decode cX9_apart 74 = .ok (.goto (-37), 3) := by decide +kernel
theorem dX9_apart_77 : decode cX9_apart 77 = .ok (.iload_n 2, 1) := by decide +kernel
theorem dX9_apart_78 : decode cX9_apart 78 = .ok (.ireturn, 1) := by decide +kernel
set_option maxRecDepth 20000 in
theorem ggX10_init_X8_init : GoodIn wsX10_init wsX8_init := goodIn_r _ [5, 6, 7, 8] (by decide +kernel) (by decide +kernel)
set_option maxRecDepth 20000 in
theorem gX10_init_X8_init_n3 : GoodIn wsX10_init (wsX8_init) := ggX10_init_X8_init
set_option maxRecDepth 20000 in
theorem ggX10_sizeOf_X11_blocksOf : GoodIn wsX10_sizeOf wsX11_blocksOf := goodIn_r _ [5] (by decide +kernel) (by decide +kernel)
set_option maxRecDepth 20000 in
theorem gX10_sizeOf_X11_blocksOf_n18 : GoodIn wsX10_sizeOf (wsX11_blocksOf) := ggX10_sizeOf_X11_blocksOf
set_option maxRecDepth 20000 in
theorem ggX10_code_X7_size : GoodIn wsX10_code wsX7_size := goodIn_r _ [5, 6, 27, 28] (by decide +kernel) (by decide +kernel)
set_option maxRecDepth 20000 in
theorem gX10_code_X7_size : GoodIn wsX10_code (wsV RX10 22 RX7 yX7_size wsX7_size) := goodIn_app (goodIn_of _ (by decide +kernel)) ggX10_code_X7_size
set_option maxRecDepth 20000 in
theorem ggX10_code_X10_placeBefore : GoodIn wsX10_code wsX10_placeBefore := goodIn_r _ [11, 12, 13, 29, 30] (by decide +kernel) (by decide +kernel)
set_option maxRecDepth 20000 in
theorem gX10_code_X10_placeBefore : GoodIn wsX10_code (wsV RX10 28 RX10 yX10_placeBefore wsX10_placeBefore) := goodIn_app (goodIn_of _ (by decide +kernel)) ggX10_code_X10_placeBefore
set_option maxRecDepth 20000 in
theorem ggX10_code_X7_numberAt : GoodIn wsX10_code wsX7_numberAt := goodIn_r _ [17, 18, 19, 20, 4, 21, 6, 22, 27, 28] (by decide +kernel) (by decide +kernel)
set_option maxRecDepth 20000 in
theorem gX10_code_X7_numberAt : GoodIn wsX10_code (wsV RX10 32 RX7 yX7_numberAt wsX7_numberAt) := goodIn_app (goodIn_of _ (by decide +kernel)) ggX10_code_X7_numberAt
set_option maxRecDepth 20000 in
theorem ggX10_code_X7_put : GoodIn wsX10_code wsX7_put := goodIn_r _ [26, 6, 22, 27, 28] (by decide +kernel) (by decide +kernel)
set_option maxRecDepth 20000 in
theorem gX10_code_X7_put : GoodIn wsX10_code (wsV RX10 35 RX7 yX7_put wsX7_put) := goodIn_app (goodIn_of _ (by decide +kernel)) ggX10_code_X7_put
set_option maxRecDepth 20000 in
theorem ggX10_decode_X7_size : GoodIn wsX10_decode wsX7_size := goodIn_r _ [5, 6, 23, 24] (by decide +kernel) (by decide +kernel)
set_option maxRecDepth 20000 in
theorem gX10_decode_X7_size : GoodIn wsX10_decode (wsV RX10 22 RX7 yX7_size wsX7_size) := goodIn_app (goodIn_of _ (by decide +kernel)) ggX10_decode_X7_size
set_option maxRecDepth 20000 in
theorem ggX10_decode_X10_placeBefore : GoodIn wsX10_decode wsX10_placeBefore := goodIn_r _ [11, 12, 13, 25, 26] (by decide +kernel) (by decide +kernel)
set_option maxRecDepth 20000 in
theorem gX10_decode_X10_placeBefore : GoodIn wsX10_decode (wsV RX10 28 RX10 yX10_placeBefore wsX10_placeBefore) := goodIn_app (goodIn_of _ (by decide +kernel)) ggX10_decode_X10_placeBefore
set_option maxRecDepth 20000 in
theorem ggX10_decode_X7_get : GoodIn wsX10_decode wsX7_get := goodIn_r _ [17, 6, 18, 23, 24] (by decide +kernel) (by decide +kernel)
set_option maxRecDepth 20000 in
theorem gX10_decode_X7_get : GoodIn wsX10_decode (wsV RX10 39 RX7 yX7_get wsX7_get) := goodIn_app (goodIn_of _ (by decide +kernel)) ggX10_decode_X7_get
set_option maxRecDepth 20000 in
theorem ggX10_decode_X7_put : GoodIn wsX10_decode wsX7_put := goodIn_r _ [22, 6, 18, 23, 24] (by decide +kernel) (by decide +kernel)
set_option maxRecDepth 20000 in
theorem gX10_decode_X7_put : GoodIn wsX10_decode (wsV RX10 35 RX7 yX7_put wsX7_put) := goodIn_app (goodIn_of _ (by decide +kernel)) ggX10_decode_X7_put
theorem dX10_init_0 : decode cX10_init 0 = .ok (.aload_n 0, 1) := by decide +kernel
theorem dX10_init_1 : decode cX10_init 1 = .ok (.invokespecial 3, 3) := by decide +kernel
theorem dX10_init_4 : decode cX10_init 4 = .ok (.aload_n 0, 1) := by decide +kernel
theorem dX10_init_5 : decode cX10_init 5 = .ok (.iload_n 1, 1) := by decide +kernel
theorem dX10_init_6 : decode cX10_init 6 = .ok (.putfield 9, 3) := by decide +kernel
theorem dX10_init_9 : decode cX10_init 9 = .ok (.aload_n 0, 1) := by decide +kernel
theorem dX10_init_10 : decode cX10_init 10 = .ok (.iload_n 2, 1) := by decide +kernel
theorem dX10_init_11 : decode cX10_init 11 = .ok (.putfield 15, 3) := by decide +kernel
theorem dX10_init_14 : decode cX10_init 14 = .ok (.return_, 1) := by decide +kernel
theorem dX10_kind_0 : decode cX10_kind 0 = .ok (.iconst 4, 1) := by decide +kernel
theorem dX10_kind_1 : decode cX10_kind 1 = .ok (.ireturn, 1) := by decide +kernel
theorem dX10_sizeOf_0 : decode cX10_sizeOf 0 = .ok (.iload_n 1, 1) := by decide +kernel
theorem dX10_sizeOf_1 : decode cX10_sizeOf 1 = .ok (.aload_n 0, 1) := by decide +kernel
theorem dX10_sizeOf_2 : decode cX10_sizeOf 2 = .ok (.getfield 9, 3) := by decide +kernel
theorem dX10_sizeOf_5 : decode cX10_sizeOf 5 = .ok (.aload_n 0, 1) := by decide +kernel
theorem dX10_sizeOf_6 : decode cX10_sizeOf 6 = .ok (.getfield 15, 3) := by decide +kernel
theorem dX10_sizeOf_9 : decode cX10_sizeOf 9 = .ok (.imul, 1) := by decide +kernel
theorem dX10_sizeOf_10 : decode cX10_sizeOf 10 = .ok (.invokestatic 18, 3) := by decide +kernel
theorem dX10_sizeOf_13 : decode cX10_sizeOf 13 = .ok (.aload_n 0, 1) := by decide +kernel
theorem dX10_sizeOf_14 : decode cX10_sizeOf 14 = .ok (.getfield 9, 3) := by decide +kernel
theorem dX10_sizeOf_17 : decode cX10_sizeOf 17 = .ok (.imul, 1) := by decide +kernel
theorem dX10_sizeOf_18 : decode cX10_sizeOf 18 = .ok (.aload_n 0, 1) := by decide +kernel
theorem dX10_sizeOf_19 : decode cX10_sizeOf 19 = .ok (.getfield 15, 3) := by decide +kernel
theorem dX10_sizeOf_22 : decode cX10_sizeOf 22 = .ok (.imul, 1) := by decide +kernel
theorem dX10_sizeOf_23 : decode cX10_sizeOf 23 = .ok (.ireturn, 1) := by decide +kernel
theorem dX10_placeBefore_0 : decode cX10_placeBefore 0 = .ok (.aload_n 0, 1) := by decide +kernel
theorem dX10_placeBefore_1 : decode cX10_placeBefore 1 = .ok (.getfield 9, 3) := by decide +kernel
theorem dX10_placeBefore_4 : decode cX10_placeBefore 4 = .ok (.aload_n 0, 1) := by decide +kernel
theorem dX10_placeBefore_5 : decode cX10_placeBefore 5 = .ok (.getfield 15, 3) := by decide +kernel
theorem dX10_placeBefore_8 : decode cX10_placeBefore 8 = .ok (.imul, 1) := by decide +kernel
theorem dX10_placeBefore_9 : decode cX10_placeBefore 9 = .ok (.istore_n 2, 1) := by decide +kernel
theorem dX10_placeBefore_10 : decode cX10_placeBefore 10 = .ok (.iload_n 2, 1) := by decide +kernel
theorem dX10_placeBefore_11 : decode cX10_placeBefore 11 = .ok (.ifCond .le 10, 3) := by decide +kernel
theorem dX10_placeBefore_14 : decode cX10_placeBefore 14 = .ok (.aload_n 0, 1) := by decide +kernel
theorem dX10_placeBefore_15 : decode cX10_placeBefore 15 = .ok (.getfield 9, 3) := by decide +kernel
theorem dX10_placeBefore_18 : decode cX10_placeBefore 18 = .ok (.ifCond .gt 5, 3) := by decide +kernel
theorem dX10_placeBefore_21 : decode cX10_placeBefore 21 = .ok (.iload_n 1, 1) := by decide +kernel
theorem dX10_placeBefore_22 : decode cX10_placeBefore 22 = .ok (.ireturn, 1) := by decide +kernel
theorem dX10_placeBefore_23 : decode cX10_placeBefore 23 = .ok (.iload_n 1, 1) := by decide +kernel
theorem dX10_placeBefore_24 : decode cX10_placeBefore 24 = .ok (.iload_n 2, 1) := by decide +kernel
theorem dX10_placeBefore_25 : decode cX10_placeBefore 25 = .ok (.irem, 1) := by decide +kernel
theorem dX10_placeBefore_26 : decode cX10_placeBefore 26 = .ok (.istore_n 3, 1) := by decide +kernel
theorem dX10_placeBefore_27 : decode cX10_placeBefore 27 = .ok (.iload_n 1, 1) := by decide +kernel
theorem dX10_placeBefore_28 : decode cX10_placeBefore 28 = .ok (.iload_n 3, 1) := by decide +kernel
theorem dX10_placeBefore_29 : decode cX10_placeBefore 29 = .ok (.isub, 1) := by decide +kernel
theorem dX10_placeBefore_30 : decode cX10_placeBefore 30 = .ok (.iload_n 3, 1) := by decide +kernel
theorem dX10_placeBefore_31 : decode cX10_placeBefore 31 = .ok (.aload_n 0, 1) := by decide +kernel
theorem dX10_placeBefore_32 : decode cX10_placeBefore 32 = .ok (.getfield 9, 3) := by decide +kernel
theorem dX10_placeBefore_35 : decode cX10_placeBefore 35 = .ok (.irem, 1) := by decide +kernel
theorem dX10_placeBefore_36 : decode cX10_placeBefore 36 = .ok (.aload_n 0, 1) := by decide +kernel
theorem dX10_placeBefore_37 : decode cX10_placeBefore 37 = .ok (.getfield 15, 3) := by decide +kernel
theorem dX10_placeBefore_40 : decode cX10_placeBefore 40 = .ok (.imul, 1) := by decide +kernel
theorem dX10_placeBefore_41 : decode cX10_placeBefore 41 = .ok (.iadd, 1) := by decide +kernel
theorem dX10_placeBefore_42 : decode cX10_placeBefore 42 = .ok (.iload_n 3, 1) := by decide +kernel
theorem dX10_placeBefore_43 : decode cX10_placeBefore 43 = .ok (.aload_n 0, 1) := by decide +kernel
theorem dX10_placeBefore_44 : decode cX10_placeBefore 44 = .ok (.getfield 9, 3) := by decide +kernel
theorem dX10_placeBefore_47 : decode cX10_placeBefore 47 = .ok (.idiv, 1) := by decide +kernel
theorem dX10_placeBefore_48 : decode cX10_placeBefore 48 = .ok (.iadd, 1) := by decide +kernel
theorem dX10_placeBefore_49 : decode cX10_placeBefore 49 = .ok (.ireturn, 1) := by decide +kernel
theorem dX10_code_0 : decode cX10_code 0 = .ok (.iconst 0, 1) := by decide +kernel
theorem dX10_code_1 : decode cX10_code 1 = .ok (.istore_n 3, 1) := by decide +kernel
theorem dX10_code_2 : decode cX10_code 2 = .ok (.iload_n 3, 1) := by decide +kernel
theorem dX10_code_3 : decode cX10_code 3 = .ok (.aload_n 2, 1) := by decide +kernel
theorem dX10_code_4 : decode cX10_code 4 = .ok (.invokevirtual 22, 3) := by decide +kernel
theorem dX10_code_7 : decode cX10_code 7 = .ok (.if_icmp .ge 24, 3) := by decide +kernel
theorem dX10_code_10 : decode cX10_code 10 = .ok (.aload_n 2, 1) := by decide +kernel
theorem dX10_code_11 : decode cX10_code 11 = .ok (.iload_n 3, 1) := by decide +kernel
theorem dX10_code_12 : decode cX10_code 12 = .ok (.aload_n 1, 1) := by decide +kernel
theorem dX10_code_13 : decode cX10_code 13 = .ok (.aload_n 0, 1) := by decide +kernel
theorem dX10_code_14 : decode cX10_code 14 = .ok (.iload_n 3, 1) := by decide +kernel
theorem dX10_code_15 : decode cX10_code 15 = .ok (.invokevirtual 28, 3) := by decide +kernel
theorem dX10_code_18 : decode cX10_code 18 = .ok (.iconst 1, 1) := by decide +kernel
theorem dX10_code_19 : decode cX10_code 19 = .ok (.invokevirtual 32, 3) := by decide +kernel
theorem dX10_code_22 : decode cX10_code 22 = .ok (.invokevirtual 35, 3) := by decide +kernel
theorem dX10_code_25 : decode cX10_code 25 = .ok (.iinc 3 1, 3) := by decide +kernel
theorem dX10_code_28 : decode cX10_code 28 = .ok (.goto (-26), 3) := by decide +kernel
theorem dX10_code_31 : decode cX10_code 31 = .ok (.return_, 1) := by decide +kernel
theorem dX10_decode_0 : decode cX10_decode 0 = .ok (.iconst 0, 1) := by decide +kernel
theorem dX10_decode_1 : decode cX10_decode 1 = .ok (.istore_n 3, 1) := by decide +kernel
theorem dX10_decode_2 : decode cX10_decode 2 = .ok (.iload_n 3, 1) := by decide +kernel
theorem dX10_decode_3 : decode cX10_decode 3 = .ok (.aload_n 1, 1) := by decide +kernel
theorem dX10_decode_4 : decode cX10_decode 4 = .ok (.invokevirtual 22, 3) := by decide +kernel
theorem dX10_decode_7 : decode cX10_decode 7 = .ok (.if_icmp .ge 23, 3) := by decide +kernel
theorem dX10_decode_10 : decode cX10_decode 10 = .ok (.aload_n 2, 1) := by decide +kernel
theorem dX10_decode_11 : decode cX10_decode 11 = .ok (.aload_n 0, 1) := by decide +kernel
theorem dX10_decode_12 : decode cX10_decode 12 = .ok (.iload_n 3, 1) := by decide +kernel
theorem dX10_decode_13 : decode cX10_decode 13 = .ok (.invokevirtual 28, 3) := by decide +kernel
theorem dX10_decode_16 : decode cX10_decode 16 = .ok (.aload_n 1, 1) := by decide +kernel
theorem dX10_decode_17 : decode cX10_decode 17 = .ok (.iload_n 3, 1) := by decide +kernel
theorem dX10_decode_18 : decode cX10_decode 18 = .ok (.invokevirtual 39, 3) := by decide +kernel
theorem dX10_decode_21 : decode cX10_decode 21 = .ok (.invokevirtual 35, 3) := by decide +kernel
theorem dX10_decode_24 : decode cX10_decode 24 = .ok (.iinc 3 1, 3) := by decide +kernel
theorem dX10_decode_27 : decode cX10_decode 27 = .ok (.goto (-25), 3) := by decide +kernel
theorem dX10_decode_30 : decode cX10_decode 30 = .ok (.return_, 1) := by decide +kernel
theorem dJ6_bitCount_0f7a4_0 : decode cJ6_bitCount_0f7a4 0 = .ok (.iload_n 0, 1) := by decide +kernel
theorem dJ6_bitCount_0f7a4_1 : decode cJ6_bitCount_0f7a4 1 = .ok (.iload_n 0, 1) := by decide +kernel
theorem dJ6_bitCount_0f7a4_2 : decode cJ6_bitCount_0f7a4 2 = .ok (.iconst 1, 1) := by decide +kernel
theorem dJ6_bitCount_0f7a4_3 : decode cJ6_bitCount_0f7a4 3 = .ok (.iushr, 1) := by decide +kernel
theorem dJ6_bitCount_0f7a4_4 : decode cJ6_bitCount_0f7a4 4 = .ok (.ldc_w 265, 3) := by decide +kernel
theorem dJ6_bitCount_0f7a4_7 : decode cJ6_bitCount_0f7a4 7 = .ok (.iand, 1) := by decide +kernel
theorem dJ6_bitCount_0f7a4_8 : decode cJ6_bitCount_0f7a4 8 = .ok (.isub, 1) := by decide +kernel
theorem dJ6_bitCount_0f7a4_9 : decode cJ6_bitCount_0f7a4 9 = .ok (.istore_n 0, 1) := by decide +kernel
theorem dJ6_bitCount_0f7a4_10 : decode cJ6_bitCount_0f7a4 10 = .ok (.iload_n 0, 1) := by decide +kernel
theorem dJ6_bitCount_0f7a4_11 : decode cJ6_bitCount_0f7a4 11 = .ok (.ldc_w 266, 3) := by decide +kernel
theorem dJ6_bitCount_0f7a4_14 : decode cJ6_bitCount_0f7a4 14 = .ok (.iand, 1) := by decide +kernel
theorem dJ6_bitCount_0f7a4_15 : decode cJ6_bitCount_0f7a4 15 = .ok (.iload_n 0, 1) := by decide +kernel
theorem dJ6_bitCount_0f7a4_16 : decode cJ6_bitCount_0f7a4 16 = .ok (.iconst 2, 1) := by decide +kernel
theorem dJ6_bitCount_0f7a4_17 : decode cJ6_bitCount_0f7a4 17 = .ok (.iushr, 1) := by decide +kernel
theorem dJ6_bitCount_0f7a4_18 : decode cJ6_bitCount_0f7a4 18 = .ok (.ldc_w 266, 3) := by decide +kernel
theorem dJ6_bitCount_0f7a4_21 : decode cJ6_bitCount_0f7a4 21 = .ok (.iand, 1) := by decide +kernel
theorem dJ6_bitCount_0f7a4_22 : decode cJ6_bitCount_0f7a4 22 = .ok (.iadd, 1) := by decide +kernel
theorem dJ6_bitCount_0f7a4_23 : decode cJ6_bitCount_0f7a4 23 = .ok (.istore_n 0, 1) := by decide +kernel
theorem dJ6_bitCount_0f7a4_24 : decode cJ6_bitCount_0f7a4 24 = .ok (.iload_n 0, 1) := by decide +kernel
theorem dJ6_bitCount_0f7a4_25 : decode cJ6_bitCount_0f7a4 25 = .ok (.iload_n 0, 1) := by decide +kernel
theorem dJ6_bitCount_0f7a4_26 : decode cJ6_bitCount_0f7a4 26 = .ok (.iconst 4, 1) := by decide +kernel
theorem dJ6_bitCount_0f7a4_27 : decode cJ6_bitCount_0f7a4 27 = .ok (.iushr, 1) := by decide +kernel
theorem dJ6_bitCount_0f7a4_28 : decode cJ6_bitCount_0f7a4 28 = .ok (.iadd, 1) := by decide +kernel
theorem dJ6_bitCount_0f7a4_29 : decode cJ6_bitCount_0f7a4 29 = .ok (.ldc_w 267, 3) := by decide +kernel
theorem dJ6_bitCount_0f7a4_32 : decode cJ6_bitCount_0f7a4 32 = .ok (.iand, 1) := by decide +kernel
theorem dJ6_bitCount_0f7a4_33 : decode cJ6_bitCount_0f7a4 33 = .ok (.istore_n 0, 1) := by decide +kernel
theorem dJ6_bitCount_0f7a4_34 : decode cJ6_bitCount_0f7a4 34 = .ok (.iload_n 0, 1) := by decide +kernel
theorem dJ6_bitCount_0f7a4_35 : decode cJ6_bitCount_0f7a4 35 = .ok (.iload_n 0, 1) := by decide +kernel
theorem dJ6_bitCount_0f7a4_36 : decode cJ6_bitCount_0f7a4 36 = .ok (.bipush 8, 2) := by decide +kernel
theorem dJ6_bitCount_0f7a4_38 : decode cJ6_bitCount_0f7a4 38 = .ok (.iushr, 1) := by decide +kernel
theorem dJ6_bitCount_0f7a4_39 : decode cJ6_bitCount_0f7a4 39 = .ok (.iadd, 1) := by decide +kernel
theorem dJ6_bitCount_0f7a4_40 : decode cJ6_bitCount_0f7a4 40 = .ok (.istore_n 0, 1) := by decide +kernel
theorem dJ6_bitCount_0f7a4_41 : decode cJ6_bitCount_0f7a4 41 = .ok (.iload_n 0, 1) := by decide +kernel
theorem dJ6_bitCount_0f7a4_42 : decode cJ6_bitCount_0f7a4 42 = .ok (.iload_n 0, 1) := by decide +kernel
theorem dJ6_bitCount_0f7a4_43 : decode cJ6_bitCount_0f7a4 43 = .ok (.bipush 16, 2) := by decide +kernel
theorem dJ6_bitCount_0f7a4_45 : decode cJ6_bitCount_0f7a4 45 = .ok (.iushr, 1) := by decide +kernel
theorem dJ6_bitCount_0f7a4_46 : decode cJ6_bitCount_0f7a4 46 = .ok (.iadd, 1) := by decide +kernel
theorem dJ6_bitCount_0f7a4_47 : decode cJ6_bitCount_0f7a4 47 = .ok (.istore_n 0, 1) := by decide +kernel
theorem dJ6_bitCount_0f7a4_48 : decode cJ6_bitCount_0f7a4 48 = .ok (.iload_n 0, 1) := by decide +kernel
theorem dJ6_bitCount_0f7a4_49 : decode cJ6_bitCount_0f7a4 49 = .ok (.bipush 63, 2) := by decide +kernel
theorem dJ6_bitCount_0f7a4_51 : decode cJ6_bitCount_0f7a4 51 = .ok (.iand, 1) := by decide +kernel
theorem dJ6_bitCount_0f7a4_52 : decode cJ6_bitCount_0f7a4 52 = .ok (.ireturn, 1) := by decide +kernel
theorem dJ9_max_7cf53_0 : decode cJ9_max_7cf53 0 = .ok (.iload_n 0, 1) := by decide +kernel
theorem dJ9_max_7cf53_1 : decode cJ9_max_7cf53 1 = .ok (.iload_n 1, 1) := by decide +kernel
theorem dJ9_max_7cf53_2 : decode cJ9_max_7cf53 2 = .ok (.if_icmp .lt 7, 3) := by decide +kernel
theorem dJ9_max_7cf53_5 : decode cJ9_max_7cf53 5 = .ok (.iload_n 0, 1) := by decide +kernel
theorem dJ9_max_7cf53_6 : decode cJ9_max_7cf53 6 = .ok (.goto 4, 3) := by decide +kernel
theorem dJ9_max_7cf53_9 : decode cJ9_max_7cf53 9 = .ok (.iload_n 1, 1) := by decide +kernel
theorem dJ9_max_7cf53_10 : decode cJ9_max_7cf53 10 = .ok (.ireturn, 1) := by decide +kernel
theorem dJ9_min_7cf53_0 : decode cJ9_min_7cf53 0 = .ok (.iload_n 0, 1) := by decide +kernel
theorem dJ9_min_7cf53_1 : decode cJ9_min_7cf53 1 = .ok (.iload_n 1, 1) := by decide +kernel
theorem dJ9_min_7cf53_2 : decode cJ9_min_7cf53 2 = .ok (.if_icmp .gt 7, 3) := by decide +kernel
theorem dJ9_min_7cf53_5 : decode cJ9_min_7cf53 5 = .ok (.iload_n 0, 1) := by decide +kernel
theorem dJ9_min_7cf53_6 : decode cJ9_min_7cf53 6 = .ok (.goto 4, 3) := by decide +kernel
theorem dJ9_min_7cf53_9 : decode cJ9_min_7cf53 9 = .ok (.iload_n 1, 1) := by decide +kernel
theorem dJ9_min_7cf53_10 : decode cJ9_min_7cf53 10 = .ok (.ireturn, 1) := by decide +kernel
